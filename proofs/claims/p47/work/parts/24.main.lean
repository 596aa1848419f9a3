def dt63_X11_begin : List (Nat × Instr × Nat) := [(36, (.aload_n 0, 1)), (37, (.getfield 10, 3)), (40, (.getfield 126, 3)), (43, (.istore_n 3, 1)), (44, (.aload_n 0, 1)), (45, (.getfield 10, 3)), (48, (.iload_n 1, 1)), (49, (.iload_n 2, 1)), (50, (.invokevirtual 130, 3)), (53, (.iload_n 3, 1)), (54, (.ireturn, 1)), (0, (.iload_n 1, 1)), (1, (.bipush 8, 2)), (3, (.invokestatic 106, 3)), (6, (.iload_n 2, 1)), (7, (.iconst (-1), 1)), (8, (.if_icmp .eq 28, 3)), (11, (.iload_n 2, 1)), (12, (.aload_n 0, 1)), (13, (.getfield 10, 3)), (16, (.getfield 110, 3)), (19, (.invokestatic 106, 3)), (22, (.aload_n 0, 1)), (23, (.getfield 10, 3)), (26, (.iload_n 2, 1)), (27, (.invokevirtual 113, 3)), (30, (.invokevirtual 117, 3)), (33, (.invokestatic 123, 3))]
theorem dt63_X11_begin_ok : ∀ q ∈ dt63_X11_begin, decode cX11_begin q.1 = .ok q.2 := by decide +kernel
theorem dX11_begin_36 : decode cX11_begin 36 = .ok (.aload_n 0, 1) := g_dec dt63_X11_begin_ok (k := 0) rfl
theorem dX11_begin_37 : decode cX11_begin 37 = .ok (.getfield 10, 3) := g_dec dt63_X11_begin_ok (k := 1) rfl
theorem dX11_begin_40 : decode cX11_begin 40 = .ok (.getfield 126, 3) := g_dec dt63_X11_begin_ok (k := 2) rfl
theorem dX11_begin_43 : decode cX11_begin 43 = .ok (.istore_n 3, 1) := g_dec dt63_X11_begin_ok (k := 3) rfl
theorem dX11_begin_44 : decode cX11_begin 44 = .ok (.aload_n 0, 1) := g_dec dt63_X11_begin_ok (k := 4) rfl
theorem dX11_begin_45 : decode cX11_begin 45 = .ok (.getfield 10, 3) := g_dec dt63_X11_begin_ok (k := 5) rfl
theorem dX11_begin_48 : decode cX11_begin 48 = .ok (.iload_n 1, 1) := g_dec dt63_X11_begin_ok (k := 6) rfl
theorem dX11_begin_49 : decode cX11_begin 49 = .ok (.iload_n 2, 1) := g_dec dt63_X11_begin_ok (k := 7) rfl
theorem dX11_begin_50 : decode cX11_begin 50 = .ok (.invokevirtual 130, 3) := g_dec dt63_X11_begin_ok (k := 8) rfl
theorem dX11_begin_53 : decode cX11_begin 53 = .ok (.iload_n 3, 1) := g_dec dt63_X11_begin_ok (k := 9) rfl
theorem dX11_begin_54 : decode cX11_begin 54 = .ok (.ireturn, 1) := g_dec dt63_X11_begin_ok (k := 10) rfl
theorem dX11_begin_0 : decode cX11_begin 0 = .ok (.iload_n 1, 1) := g_dec dt63_X11_begin_ok (k := 11) rfl
theorem dX11_begin_1 : decode cX11_begin 1 = .ok (.bipush 8, 2) := g_dec dt63_X11_begin_ok (k := 12) rfl
theorem dX11_begin_3 : decode cX11_begin 3 = .ok (.invokestatic 106, 3) := g_dec dt63_X11_begin_ok (k := 13) rfl
theorem dX11_begin_6 : decode cX11_begin 6 = .ok (.iload_n 2, 1) := g_dec dt63_X11_begin_ok (k := 14) rfl
theorem dX11_begin_7 : decode cX11_begin 7 = .ok (.iconst (-1), 1) := g_dec dt63_X11_begin_ok (k := 15) rfl
theorem dX11_begin_8 : decode cX11_begin 8 = .ok (.if_icmp .eq 28, 3) := g_dec dt63_X11_begin_ok (k := 16) rfl
theorem dX11_begin_11 : decode cX11_begin 11 = .ok (.iload_n 2, 1) := g_dec dt63_X11_begin_ok (k := 17) rfl
theorem dX11_begin_12 : decode cX11_begin 12 = .ok (.aload_n 0, 1) := g_dec dt63_X11_begin_ok (k := 18) rfl
theorem dX11_begin_13 : decode cX11_begin 13 = .ok (.getfield 10, 3) := g_dec dt63_X11_begin_ok (k := 19) rfl
theorem dX11_begin_16 : decode cX11_begin 16 = .ok (.getfield 110, 3) := g_dec dt63_X11_begin_ok (k := 20) rfl
theorem dX11_begin_19 : decode cX11_begin 19 = .ok (.invokestatic 106, 3) := g_dec dt63_X11_begin_ok (k := 21) rfl
theorem dX11_begin_22 : decode cX11_begin 22 = .ok (.aload_n 0, 1) := g_dec dt63_X11_begin_ok (k := 22) rfl
theorem dX11_begin_23 : decode cX11_begin 23 = .ok (.getfield 10, 3) := g_dec dt63_X11_begin_ok (k := 23) rfl
theorem dX11_begin_26 : decode cX11_begin 26 = .ok (.iload_n 2, 1) := g_dec dt63_X11_begin_ok (k := 24) rfl
theorem dX11_begin_27 : decode cX11_begin 27 = .ok (.invokevirtual 113, 3) := g_dec dt63_X11_begin_ok (k := 25) rfl
theorem dX11_begin_30 : decode cX11_begin 30 = .ok (.invokevirtual 117, 3) := g_dec dt63_X11_begin_ok (k := 26) rfl
theorem dX11_begin_33 : decode cX11_begin 33 = .ok (.invokestatic 123, 3) := g_dec dt63_X11_begin_ok (k := 27) rfl
def dt64_X11_edit : List (Nat × Instr × Nat) := [(51, (.invokestatic 123, 3)), (54, (.aload_n 3, 1)), (55, (.iload_n 1, 1)), (56, (.iload_n 2, 1)), (57, (.invokevirtual 150, 3)), (60, (.aload_n 3, 1)), (61, (.getfield 141, 3)), (64, (.invokestatic 144, 3)), (67, (.ireturn, 1)), (0, (.iload_n 1, 1)), (1, (.bipush 12, 2)), (3, (.invokestatic 106, 3)), (6, (.iload_n 2, 1)), (7, (.iconst 0, 1)), (8, (.bipush 9, 2)), (10, (.invokestatic 133, 3)), (13, (.aload_n 0, 1)), (14, (.getfield 10, 3)), (17, (.getfield 126, 3)), (20, (.invokestatic 123, 3)), (23, (.aload_n 0, 1)), (24, (.getfield 10, 3)), (27, (.getfield 137, 3)), (30, (.astore_n 3, 1)), (31, (.aload_n 3, 1)), (32, (.getfield 141, 3)), (35, (.iconst 1, 1)), (36, (.iload_n 1, 1)), (37, (.ishl, 1)), (38, (.ior, 1)), (39, (.invokestatic 144, 3)), (42, (.iconst 4, 1)), (43, (.if_icmp .gt 7, 3)), (50, (.iconst 0, 1)), (46, (.iconst 1, 1)), (47, (.goto 4, 3))]
theorem dt64_X11_edit_ok : ∀ q ∈ dt64_X11_edit, decode cX11_edit q.1 = .ok q.2 := by decide +kernel
theorem dX11_edit_51 : decode cX11_edit 51 = .ok (.invokestatic 123, 3) := g_dec dt64_X11_edit_ok (k := 0) rfl
theorem dX11_edit_54 : decode cX11_edit 54 = .ok (.aload_n 3, 1) := g_dec dt64_X11_edit_ok (k := 1) rfl
theorem dX11_edit_55 : decode cX11_edit 55 = .ok (.iload_n 1, 1) := g_dec dt64_X11_edit_ok (k := 2) rfl
theorem dX11_edit_56 : decode cX11_edit 56 = .ok (.iload_n 2, 1) := g_dec dt64_X11_edit_ok (k := 3) rfl
theorem dX11_edit_57 : decode cX11_edit 57 = .ok (.invokevirtual 150, 3) := g_dec dt64_X11_edit_ok (k := 4) rfl
theorem dX11_edit_60 : decode cX11_edit 60 = .ok (.aload_n 3, 1) := g_dec dt64_X11_edit_ok (k := 5) rfl
theorem dX11_edit_61 : decode cX11_edit 61 = .ok (.getfield 141, 3) := g_dec dt64_X11_edit_ok (k := 6) rfl
theorem dX11_edit_64 : decode cX11_edit 64 = .ok (.invokestatic 144, 3) := g_dec dt64_X11_edit_ok (k := 7) rfl
theorem dX11_edit_67 : decode cX11_edit 67 = .ok (.ireturn, 1) := g_dec dt64_X11_edit_ok (k := 8) rfl
theorem dX11_edit_0 : decode cX11_edit 0 = .ok (.iload_n 1, 1) := g_dec dt64_X11_edit_ok (k := 9) rfl
theorem dX11_edit_1 : decode cX11_edit 1 = .ok (.bipush 12, 2) := g_dec dt64_X11_edit_ok (k := 10) rfl
theorem dX11_edit_3 : decode cX11_edit 3 = .ok (.invokestatic 106, 3) := g_dec dt64_X11_edit_ok (k := 11) rfl
theorem dX11_edit_6 : decode cX11_edit 6 = .ok (.iload_n 2, 1) := g_dec dt64_X11_edit_ok (k := 12) rfl
theorem dX11_edit_7 : decode cX11_edit 7 = .ok (.iconst 0, 1) := g_dec dt64_X11_edit_ok (k := 13) rfl
theorem dX11_edit_8 : decode cX11_edit 8 = .ok (.bipush 9, 2) := g_dec dt64_X11_edit_ok (k := 14) rfl
theorem dX11_edit_10 : decode cX11_edit 10 = .ok (.invokestatic 133, 3) := g_dec dt64_X11_edit_ok (k := 15) rfl
theorem dX11_edit_13 : decode cX11_edit 13 = .ok (.aload_n 0, 1) := g_dec dt64_X11_edit_ok (k := 16) rfl
theorem dX11_edit_14 : decode cX11_edit 14 = .ok (.getfield 10, 3) := g_dec dt64_X11_edit_ok (k := 17) rfl
theorem dX11_edit_17 : decode cX11_edit 17 = .ok (.getfield 126, 3) := g_dec dt64_X11_edit_ok (k := 18) rfl
theorem dX11_edit_20 : decode cX11_edit 20 = .ok (.invokestatic 123, 3) := g_dec dt64_X11_edit_ok (k := 19) rfl
theorem dX11_edit_23 : decode cX11_edit 23 = .ok (.aload_n 0, 1) := g_dec dt64_X11_edit_ok (k := 20) rfl
theorem dX11_edit_24 : decode cX11_edit 24 = .ok (.getfield 10, 3) := g_dec dt64_X11_edit_ok (k := 21) rfl
theorem dX11_edit_27 : decode cX11_edit 27 = .ok (.getfield 137, 3) := g_dec dt64_X11_edit_ok (k := 22) rfl
theorem dX11_edit_30 : decode cX11_edit 30 = .ok (.astore_n 3, 1) := g_dec dt64_X11_edit_ok (k := 23) rfl
theorem dX11_edit_31 : decode cX11_edit 31 = .ok (.aload_n 3, 1) := g_dec dt64_X11_edit_ok (k := 24) rfl
theorem dX11_edit_32 : decode cX11_edit 32 = .ok (.getfield 141, 3) := g_dec dt64_X11_edit_ok (k := 25) rfl
theorem dX11_edit_35 : decode cX11_edit 35 = .ok (.iconst 1, 1) := g_dec dt64_X11_edit_ok (k := 26) rfl
theorem dX11_edit_36 : decode cX11_edit 36 = .ok (.iload_n 1, 1) := g_dec dt64_X11_edit_ok (k := 27) rfl
theorem dX11_edit_37 : decode cX11_edit 37 = .ok (.ishl, 1) := g_dec dt64_X11_edit_ok (k := 28) rfl
theorem dX11_edit_38 : decode cX11_edit 38 = .ok (.ior, 1) := g_dec dt64_X11_edit_ok (k := 29) rfl
theorem dX11_edit_39 : decode cX11_edit 39 = .ok (.invokestatic 144, 3) := g_dec dt64_X11_edit_ok (k := 30) rfl
theorem dX11_edit_42 : decode cX11_edit 42 = .ok (.iconst 4, 1) := g_dec dt64_X11_edit_ok (k := 31) rfl
theorem dX11_edit_43 : decode cX11_edit 43 = .ok (.if_icmp .gt 7, 3) := g_dec dt64_X11_edit_ok (k := 32) rfl
theorem dX11_edit_50 : decode cX11_edit 50 = .ok (.iconst 0, 1) := g_dec dt64_X11_edit_ok (k := 33) rfl
theorem dX11_edit_46 : decode cX11_edit 46 = .ok (.iconst 1, 1) := g_dec dt64_X11_edit_ok (k := 34) rfl
theorem dX11_edit_47 : decode cX11_edit 47 = .ok (.goto 4, 3) := g_dec dt64_X11_edit_ok (k := 35) rfl
def dt65_X11_trunkTree : List (Nat × Instr × Nat) := [(0, (.aload_n 0, 1)), (1, (.getfield 76, 3)), (4, (.aload_n 0, 1)), (5, (.getfield 76, 3)), (8, (.getfield 217, 3)), (11, (.iconst 1, 1)), (12, (.isub, 1)), (13, (.invokevirtual 218, 3)), (16, (.lreturn, 1))]
theorem dt65_X11_trunkTree_ok : ∀ q ∈ dt65_X11_trunkTree, decode cX11_trunkTree q.1 = .ok q.2 := by decide +kernel
theorem dX11_trunkTree_0 : decode cX11_trunkTree 0 = .ok (.aload_n 0, 1) := g_dec dt65_X11_trunkTree_ok (k := 0) rfl
theorem dX11_trunkTree_1 : decode cX11_trunkTree 1 = .ok (.getfield 76, 3) := g_dec dt65_X11_trunkTree_ok (k := 1) rfl
theorem dX11_trunkTree_4 : decode cX11_trunkTree 4 = .ok (.aload_n 0, 1) := g_dec dt65_X11_trunkTree_ok (k := 2) rfl
theorem dX11_trunkTree_5 : decode cX11_trunkTree 5 = .ok (.getfield 76, 3) := g_dec dt65_X11_trunkTree_ok (k := 3) rfl
theorem dX11_trunkTree_8 : decode cX11_trunkTree 8 = .ok (.getfield 217, 3) := g_dec dt65_X11_trunkTree_ok (k := 4) rfl
theorem dX11_trunkTree_11 : decode cX11_trunkTree 11 = .ok (.iconst 1, 1) := g_dec dt65_X11_trunkTree_ok (k := 5) rfl
theorem dX11_trunkTree_12 : decode cX11_trunkTree 12 = .ok (.isub, 1) := g_dec dt65_X11_trunkTree_ok (k := 6) rfl
theorem dX11_trunkTree_13 : decode cX11_trunkTree 13 = .ok (.invokevirtual 218, 3) := g_dec dt65_X11_trunkTree_ok (k := 7) rfl
theorem dX11_trunkTree_16 : decode cX11_trunkTree 16 = .ok (.lreturn, 1) := g_dec dt65_X11_trunkTree_ok (k := 8) rfl
def dt66_X11_make : List (Nat × Instr × Nat) := [(104, (.invokestatic 123, 3)), (107, (.aload_n 0, 1)), (108, (.getfield 10, 3)), (111, (.lload_n 2, 1)), (112, (.invokevirtual 168, 3)), (115, (.ireturn, 1)), (75, (.invokestatic 123, 3)), (78, (.aload_n 0, 1)), (79, (.getfield 10, 3)), (82, (.aload_n 1, 1)), (83, (.aload_n 0, 1)), (84, (.invokevirtual 156, 3)), (87, (.invokevirtual 160, 3)), (90, (.lstore_n 2, 1)), (91, (.aload_n 1, 1)), (92, (.lload_n 2, 1)), (93, (.invokevirtual 164, 3)), (96, (.ifCond .ne 7, 3)), (103, (.iconst 0, 1)), (99, (.iconst 1, 1)), (100, (.goto 4, 3)), (70, (.iconst 1, 1)), (71, (.goto 4, 3)), (42, (.invokestatic 123, 3)), (45, (.aload_n 1, 1)), (46, (.getfield 153, 3)), (49, (.iconst (-1), 1)), (50, (.if_icmp .eq 20, 3)), (53, (.aload_n 0, 1)), (54, (.getfield 10, 3)), (57, (.aload_n 1, 1)), (58, (.getfield 153, 3)), (61, (.invokevirtual 113, 3)), (64, (.invokevirtual 117, 3)), (67, (.ifCond .eq 7, 3)), (74, (.iconst 0, 1)), (41, (.iconst 0, 1)), (0, (.aload_n 0, 1)), (1, (.getfield 10, 3)), (4, (.getfield 137, 3)), (7, (.astore_n 1, 1)), (8, (.aload_n 0, 1)), (9, (.getfield 10, 3)), (12, (.getfield 126, 3)), (15, (.ifCond .eq 26, 3)), (18, (.aload_n 1, 1)), (19, (.getfield 141, 3)), (22, (.ifCond .eq 19, 3)), (25, (.aload_n 0, 1)), (26, (.getfield 10, 3)), (29, (.getfield 110, 3)), (32, (.bipush 60, 2)), (34, (.if_icmp .ge 7, 3)), (37, (.iconst 1, 1)), (38, (.goto 4, 3))]
theorem dt66_X11_make_ok : ∀ q ∈ dt66_X11_make, decode cX11_make q.1 = .ok q.2 := by decide +kernel
theorem dX11_make_104 : decode cX11_make 104 = .ok (.invokestatic 123, 3) := g_dec dt66_X11_make_ok (k := 0) rfl
theorem dX11_make_107 : decode cX11_make 107 = .ok (.aload_n 0, 1) := g_dec dt66_X11_make_ok (k := 1) rfl
theorem dX11_make_108 : decode cX11_make 108 = .ok (.getfield 10, 3) := g_dec dt66_X11_make_ok (k := 2) rfl
theorem dX11_make_111 : decode cX11_make 111 = .ok (.lload_n 2, 1) := g_dec dt66_X11_make_ok (k := 3) rfl
theorem dX11_make_112 : decode cX11_make 112 = .ok (.invokevirtual 168, 3) := g_dec dt66_X11_make_ok (k := 4) rfl
theorem dX11_make_115 : decode cX11_make 115 = .ok (.ireturn, 1) := g_dec dt66_X11_make_ok (k := 5) rfl
theorem dX11_make_75 : decode cX11_make 75 = .ok (.invokestatic 123, 3) := g_dec dt66_X11_make_ok (k := 6) rfl
theorem dX11_make_78 : decode cX11_make 78 = .ok (.aload_n 0, 1) := g_dec dt66_X11_make_ok (k := 7) rfl
theorem dX11_make_79 : decode cX11_make 79 = .ok (.getfield 10, 3) := g_dec dt66_X11_make_ok (k := 8) rfl
theorem dX11_make_82 : decode cX11_make 82 = .ok (.aload_n 1, 1) := g_dec dt66_X11_make_ok (k := 9) rfl
theorem dX11_make_83 : decode cX11_make 83 = .ok (.aload_n 0, 1) := g_dec dt66_X11_make_ok (k := 10) rfl
theorem dX11_make_84 : decode cX11_make 84 = .ok (.invokevirtual 156, 3) := g_dec dt66_X11_make_ok (k := 11) rfl
theorem dX11_make_87 : decode cX11_make 87 = .ok (.invokevirtual 160, 3) := g_dec dt66_X11_make_ok (k := 12) rfl
theorem dX11_make_90 : decode cX11_make 90 = .ok (.lstore_n 2, 1) := g_dec dt66_X11_make_ok (k := 13) rfl
theorem dX11_make_91 : decode cX11_make 91 = .ok (.aload_n 1, 1) := g_dec dt66_X11_make_ok (k := 14) rfl
theorem dX11_make_92 : decode cX11_make 92 = .ok (.lload_n 2, 1) := g_dec dt66_X11_make_ok (k := 15) rfl
theorem dX11_make_93 : decode cX11_make 93 = .ok (.invokevirtual 164, 3) := g_dec dt66_X11_make_ok (k := 16) rfl
theorem dX11_make_96 : decode cX11_make 96 = .ok (.ifCond .ne 7, 3) := g_dec dt66_X11_make_ok (k := 17) rfl
theorem dX11_make_103 : decode cX11_make 103 = .ok (.iconst 0, 1) := g_dec dt66_X11_make_ok (k := 18) rfl
theorem dX11_make_99 : decode cX11_make 99 = .ok (.iconst 1, 1) := g_dec dt66_X11_make_ok (k := 19) rfl
theorem dX11_make_100 : decode cX11_make 100 = .ok (.goto 4, 3) := g_dec dt66_X11_make_ok (k := 20) rfl
theorem dX11_make_70 : decode cX11_make 70 = .ok (.iconst 1, 1) := g_dec dt66_X11_make_ok (k := 21) rfl
theorem dX11_make_71 : decode cX11_make 71 = .ok (.goto 4, 3) := g_dec dt66_X11_make_ok (k := 22) rfl
theorem dX11_make_42 : decode cX11_make 42 = .ok (.invokestatic 123, 3) := g_dec dt66_X11_make_ok (k := 23) rfl
theorem dX11_make_45 : decode cX11_make 45 = .ok (.aload_n 1, 1) := g_dec dt66_X11_make_ok (k := 24) rfl
theorem dX11_make_46 : decode cX11_make 46 = .ok (.getfield 153, 3) := g_dec dt66_X11_make_ok (k := 25) rfl
theorem dX11_make_49 : decode cX11_make 49 = .ok (.iconst (-1), 1) := g_dec dt66_X11_make_ok (k := 26) rfl
theorem dX11_make_50 : decode cX11_make 50 = .ok (.if_icmp .eq 20, 3) := g_dec dt66_X11_make_ok (k := 27) rfl
theorem dX11_make_53 : decode cX11_make 53 = .ok (.aload_n 0, 1) := g_dec dt66_X11_make_ok (k := 28) rfl
theorem dX11_make_54 : decode cX11_make 54 = .ok (.getfield 10, 3) := g_dec dt66_X11_make_ok (k := 29) rfl
theorem dX11_make_57 : decode cX11_make 57 = .ok (.aload_n 1, 1) := g_dec dt66_X11_make_ok (k := 30) rfl
theorem dX11_make_58 : decode cX11_make 58 = .ok (.getfield 153, 3) := g_dec dt66_X11_make_ok (k := 31) rfl
theorem dX11_make_61 : decode cX11_make 61 = .ok (.invokevirtual 113, 3) := g_dec dt66_X11_make_ok (k := 32) rfl
theorem dX11_make_64 : decode cX11_make 64 = .ok (.invokevirtual 117, 3) := g_dec dt66_X11_make_ok (k := 33) rfl
theorem dX11_make_67 : decode cX11_make 67 = .ok (.ifCond .eq 7, 3) := g_dec dt66_X11_make_ok (k := 34) rfl
theorem dX11_make_74 : decode cX11_make 74 = .ok (.iconst 0, 1) := g_dec dt66_X11_make_ok (k := 35) rfl
theorem dX11_make_41 : decode cX11_make 41 = .ok (.iconst 0, 1) := g_dec dt66_X11_make_ok (k := 36) rfl
theorem dX11_make_0 : decode cX11_make 0 = .ok (.aload_n 0, 1) := g_dec dt66_X11_make_ok (k := 37) rfl
theorem dX11_make_1 : decode cX11_make 1 = .ok (.getfield 10, 3) := g_dec dt66_X11_make_ok (k := 38) rfl
theorem dX11_make_4 : decode cX11_make 4 = .ok (.getfield 137, 3) := g_dec dt66_X11_make_ok (k := 39) rfl
theorem dX11_make_7 : decode cX11_make 7 = .ok (.astore_n 1, 1) := g_dec dt66_X11_make_ok (k := 40) rfl
theorem dX11_make_8 : decode cX11_make 8 = .ok (.aload_n 0, 1) := g_dec dt66_X11_make_ok (k := 41) rfl
theorem dX11_make_9 : decode cX11_make 9 = .ok (.getfield 10, 3) := g_dec dt66_X11_make_ok (k := 42) rfl
theorem dX11_make_12 : decode cX11_make 12 = .ok (.getfield 126, 3) := g_dec dt66_X11_make_ok (k := 43) rfl
theorem dX11_make_15 : decode cX11_make 15 = .ok (.ifCond .eq 26, 3) := g_dec dt66_X11_make_ok (k := 44) rfl
theorem dX11_make_18 : decode cX11_make 18 = .ok (.aload_n 1, 1) := g_dec dt66_X11_make_ok (k := 45) rfl
theorem dX11_make_19 : decode cX11_make 19 = .ok (.getfield 141, 3) := g_dec dt66_X11_make_ok (k := 46) rfl
theorem dX11_make_22 : decode cX11_make 22 = .ok (.ifCond .eq 19, 3) := g_dec dt66_X11_make_ok (k := 47) rfl
theorem dX11_make_25 : decode cX11_make 25 = .ok (.aload_n 0, 1) := g_dec dt66_X11_make_ok (k := 48) rfl
theorem dX11_make_26 : decode cX11_make 26 = .ok (.getfield 10, 3) := g_dec dt66_X11_make_ok (k := 49) rfl
theorem dX11_make_29 : decode cX11_make 29 = .ok (.getfield 110, 3) := g_dec dt66_X11_make_ok (k := 50) rfl
theorem dX11_make_32 : decode cX11_make 32 = .ok (.bipush 60, 2) := g_dec dt66_X11_make_ok (k := 51) rfl
theorem dX11_make_34 : decode cX11_make 34 = .ok (.if_icmp .ge 7, 3) := g_dec dt66_X11_make_ok (k := 52) rfl
theorem dX11_make_37 : decode cX11_make 37 = .ok (.iconst 1, 1) := g_dec dt66_X11_make_ok (k := 53) rfl
theorem dX11_make_38 : decode cX11_make 38 = .ok (.goto 4, 3) := g_dec dt66_X11_make_ok (k := 54) rfl
def dt67_X11_rebase : List (Nat × Instr × Nat) := [(151, (.iload 5, 2)), (153, (.ireturn, 1)), (110, (.iinc 6 1, 3)), (113, (.goto (-43), 3)), (70, (.iload 6, 2)), (72, (.bipush 12, 2)), (74, (.if_icmp .ge 42, 3)), (116, (.aload_n 2, 1)), (117, (.lload_n 3, 1)), (118, (.putfield 183, 3)), (121, (.aload_n 2, 1)), (122, (.getfield 153, 3)), (125, (.iconst (-1), 1)), (126, (.if_icmp .eq 25, 3)), (129, (.aload_n 0, 1)), (130, (.getfield 10, 3)), (133, (.aload_n 2, 1)), (134, (.getfield 153, 3)), (137, (.invokevirtual 113, 3)), (140, (.invokevirtual 117, 3)), (143, (.ifCond .ne 8, 3)), (146, (.aload_n 2, 1)), (147, (.iconst (-1), 1)), (148, (.putfield 153, 3)), (77, (.aload_n 2, 1)), (78, (.getfield 141, 3)), (81, (.iload 6, 2)), (83, (.invokestatic 175, 3)), (86, (.ifCond .eq 24, 3)), (89, (.lload_n 3, 1)), (90, (.iload 6, 2)), (92, (.invokestatic 179, 3)), (95, (.aload_n 2, 1)), (96, (.getfield 183, 3)), (99, (.iload 6, 2)), (101, (.invokestatic 179, 3)), (104, (.if_icmp .eq 6, 3)), (107, (.iinc 5 1, 3)), (61, (.invokestatic 123, 3)), (64, (.iconst 0, 1)), (65, (.istore 5, 2)), (67, (.iconst 0, 1)), (68, (.istore 6, 2)), (32, (.invokestatic 123, 3)), (35, (.aload_n 0, 1)), (36, (.getfield 10, 3)), (39, (.aload_n 2, 1)), (40, (.aload_n 0, 1)), (41, (.invokevirtual 156, 3)), (44, (.invokevirtual 160, 3)), (47, (.lstore_n 3, 1)), (48, (.aload_n 2, 1)), (49, (.lload_n 3, 1)), (50, (.invokevirtual 164, 3)), (53, (.ifCond .ne 7, 3)), (60, (.iconst 0, 1)), (56, (.iconst 1, 1)), (57, (.goto 4, 3)), (0, (.iload_n 1, 1)), (1, (.aload_n 0, 1))]
theorem dt67_X11_rebase_ok : ∀ q ∈ dt67_X11_rebase, decode cX11_rebase q.1 = .ok q.2 := by decide +kernel
theorem dX11_rebase_151 : decode cX11_rebase 151 = .ok (.iload 5, 2) := g_dec dt67_X11_rebase_ok (k := 0) rfl
theorem dX11_rebase_153 : decode cX11_rebase 153 = .ok (.ireturn, 1) := g_dec dt67_X11_rebase_ok (k := 1) rfl
theorem dX11_rebase_110 : decode cX11_rebase 110 = .ok (.iinc 6 1, 3) := g_dec dt67_X11_rebase_ok (k := 2) rfl
theorem dX11_rebase_113 : decode cX11_rebase 113 = .ok (.goto (-43), 3) := g_dec dt67_X11_rebase_ok (k := 3) rfl
theorem dX11_rebase_70 : decode cX11_rebase 70 = .ok (.iload 6, 2) := g_dec dt67_X11_rebase_ok (k := 4) rfl
theorem dX11_rebase_72 : decode cX11_rebase 72 = .ok (.bipush 12, 2) := g_dec dt67_X11_rebase_ok (k := 5) rfl
theorem dX11_rebase_74 : decode cX11_rebase 74 = .ok (.if_icmp .ge 42, 3) := g_dec dt67_X11_rebase_ok (k := 6) rfl
theorem dX11_rebase_116 : decode cX11_rebase 116 = .ok (.aload_n 2, 1) := g_dec dt67_X11_rebase_ok (k := 7) rfl
theorem dX11_rebase_117 : decode cX11_rebase 117 = .ok (.lload_n 3, 1) := g_dec dt67_X11_rebase_ok (k := 8) rfl
theorem dX11_rebase_118 : decode cX11_rebase 118 = .ok (.putfield 183, 3) := g_dec dt67_X11_rebase_ok (k := 9) rfl
theorem dX11_rebase_121 : decode cX11_rebase 121 = .ok (.aload_n 2, 1) := g_dec dt67_X11_rebase_ok (k := 10) rfl
theorem dX11_rebase_122 : decode cX11_rebase 122 = .ok (.getfield 153, 3) := g_dec dt67_X11_rebase_ok (k := 11) rfl
theorem dX11_rebase_125 : decode cX11_rebase 125 = .ok (.iconst (-1), 1) := g_dec dt67_X11_rebase_ok (k := 12) rfl
theorem dX11_rebase_126 : decode cX11_rebase 126 = .ok (.if_icmp .eq 25, 3) := g_dec dt67_X11_rebase_ok (k := 13) rfl
theorem dX11_rebase_129 : decode cX11_rebase 129 = .ok (.aload_n 0, 1) := g_dec dt67_X11_rebase_ok (k := 14) rfl
theorem dX11_rebase_130 : decode cX11_rebase 130 = .ok (.getfield 10, 3) := g_dec dt67_X11_rebase_ok (k := 15) rfl
theorem dX11_rebase_133 : decode cX11_rebase 133 = .ok (.aload_n 2, 1) := g_dec dt67_X11_rebase_ok (k := 16) rfl
theorem dX11_rebase_134 : decode cX11_rebase 134 = .ok (.getfield 153, 3) := g_dec dt67_X11_rebase_ok (k := 17) rfl
theorem dX11_rebase_137 : decode cX11_rebase 137 = .ok (.invokevirtual 113, 3) := g_dec dt67_X11_rebase_ok (k := 18) rfl
theorem dX11_rebase_140 : decode cX11_rebase 140 = .ok (.invokevirtual 117, 3) := g_dec dt67_X11_rebase_ok (k := 19) rfl
theorem dX11_rebase_143 : decode cX11_rebase 143 = .ok (.ifCond .ne 8, 3) := g_dec dt67_X11_rebase_ok (k := 20) rfl
theorem dX11_rebase_146 : decode cX11_rebase 146 = .ok (.aload_n 2, 1) := g_dec dt67_X11_rebase_ok (k := 21) rfl
theorem dX11_rebase_147 : decode cX11_rebase 147 = .ok (.iconst (-1), 1) := g_dec dt67_X11_rebase_ok (k := 22) rfl
theorem dX11_rebase_148 : decode cX11_rebase 148 = .ok (.putfield 153, 3) := g_dec dt67_X11_rebase_ok (k := 23) rfl
theorem dX11_rebase_77 : decode cX11_rebase 77 = .ok (.aload_n 2, 1) := g_dec dt67_X11_rebase_ok (k := 24) rfl
theorem dX11_rebase_78 : decode cX11_rebase 78 = .ok (.getfield 141, 3) := g_dec dt67_X11_rebase_ok (k := 25) rfl
theorem dX11_rebase_81 : decode cX11_rebase 81 = .ok (.iload 6, 2) := g_dec dt67_X11_rebase_ok (k := 26) rfl
theorem dX11_rebase_83 : decode cX11_rebase 83 = .ok (.invokestatic 175, 3) := g_dec dt67_X11_rebase_ok (k := 27) rfl
theorem dX11_rebase_86 : decode cX11_rebase 86 = .ok (.ifCond .eq 24, 3) := g_dec dt67_X11_rebase_ok (k := 28) rfl
theorem dX11_rebase_89 : decode cX11_rebase 89 = .ok (.lload_n 3, 1) := g_dec dt67_X11_rebase_ok (k := 29) rfl
theorem dX11_rebase_90 : decode cX11_rebase 90 = .ok (.iload 6, 2) := g_dec dt67_X11_rebase_ok (k := 30) rfl
theorem dX11_rebase_92 : decode cX11_rebase 92 = .ok (.invokestatic 179, 3) := g_dec dt67_X11_rebase_ok (k := 31) rfl
theorem dX11_rebase_95 : decode cX11_rebase 95 = .ok (.aload_n 2, 1) := g_dec dt67_X11_rebase_ok (k := 32) rfl
theorem dX11_rebase_96 : decode cX11_rebase 96 = .ok (.getfield 183, 3) := g_dec dt67_X11_rebase_ok (k := 33) rfl
theorem dX11_rebase_99 : decode cX11_rebase 99 = .ok (.iload 6, 2) := g_dec dt67_X11_rebase_ok (k := 34) rfl
theorem dX11_rebase_101 : decode cX11_rebase 101 = .ok (.invokestatic 179, 3) := g_dec dt67_X11_rebase_ok (k := 35) rfl
theorem dX11_rebase_104 : decode cX11_rebase 104 = .ok (.if_icmp .eq 6, 3) := g_dec dt67_X11_rebase_ok (k := 36) rfl
theorem dX11_rebase_107 : decode cX11_rebase 107 = .ok (.iinc 5 1, 3) := g_dec dt67_X11_rebase_ok (k := 37) rfl
theorem dX11_rebase_61 : decode cX11_rebase 61 = .ok (.invokestatic 123, 3) := g_dec dt67_X11_rebase_ok (k := 38) rfl
theorem dX11_rebase_64 : decode cX11_rebase 64 = .ok (.iconst 0, 1) := g_dec dt67_X11_rebase_ok (k := 39) rfl
theorem dX11_rebase_65 : decode cX11_rebase 65 = .ok (.istore 5, 2) := g_dec dt67_X11_rebase_ok (k := 40) rfl
theorem dX11_rebase_67 : decode cX11_rebase 67 = .ok (.iconst 0, 1) := g_dec dt67_X11_rebase_ok (k := 41) rfl
theorem dX11_rebase_68 : decode cX11_rebase 68 = .ok (.istore 6, 2) := g_dec dt67_X11_rebase_ok (k := 42) rfl
theorem dX11_rebase_32 : decode cX11_rebase 32 = .ok (.invokestatic 123, 3) := g_dec dt67_X11_rebase_ok (k := 43) rfl
theorem dX11_rebase_35 : decode cX11_rebase 35 = .ok (.aload_n 0, 1) := g_dec dt67_X11_rebase_ok (k := 44) rfl
theorem dX11_rebase_36 : decode cX11_rebase 36 = .ok (.getfield 10, 3) := g_dec dt67_X11_rebase_ok (k := 45) rfl
theorem dX11_rebase_39 : decode cX11_rebase 39 = .ok (.aload_n 2, 1) := g_dec dt67_X11_rebase_ok (k := 46) rfl
theorem dX11_rebase_40 : decode cX11_rebase 40 = .ok (.aload_n 0, 1) := g_dec dt67_X11_rebase_ok (k := 47) rfl
theorem dX11_rebase_41 : decode cX11_rebase 41 = .ok (.invokevirtual 156, 3) := g_dec dt67_X11_rebase_ok (k := 48) rfl
theorem dX11_rebase_44 : decode cX11_rebase 44 = .ok (.invokevirtual 160, 3) := g_dec dt67_X11_rebase_ok (k := 49) rfl
theorem dX11_rebase_47 : decode cX11_rebase 47 = .ok (.lstore_n 3, 1) := g_dec dt67_X11_rebase_ok (k := 50) rfl
theorem dX11_rebase_48 : decode cX11_rebase 48 = .ok (.aload_n 2, 1) := g_dec dt67_X11_rebase_ok (k := 51) rfl
theorem dX11_rebase_49 : decode cX11_rebase 49 = .ok (.lload_n 3, 1) := g_dec dt67_X11_rebase_ok (k := 52) rfl
theorem dX11_rebase_50 : decode cX11_rebase 50 = .ok (.invokevirtual 164, 3) := g_dec dt67_X11_rebase_ok (k := 53) rfl
theorem dX11_rebase_53 : decode cX11_rebase 53 = .ok (.ifCond .ne 7, 3) := g_dec dt67_X11_rebase_ok (k := 54) rfl
theorem dX11_rebase_60 : decode cX11_rebase 60 = .ok (.iconst 0, 1) := g_dec dt67_X11_rebase_ok (k := 55) rfl
theorem dX11_rebase_56 : decode cX11_rebase 56 = .ok (.iconst 1, 1) := g_dec dt67_X11_rebase_ok (k := 56) rfl
theorem dX11_rebase_57 : decode cX11_rebase 57 = .ok (.goto 4, 3) := g_dec dt67_X11_rebase_ok (k := 57) rfl
theorem dX11_rebase_0 : decode cX11_rebase 0 = .ok (.iload_n 1, 1) := g_dec dt67_X11_rebase_ok (k := 58) rfl
theorem dX11_rebase_1 : decode cX11_rebase 1 = .ok (.aload_n 0, 1) := g_dec dt67_X11_rebase_ok (k := 59) rfl
def dt68_X11_rebase : List (Nat × Instr × Nat) := [(2, (.getfield 10, 3)), (5, (.getfield 110, 3)), (8, (.invokestatic 106, 3)), (11, (.aload_n 0, 1)), (12, (.getfield 10, 3)), (15, (.iload_n 1, 1)), (16, (.invokevirtual 113, 3)), (19, (.astore_n 2, 1)), (20, (.aload_n 2, 1)), (21, (.getfield 172, 3)), (24, (.ifCond .ne 7, 3)), (31, (.iconst 0, 1)), (27, (.iconst 1, 1)), (28, (.goto 4, 3))]
theorem dt68_X11_rebase_ok : ∀ q ∈ dt68_X11_rebase, decode cX11_rebase q.1 = .ok q.2 := by decide +kernel
theorem dX11_rebase_2 : decode cX11_rebase 2 = .ok (.getfield 10, 3) := g_dec dt68_X11_rebase_ok (k := 0) rfl
theorem dX11_rebase_5 : decode cX11_rebase 5 = .ok (.getfield 110, 3) := g_dec dt68_X11_rebase_ok (k := 1) rfl
theorem dX11_rebase_8 : decode cX11_rebase 8 = .ok (.invokestatic 106, 3) := g_dec dt68_X11_rebase_ok (k := 2) rfl
theorem dX11_rebase_11 : decode cX11_rebase 11 = .ok (.aload_n 0, 1) := g_dec dt68_X11_rebase_ok (k := 3) rfl
theorem dX11_rebase_12 : decode cX11_rebase 12 = .ok (.getfield 10, 3) := g_dec dt68_X11_rebase_ok (k := 4) rfl
theorem dX11_rebase_15 : decode cX11_rebase 15 = .ok (.iload_n 1, 1) := g_dec dt68_X11_rebase_ok (k := 5) rfl
theorem dX11_rebase_16 : decode cX11_rebase 16 = .ok (.invokevirtual 113, 3) := g_dec dt68_X11_rebase_ok (k := 6) rfl
theorem dX11_rebase_19 : decode cX11_rebase 19 = .ok (.astore_n 2, 1) := g_dec dt68_X11_rebase_ok (k := 7) rfl
theorem dX11_rebase_20 : decode cX11_rebase 20 = .ok (.aload_n 2, 1) := g_dec dt68_X11_rebase_ok (k := 8) rfl
theorem dX11_rebase_21 : decode cX11_rebase 21 = .ok (.getfield 172, 3) := g_dec dt68_X11_rebase_ok (k := 9) rfl
theorem dX11_rebase_24 : decode cX11_rebase 24 = .ok (.ifCond .ne 7, 3) := g_dec dt68_X11_rebase_ok (k := 10) rfl
theorem dX11_rebase_31 : decode cX11_rebase 31 = .ok (.iconst 0, 1) := g_dec dt68_X11_rebase_ok (k := 11) rfl
theorem dX11_rebase_27 : decode cX11_rebase 27 = .ok (.iconst 1, 1) := g_dec dt68_X11_rebase_ok (k := 12) rfl
theorem dX11_rebase_28 : decode cX11_rebase 28 = .ok (.goto 4, 3) := g_dec dt68_X11_rebase_ok (k := 13) rfl
def dt69_X11_stir : List (Nat × Instr × Nat) := [(0, (.aload_n 0, 1)), (1, (.getfield 33, 3)), (4, (.iconst 0, 1)), (5, (.putfield 385, 3)), (8, (.aload_n 0, 1)), (9, (.iconst 0, 1)), (10, (.putfield 388, 3)), (13, (.return_, 1))]
theorem dt69_X11_stir_ok : ∀ q ∈ dt69_X11_stir, decode cX11_stir q.1 = .ok q.2 := by decide +kernel
theorem dX11_stir_0 : decode cX11_stir 0 = .ok (.aload_n 0, 1) := g_dec dt69_X11_stir_ok (k := 0) rfl
theorem dX11_stir_1 : decode cX11_stir 1 = .ok (.getfield 33, 3) := g_dec dt69_X11_stir_ok (k := 1) rfl
theorem dX11_stir_4 : decode cX11_stir 4 = .ok (.iconst 0, 1) := g_dec dt69_X11_stir_ok (k := 2) rfl
theorem dX11_stir_5 : decode cX11_stir 5 = .ok (.putfield 385, 3) := g_dec dt69_X11_stir_ok (k := 3) rfl
theorem dX11_stir_8 : decode cX11_stir 8 = .ok (.aload_n 0, 1) := g_dec dt69_X11_stir_ok (k := 4) rfl
theorem dX11_stir_9 : decode cX11_stir 9 = .ok (.iconst 0, 1) := g_dec dt69_X11_stir_ok (k := 5) rfl
theorem dX11_stir_10 : decode cX11_stir 10 = .ok (.putfield 388, 3) := g_dec dt69_X11_stir_ok (k := 6) rfl
theorem dX11_stir_13 : decode cX11_stir 13 = .ok (.return_, 1) := g_dec dt69_X11_stir_ok (k := 7) rfl
def dt70_X11_putInQueue : List (Nat × Instr × Nat) := [(0, (.aload_n 1, 1)), (1, (.iconst 1, 1)), (2, (.putfield 172, 3)), (5, (.aload_n 1, 1)), (6, (.iload_n 2, 1)), (7, (.putfield 395, 3)), (10, (.aload_n 1, 1)), (11, (.aload_n 0, 1)), (12, (.getfield 33, 3)), (15, (.getfield 398, 3)), (18, (.putfield 401, 3)), (21, (.aload_n 0, 1)), (22, (.getfield 33, 3)), (25, (.dup, 1)), (26, (.getfield 398, 3)), (29, (.iconst 1, 1)), (30, (.iadd, 1)), (31, (.putfield 398, 3)), (34, (.aload_n 0, 1)), (35, (.invokevirtual 230, 3)), (38, (.return_, 1))]
theorem dt70_X11_putInQueue_ok : ∀ q ∈ dt70_X11_putInQueue, decode cX11_putInQueue q.1 = .ok q.2 := by decide +kernel
theorem dX11_putInQueue_0 : decode cX11_putInQueue 0 = .ok (.aload_n 1, 1) := g_dec dt70_X11_putInQueue_ok (k := 0) rfl
theorem dX11_putInQueue_1 : decode cX11_putInQueue 1 = .ok (.iconst 1, 1) := g_dec dt70_X11_putInQueue_ok (k := 1) rfl
theorem dX11_putInQueue_2 : decode cX11_putInQueue 2 = .ok (.putfield 172, 3) := g_dec dt70_X11_putInQueue_ok (k := 2) rfl
theorem dX11_putInQueue_5 : decode cX11_putInQueue 5 = .ok (.aload_n 1, 1) := g_dec dt70_X11_putInQueue_ok (k := 3) rfl
theorem dX11_putInQueue_6 : decode cX11_putInQueue 6 = .ok (.iload_n 2, 1) := g_dec dt70_X11_putInQueue_ok (k := 4) rfl
theorem dX11_putInQueue_7 : decode cX11_putInQueue 7 = .ok (.putfield 395, 3) := g_dec dt70_X11_putInQueue_ok (k := 5) rfl
theorem dX11_putInQueue_10 : decode cX11_putInQueue 10 = .ok (.aload_n 1, 1) := g_dec dt70_X11_putInQueue_ok (k := 6) rfl
theorem dX11_putInQueue_11 : decode cX11_putInQueue 11 = .ok (.aload_n 0, 1) := g_dec dt70_X11_putInQueue_ok (k := 7) rfl
theorem dX11_putInQueue_12 : decode cX11_putInQueue 12 = .ok (.getfield 33, 3) := g_dec dt70_X11_putInQueue_ok (k := 8) rfl
theorem dX11_putInQueue_15 : decode cX11_putInQueue 15 = .ok (.getfield 398, 3) := g_dec dt70_X11_putInQueue_ok (k := 9) rfl
theorem dX11_putInQueue_18 : decode cX11_putInQueue 18 = .ok (.putfield 401, 3) := g_dec dt70_X11_putInQueue_ok (k := 10) rfl
theorem dX11_putInQueue_21 : decode cX11_putInQueue 21 = .ok (.aload_n 0, 1) := g_dec dt70_X11_putInQueue_ok (k := 11) rfl
theorem dX11_putInQueue_22 : decode cX11_putInQueue 22 = .ok (.getfield 33, 3) := g_dec dt70_X11_putInQueue_ok (k := 12) rfl
theorem dX11_putInQueue_25 : decode cX11_putInQueue 25 = .ok (.dup, 1) := g_dec dt70_X11_putInQueue_ok (k := 13) rfl
theorem dX11_putInQueue_26 : decode cX11_putInQueue 26 = .ok (.getfield 398, 3) := g_dec dt70_X11_putInQueue_ok (k := 14) rfl
theorem dX11_putInQueue_29 : decode cX11_putInQueue 29 = .ok (.iconst 1, 1) := g_dec dt70_X11_putInQueue_ok (k := 15) rfl
theorem dX11_putInQueue_30 : decode cX11_putInQueue 30 = .ok (.iadd, 1) := g_dec dt70_X11_putInQueue_ok (k := 16) rfl
theorem dX11_putInQueue_31 : decode cX11_putInQueue 31 = .ok (.putfield 398, 3) := g_dec dt70_X11_putInQueue_ok (k := 17) rfl
theorem dX11_putInQueue_34 : decode cX11_putInQueue 34 = .ok (.aload_n 0, 1) := g_dec dt70_X11_putInQueue_ok (k := 18) rfl
theorem dX11_putInQueue_35 : decode cX11_putInQueue 35 = .ok (.invokevirtual 230, 3) := g_dec dt70_X11_putInQueue_ok (k := 19) rfl
theorem dX11_putInQueue_38 : decode cX11_putInQueue 38 = .ok (.return_, 1) := g_dec dt70_X11_putInQueue_ok (k := 20) rfl
def dt71_X11_formBatches : List (Nat × Instr × Nat) := [(84, (.return_, 1)), (12, (.iload_n 1, 1)), (13, (.aload_n 0, 1)), (14, (.getfield 10, 3)), (17, (.getfield 110, 3)), (20, (.if_icmp .ge 30, 3)), (50, (.aload_n 0, 1)), (51, (.getfield 33, 3)), (54, (.aload_n 0, 1)), (55, (.getfield 10, 3)), (58, (.invokevirtual 408, 3)), (61, (.aload_n 0, 1)), (62, (.getfield 33, 3)), (65, (.aload_n 0, 1)), (66, (.getfield 10, 3)), (69, (.aload_n 0, 1)), (70, (.invokevirtual 156, 3)), (73, (.invokevirtual 412, 3)), (76, (.aload_n 0, 1)), (77, (.getfield 33, 3)), (80, (.iconst 1, 1)), (81, (.putfield 385, 3)), (23, (.aload_n 0, 1)), (24, (.getfield 10, 3)), (27, (.iload_n 1, 1)), (28, (.invokevirtual 113, 3)), (31, (.astore_n 2, 1)), (32, (.aload_n 2, 1)), (33, (.aload_n 0, 1)), (34, (.getfield 19, 3)), (37, (.aload_n 2, 1)), (38, (.invokevirtual 298, 3)), (41, (.putfield 324, 3)), (44, (.iinc 1 1, 3)), (47, (.goto (-35), 3)), (0, (.aload_n 0, 1)), (1, (.getfield 33, 3)), (4, (.getfield 385, 3)), (7, (.ifCond .ne 77, 3)), (10, (.iconst 0, 1)), (11, (.istore_n 1, 1))]
theorem dt71_X11_formBatches_ok : ∀ q ∈ dt71_X11_formBatches, decode cX11_formBatches q.1 = .ok q.2 := by decide +kernel
theorem dX11_formBatches_84 : decode cX11_formBatches 84 = .ok (.return_, 1) := g_dec dt71_X11_formBatches_ok (k := 0) rfl
theorem dX11_formBatches_12 : decode cX11_formBatches 12 = .ok (.iload_n 1, 1) := g_dec dt71_X11_formBatches_ok (k := 1) rfl
theorem dX11_formBatches_13 : decode cX11_formBatches 13 = .ok (.aload_n 0, 1) := g_dec dt71_X11_formBatches_ok (k := 2) rfl
theorem dX11_formBatches_14 : decode cX11_formBatches 14 = .ok (.getfield 10, 3) := g_dec dt71_X11_formBatches_ok (k := 3) rfl
theorem dX11_formBatches_17 : decode cX11_formBatches 17 = .ok (.getfield 110, 3) := g_dec dt71_X11_formBatches_ok (k := 4) rfl
theorem dX11_formBatches_20 : decode cX11_formBatches 20 = .ok (.if_icmp .ge 30, 3) := g_dec dt71_X11_formBatches_ok (k := 5) rfl
theorem dX11_formBatches_50 : decode cX11_formBatches 50 = .ok (.aload_n 0, 1) := g_dec dt71_X11_formBatches_ok (k := 6) rfl
theorem dX11_formBatches_51 : decode cX11_formBatches 51 = .ok (.getfield 33, 3) := g_dec dt71_X11_formBatches_ok (k := 7) rfl
theorem dX11_formBatches_54 : decode cX11_formBatches 54 = .ok (.aload_n 0, 1) := g_dec dt71_X11_formBatches_ok (k := 8) rfl
theorem dX11_formBatches_55 : decode cX11_formBatches 55 = .ok (.getfield 10, 3) := g_dec dt71_X11_formBatches_ok (k := 9) rfl
theorem dX11_formBatches_58 : decode cX11_formBatches 58 = .ok (.invokevirtual 408, 3) := g_dec dt71_X11_formBatches_ok (k := 10) rfl
theorem dX11_formBatches_61 : decode cX11_formBatches 61 = .ok (.aload_n 0, 1) := g_dec dt71_X11_formBatches_ok (k := 11) rfl
theorem dX11_formBatches_62 : decode cX11_formBatches 62 = .ok (.getfield 33, 3) := g_dec dt71_X11_formBatches_ok (k := 12) rfl
theorem dX11_formBatches_65 : decode cX11_formBatches 65 = .ok (.aload_n 0, 1) := g_dec dt71_X11_formBatches_ok (k := 13) rfl
theorem dX11_formBatches_66 : decode cX11_formBatches 66 = .ok (.getfield 10, 3) := g_dec dt71_X11_formBatches_ok (k := 14) rfl
theorem dX11_formBatches_69 : decode cX11_formBatches 69 = .ok (.aload_n 0, 1) := g_dec dt71_X11_formBatches_ok (k := 15) rfl
theorem dX11_formBatches_70 : decode cX11_formBatches 70 = .ok (.invokevirtual 156, 3) := g_dec dt71_X11_formBatches_ok (k := 16) rfl
theorem dX11_formBatches_73 : decode cX11_formBatches 73 = .ok (.invokevirtual 412, 3) := g_dec dt71_X11_formBatches_ok (k := 17) rfl
theorem dX11_formBatches_76 : decode cX11_formBatches 76 = .ok (.aload_n 0, 1) := g_dec dt71_X11_formBatches_ok (k := 18) rfl
theorem dX11_formBatches_77 : decode cX11_formBatches 77 = .ok (.getfield 33, 3) := g_dec dt71_X11_formBatches_ok (k := 19) rfl
theorem dX11_formBatches_80 : decode cX11_formBatches 80 = .ok (.iconst 1, 1) := g_dec dt71_X11_formBatches_ok (k := 20) rfl
theorem dX11_formBatches_81 : decode cX11_formBatches 81 = .ok (.putfield 385, 3) := g_dec dt71_X11_formBatches_ok (k := 21) rfl
theorem dX11_formBatches_23 : decode cX11_formBatches 23 = .ok (.aload_n 0, 1) := g_dec dt71_X11_formBatches_ok (k := 22) rfl
theorem dX11_formBatches_24 : decode cX11_formBatches 24 = .ok (.getfield 10, 3) := g_dec dt71_X11_formBatches_ok (k := 23) rfl
theorem dX11_formBatches_27 : decode cX11_formBatches 27 = .ok (.iload_n 1, 1) := g_dec dt71_X11_formBatches_ok (k := 24) rfl
theorem dX11_formBatches_28 : decode cX11_formBatches 28 = .ok (.invokevirtual 113, 3) := g_dec dt71_X11_formBatches_ok (k := 25) rfl
theorem dX11_formBatches_31 : decode cX11_formBatches 31 = .ok (.astore_n 2, 1) := g_dec dt71_X11_formBatches_ok (k := 26) rfl
theorem dX11_formBatches_32 : decode cX11_formBatches 32 = .ok (.aload_n 2, 1) := g_dec dt71_X11_formBatches_ok (k := 27) rfl
theorem dX11_formBatches_33 : decode cX11_formBatches 33 = .ok (.aload_n 0, 1) := g_dec dt71_X11_formBatches_ok (k := 28) rfl
theorem dX11_formBatches_34 : decode cX11_formBatches 34 = .ok (.getfield 19, 3) := g_dec dt71_X11_formBatches_ok (k := 29) rfl
theorem dX11_formBatches_37 : decode cX11_formBatches 37 = .ok (.aload_n 2, 1) := g_dec dt71_X11_formBatches_ok (k := 30) rfl
theorem dX11_formBatches_38 : decode cX11_formBatches 38 = .ok (.invokevirtual 298, 3) := g_dec dt71_X11_formBatches_ok (k := 31) rfl
theorem dX11_formBatches_41 : decode cX11_formBatches 41 = .ok (.putfield 324, 3) := g_dec dt71_X11_formBatches_ok (k := 32) rfl
theorem dX11_formBatches_44 : decode cX11_formBatches 44 = .ok (.iinc 1 1, 3) := g_dec dt71_X11_formBatches_ok (k := 33) rfl
theorem dX11_formBatches_47 : decode cX11_formBatches 47 = .ok (.goto (-35), 3) := g_dec dt71_X11_formBatches_ok (k := 34) rfl
theorem dX11_formBatches_0 : decode cX11_formBatches 0 = .ok (.aload_n 0, 1) := g_dec dt71_X11_formBatches_ok (k := 35) rfl
theorem dX11_formBatches_1 : decode cX11_formBatches 1 = .ok (.getfield 33, 3) := g_dec dt71_X11_formBatches_ok (k := 36) rfl
theorem dX11_formBatches_4 : decode cX11_formBatches 4 = .ok (.getfield 385, 3) := g_dec dt71_X11_formBatches_ok (k := 37) rfl
theorem dX11_formBatches_7 : decode cX11_formBatches 7 = .ok (.ifCond .ne 77, 3) := g_dec dt71_X11_formBatches_ok (k := 38) rfl
theorem dX11_formBatches_10 : decode cX11_formBatches 10 = .ok (.iconst 0, 1) := g_dec dt71_X11_formBatches_ok (k := 39) rfl
theorem dX11_formBatches_11 : decode cX11_formBatches 11 = .ok (.istore_n 1, 1) := g_dec dt71_X11_formBatches_ok (k := 40) rfl
def dt72_X11_isApproved : List (Nat × Instr × Nat) := [(43, (.iinc 2 1, 3)), (46, (.goto (-44), 3)), (2, (.iload_n 2, 1)), (3, (.bipush 12, 2)), (5, (.if_icmp .ge 44, 3)), (49, (.iconst 1, 1)), (50, (.ireturn, 1)), (8, (.aload_n 0, 1)), (9, (.getfield 84, 3)), (12, (.iload_n 2, 1)), (13, (.invokevirtual 187, 3)), (16, (.istore_n 3, 1)), (17, (.aload_n 1, 1)), (18, (.getfield 141, 3)), (21, (.iload_n 2, 1)), (22, (.invokestatic 175, 3)), (25, (.ifCond .eq 18, 3)), (28, (.iload_n 3, 1)), (29, (.iconst (-1), 1)), (30, (.if_icmp .eq 13, 3)), (33, (.aload_n 1, 1)), (34, (.iload_n 3, 1)), (35, (.invokevirtual 391, 3)), (38, (.ifCond .ne 5, 3)), (41, (.iconst 0, 1)), (42, (.ireturn, 1)), (0, (.iconst 0, 1)), (1, (.istore_n 2, 1))]
theorem dt72_X11_isApproved_ok : ∀ q ∈ dt72_X11_isApproved, decode cX11_isApproved q.1 = .ok q.2 := by decide +kernel
theorem dX11_isApproved_43 : decode cX11_isApproved 43 = .ok (.iinc 2 1, 3) := g_dec dt72_X11_isApproved_ok (k := 0) rfl
theorem dX11_isApproved_46 : decode cX11_isApproved 46 = .ok (.goto (-44), 3) := g_dec dt72_X11_isApproved_ok (k := 1) rfl
theorem dX11_isApproved_2 : decode cX11_isApproved 2 = .ok (.iload_n 2, 1) := g_dec dt72_X11_isApproved_ok (k := 2) rfl
theorem dX11_isApproved_3 : decode cX11_isApproved 3 = .ok (.bipush 12, 2) := g_dec dt72_X11_isApproved_ok (k := 3) rfl
theorem dX11_isApproved_5 : decode cX11_isApproved 5 = .ok (.if_icmp .ge 44, 3) := g_dec dt72_X11_isApproved_ok (k := 4) rfl
theorem dX11_isApproved_49 : decode cX11_isApproved 49 = .ok (.iconst 1, 1) := g_dec dt72_X11_isApproved_ok (k := 5) rfl
theorem dX11_isApproved_50 : decode cX11_isApproved 50 = .ok (.ireturn, 1) := g_dec dt72_X11_isApproved_ok (k := 6) rfl
theorem dX11_isApproved_8 : decode cX11_isApproved 8 = .ok (.aload_n 0, 1) := g_dec dt72_X11_isApproved_ok (k := 7) rfl
theorem dX11_isApproved_9 : decode cX11_isApproved 9 = .ok (.getfield 84, 3) := g_dec dt72_X11_isApproved_ok (k := 8) rfl
theorem dX11_isApproved_12 : decode cX11_isApproved 12 = .ok (.iload_n 2, 1) := g_dec dt72_X11_isApproved_ok (k := 9) rfl
theorem dX11_isApproved_13 : decode cX11_isApproved 13 = .ok (.invokevirtual 187, 3) := g_dec dt72_X11_isApproved_ok (k := 10) rfl
theorem dX11_isApproved_16 : decode cX11_isApproved 16 = .ok (.istore_n 3, 1) := g_dec dt72_X11_isApproved_ok (k := 11) rfl
theorem dX11_isApproved_17 : decode cX11_isApproved 17 = .ok (.aload_n 1, 1) := g_dec dt72_X11_isApproved_ok (k := 12) rfl
theorem dX11_isApproved_18 : decode cX11_isApproved 18 = .ok (.getfield 141, 3) := g_dec dt72_X11_isApproved_ok (k := 13) rfl
theorem dX11_isApproved_21 : decode cX11_isApproved 21 = .ok (.iload_n 2, 1) := g_dec dt72_X11_isApproved_ok (k := 14) rfl
theorem dX11_isApproved_22 : decode cX11_isApproved 22 = .ok (.invokestatic 175, 3) := g_dec dt72_X11_isApproved_ok (k := 15) rfl
theorem dX11_isApproved_25 : decode cX11_isApproved 25 = .ok (.ifCond .eq 18, 3) := g_dec dt72_X11_isApproved_ok (k := 16) rfl
theorem dX11_isApproved_28 : decode cX11_isApproved 28 = .ok (.iload_n 3, 1) := g_dec dt72_X11_isApproved_ok (k := 17) rfl
theorem dX11_isApproved_29 : decode cX11_isApproved 29 = .ok (.iconst (-1), 1) := g_dec dt72_X11_isApproved_ok (k := 18) rfl
theorem dX11_isApproved_30 : decode cX11_isApproved 30 = .ok (.if_icmp .eq 13, 3) := g_dec dt72_X11_isApproved_ok (k := 19) rfl
theorem dX11_isApproved_33 : decode cX11_isApproved 33 = .ok (.aload_n 1, 1) := g_dec dt72_X11_isApproved_ok (k := 20) rfl
theorem dX11_isApproved_34 : decode cX11_isApproved 34 = .ok (.iload_n 3, 1) := g_dec dt72_X11_isApproved_ok (k := 21) rfl
theorem dX11_isApproved_35 : decode cX11_isApproved 35 = .ok (.invokevirtual 391, 3) := g_dec dt72_X11_isApproved_ok (k := 22) rfl
theorem dX11_isApproved_38 : decode cX11_isApproved 38 = .ok (.ifCond .ne 5, 3) := g_dec dt72_X11_isApproved_ok (k := 23) rfl
theorem dX11_isApproved_41 : decode cX11_isApproved 41 = .ok (.iconst 0, 1) := g_dec dt72_X11_isApproved_ok (k := 24) rfl
theorem dX11_isApproved_42 : decode cX11_isApproved 42 = .ok (.ireturn, 1) := g_dec dt72_X11_isApproved_ok (k := 25) rfl
theorem dX11_isApproved_0 : decode cX11_isApproved 0 = .ok (.iconst 0, 1) := g_dec dt72_X11_isApproved_ok (k := 26) rfl
theorem dX11_isApproved_1 : decode cX11_isApproved 1 = .ok (.istore_n 2, 1) := g_dec dt72_X11_isApproved_ok (k := 27) rfl
def dt73_X11_queue : List (Nat × Instr × Nat) := [(93, (.aload_n 0, 1)), (94, (.aload_n 3, 1)), (95, (.iload_n 2, 1)), (96, (.invokevirtual 200, 3)), (99, (.aload_n 0, 1)), (100, (.invokevirtual 204, 3)), (103, (.aload_n 0, 1)), (104, (.getfield 33, 3)), (107, (.getfield 207, 3)), (110, (.iload_n 1, 1)), (111, (.i2l, 1)), (112, (.invokevirtual 210, 3)), (115, (.ireturn, 1)), (90, (.invokestatic 123, 3)), (85, (.iconst 1, 1)), (86, (.goto 4, 3)), (46, (.invokestatic 123, 3)), (49, (.aload_n 3, 1)), (50, (.getfield 153, 3)), (53, (.iconst (-1), 1)), (54, (.if_icmp .eq 39, 3)), (57, (.aload_n 0, 1)), (58, (.getfield 10, 3)), (61, (.aload_n 3, 1)), (62, (.getfield 153, 3)), (65, (.invokevirtual 113, 3)), (68, (.getfield 172, 3)), (71, (.istore 4, 2)), (73, (.iload 4, 2)), (75, (.iconst 1, 1)), (76, (.if_icmp .eq 9, 3)), (79, (.iload 4, 2)), (81, (.iconst 2, 1)), (82, (.if_icmp .ne 7, 3)), (89, (.iconst 0, 1)), (45, (.iconst 0, 1)), (0, (.iload_n 1, 1)), (1, (.aload_n 0, 1)), (2, (.getfield 10, 3)), (5, (.getfield 110, 3)), (8, (.invokestatic 106, 3)), (11, (.iload_n 2, 1)), (12, (.iconst 0, 1)), (13, (.iconst 3, 1)), (14, (.invokestatic 133, 3)), (17, (.aload_n 0, 1)), (18, (.getfield 10, 3)), (21, (.iload_n 1, 1)), (22, (.invokevirtual 113, 3)), (25, (.astore_n 3, 1)), (26, (.aload_n 3, 1)), (27, (.getfield 172, 3)), (30, (.ifCond .ne 15, 3)), (33, (.aload_n 0, 1)), (34, (.aload_n 3, 1)), (35, (.invokevirtual 196, 3)), (38, (.ifCond .eq 7, 3)), (41, (.iconst 1, 1)), (42, (.goto 4, 3))]
theorem dt73_X11_queue_ok : ∀ q ∈ dt73_X11_queue, decode cX11_queue q.1 = .ok q.2 := by decide +kernel
theorem dX11_queue_93 : decode cX11_queue 93 = .ok (.aload_n 0, 1) := g_dec dt73_X11_queue_ok (k := 0) rfl
theorem dX11_queue_94 : decode cX11_queue 94 = .ok (.aload_n 3, 1) := g_dec dt73_X11_queue_ok (k := 1) rfl
theorem dX11_queue_95 : decode cX11_queue 95 = .ok (.iload_n 2, 1) := g_dec dt73_X11_queue_ok (k := 2) rfl
theorem dX11_queue_96 : decode cX11_queue 96 = .ok (.invokevirtual 200, 3) := g_dec dt73_X11_queue_ok (k := 3) rfl
theorem dX11_queue_99 : decode cX11_queue 99 = .ok (.aload_n 0, 1) := g_dec dt73_X11_queue_ok (k := 4) rfl
theorem dX11_queue_100 : decode cX11_queue 100 = .ok (.invokevirtual 204, 3) := g_dec dt73_X11_queue_ok (k := 5) rfl
theorem dX11_queue_103 : decode cX11_queue 103 = .ok (.aload_n 0, 1) := g_dec dt73_X11_queue_ok (k := 6) rfl
theorem dX11_queue_104 : decode cX11_queue 104 = .ok (.getfield 33, 3) := g_dec dt73_X11_queue_ok (k := 7) rfl
theorem dX11_queue_107 : decode cX11_queue 107 = .ok (.getfield 207, 3) := g_dec dt73_X11_queue_ok (k := 8) rfl
theorem dX11_queue_110 : decode cX11_queue 110 = .ok (.iload_n 1, 1) := g_dec dt73_X11_queue_ok (k := 9) rfl
theorem dX11_queue_111 : decode cX11_queue 111 = .ok (.i2l, 1) := g_dec dt73_X11_queue_ok (k := 10) rfl
theorem dX11_queue_112 : decode cX11_queue 112 = .ok (.invokevirtual 210, 3) := g_dec dt73_X11_queue_ok (k := 11) rfl
theorem dX11_queue_115 : decode cX11_queue 115 = .ok (.ireturn, 1) := g_dec dt73_X11_queue_ok (k := 12) rfl
theorem dX11_queue_90 : decode cX11_queue 90 = .ok (.invokestatic 123, 3) := g_dec dt73_X11_queue_ok (k := 13) rfl
theorem dX11_queue_85 : decode cX11_queue 85 = .ok (.iconst 1, 1) := g_dec dt73_X11_queue_ok (k := 14) rfl
theorem dX11_queue_86 : decode cX11_queue 86 = .ok (.goto 4, 3) := g_dec dt73_X11_queue_ok (k := 15) rfl
theorem dX11_queue_46 : decode cX11_queue 46 = .ok (.invokestatic 123, 3) := g_dec dt73_X11_queue_ok (k := 16) rfl
theorem dX11_queue_49 : decode cX11_queue 49 = .ok (.aload_n 3, 1) := g_dec dt73_X11_queue_ok (k := 17) rfl
theorem dX11_queue_50 : decode cX11_queue 50 = .ok (.getfield 153, 3) := g_dec dt73_X11_queue_ok (k := 18) rfl
theorem dX11_queue_53 : decode cX11_queue 53 = .ok (.iconst (-1), 1) := g_dec dt73_X11_queue_ok (k := 19) rfl
theorem dX11_queue_54 : decode cX11_queue 54 = .ok (.if_icmp .eq 39, 3) := g_dec dt73_X11_queue_ok (k := 20) rfl
theorem dX11_queue_57 : decode cX11_queue 57 = .ok (.aload_n 0, 1) := g_dec dt73_X11_queue_ok (k := 21) rfl
theorem dX11_queue_58 : decode cX11_queue 58 = .ok (.getfield 10, 3) := g_dec dt73_X11_queue_ok (k := 22) rfl
theorem dX11_queue_61 : decode cX11_queue 61 = .ok (.aload_n 3, 1) := g_dec dt73_X11_queue_ok (k := 23) rfl
theorem dX11_queue_62 : decode cX11_queue 62 = .ok (.getfield 153, 3) := g_dec dt73_X11_queue_ok (k := 24) rfl
theorem dX11_queue_65 : decode cX11_queue 65 = .ok (.invokevirtual 113, 3) := g_dec dt73_X11_queue_ok (k := 25) rfl
theorem dX11_queue_68 : decode cX11_queue 68 = .ok (.getfield 172, 3) := g_dec dt73_X11_queue_ok (k := 26) rfl
theorem dX11_queue_71 : decode cX11_queue 71 = .ok (.istore 4, 2) := g_dec dt73_X11_queue_ok (k := 27) rfl
theorem dX11_queue_73 : decode cX11_queue 73 = .ok (.iload 4, 2) := g_dec dt73_X11_queue_ok (k := 28) rfl
theorem dX11_queue_75 : decode cX11_queue 75 = .ok (.iconst 1, 1) := g_dec dt73_X11_queue_ok (k := 29) rfl
theorem dX11_queue_76 : decode cX11_queue 76 = .ok (.if_icmp .eq 9, 3) := g_dec dt73_X11_queue_ok (k := 30) rfl
theorem dX11_queue_79 : decode cX11_queue 79 = .ok (.iload 4, 2) := g_dec dt73_X11_queue_ok (k := 31) rfl
theorem dX11_queue_81 : decode cX11_queue 81 = .ok (.iconst 2, 1) := g_dec dt73_X11_queue_ok (k := 32) rfl
theorem dX11_queue_82 : decode cX11_queue 82 = .ok (.if_icmp .ne 7, 3) := g_dec dt73_X11_queue_ok (k := 33) rfl
theorem dX11_queue_89 : decode cX11_queue 89 = .ok (.iconst 0, 1) := g_dec dt73_X11_queue_ok (k := 34) rfl
theorem dX11_queue_45 : decode cX11_queue 45 = .ok (.iconst 0, 1) := g_dec dt73_X11_queue_ok (k := 35) rfl
theorem dX11_queue_0 : decode cX11_queue 0 = .ok (.iload_n 1, 1) := g_dec dt73_X11_queue_ok (k := 36) rfl
theorem dX11_queue_1 : decode cX11_queue 1 = .ok (.aload_n 0, 1) := g_dec dt73_X11_queue_ok (k := 37) rfl
theorem dX11_queue_2 : decode cX11_queue 2 = .ok (.getfield 10, 3) := g_dec dt73_X11_queue_ok (k := 38) rfl
theorem dX11_queue_5 : decode cX11_queue 5 = .ok (.getfield 110, 3) := g_dec dt73_X11_queue_ok (k := 39) rfl
theorem dX11_queue_8 : decode cX11_queue 8 = .ok (.invokestatic 106, 3) := g_dec dt73_X11_queue_ok (k := 40) rfl
theorem dX11_queue_11 : decode cX11_queue 11 = .ok (.iload_n 2, 1) := g_dec dt73_X11_queue_ok (k := 41) rfl
theorem dX11_queue_12 : decode cX11_queue 12 = .ok (.iconst 0, 1) := g_dec dt73_X11_queue_ok (k := 42) rfl
theorem dX11_queue_13 : decode cX11_queue 13 = .ok (.iconst 3, 1) := g_dec dt73_X11_queue_ok (k := 43) rfl
theorem dX11_queue_14 : decode cX11_queue 14 = .ok (.invokestatic 133, 3) := g_dec dt73_X11_queue_ok (k := 44) rfl
theorem dX11_queue_17 : decode cX11_queue 17 = .ok (.aload_n 0, 1) := g_dec dt73_X11_queue_ok (k := 45) rfl
theorem dX11_queue_18 : decode cX11_queue 18 = .ok (.getfield 10, 3) := g_dec dt73_X11_queue_ok (k := 46) rfl
theorem dX11_queue_21 : decode cX11_queue 21 = .ok (.iload_n 1, 1) := g_dec dt73_X11_queue_ok (k := 47) rfl
theorem dX11_queue_22 : decode cX11_queue 22 = .ok (.invokevirtual 113, 3) := g_dec dt73_X11_queue_ok (k := 48) rfl
theorem dX11_queue_25 : decode cX11_queue 25 = .ok (.astore_n 3, 1) := g_dec dt73_X11_queue_ok (k := 49) rfl
theorem dX11_queue_26 : decode cX11_queue 26 = .ok (.aload_n 3, 1) := g_dec dt73_X11_queue_ok (k := 50) rfl
theorem dX11_queue_27 : decode cX11_queue 27 = .ok (.getfield 172, 3) := g_dec dt73_X11_queue_ok (k := 51) rfl
theorem dX11_queue_30 : decode cX11_queue 30 = .ok (.ifCond .ne 15, 3) := g_dec dt73_X11_queue_ok (k := 52) rfl
theorem dX11_queue_33 : decode cX11_queue 33 = .ok (.aload_n 0, 1) := g_dec dt73_X11_queue_ok (k := 53) rfl
theorem dX11_queue_34 : decode cX11_queue 34 = .ok (.aload_n 3, 1) := g_dec dt73_X11_queue_ok (k := 54) rfl
theorem dX11_queue_35 : decode cX11_queue 35 = .ok (.invokevirtual 196, 3) := g_dec dt73_X11_queue_ok (k := 55) rfl
theorem dX11_queue_38 : decode cX11_queue 38 = .ok (.ifCond .eq 7, 3) := g_dec dt73_X11_queue_ok (k := 56) rfl
theorem dX11_queue_41 : decode cX11_queue 41 = .ok (.iconst 1, 1) := g_dec dt73_X11_queue_ok (k := 57) rfl
theorem dX11_queue_42 : decode cX11_queue 42 = .ok (.goto 4, 3) := g_dec dt73_X11_queue_ok (k := 58) rfl
def dt74_X11_takeOutOfQueue : List (Nat × Instr × Nat) := [(88, (.iinc 5 1, 3)), (91, (.goto (-71), 3)), (20, (.iload 5, 2)), (22, (.aload_n 0, 1)), (23, (.getfield 10, 3)), (26, (.getfield 110, 3)), (29, (.if_icmp .ge 65, 3)), (94, (.aload_n 0, 1)), (95, (.invokevirtual 230, 3)), (98, (.lload_n 3, 1)), (99, (.invokestatic 404, 3)), (102, (.ireturn, 1)), (32, (.aload_n 0, 1)), (33, (.getfield 10, 3)), (36, (.iload 5, 2)), (38, (.invokevirtual 113, 3)), (41, (.astore 6, 2)), (43, (.aload 6, 2)), (45, (.getfield 172, 3)), (48, (.iconst 1, 1)), (49, (.if_icmp .ne 39, 3)), (52, (.aload 6, 2)), (54, (.getfield 153, 3)), (57, (.iconst (-1), 1)), (58, (.if_icmp .eq 30, 3)), (61, (.lload_n 3, 1)), (62, (.aload 6, 2)), (64, (.getfield 153, 3)), (67, (.lushr, 1)), (68, (.lconst 1, 1)), (69, (.land, 1)), (70, (.lconst 0, 1)), (71, (.lcmp, 1)), (72, (.ifCond .eq 16, 3)), (75, (.aload 6, 2)), (77, (.iconst 5, 1)), (78, (.putfield 172, 3)), (81, (.lload_n 3, 1)), (82, (.lconst 1, 1)), (83, (.iload 5, 2)), (85, (.lshl, 1)), (86, (.lor, 1)), (87, (.lstore_n 3, 1)), (0, (.aload_n 1, 1)), (1, (.iload_n 2, 1)), (2, (.putfield 172, 3)), (5, (.lconst 1, 1)), (6, (.aload_n 1, 1)), (7, (.getfield 226, 3)), (10, (.lshl, 1)), (11, (.lstore_n 3, 1)), (12, (.aload_n 1, 1)), (13, (.getfield 226, 3)), (16, (.iconst 1, 1)), (17, (.iadd, 1)), (18, (.istore 5, 2))]
theorem dt74_X11_takeOutOfQueue_ok : ∀ q ∈ dt74_X11_takeOutOfQueue, decode cX11_takeOutOfQueue q.1 = .ok q.2 := by decide +kernel
theorem dX11_takeOutOfQueue_88 : decode cX11_takeOutOfQueue 88 = .ok (.iinc 5 1, 3) := g_dec dt74_X11_takeOutOfQueue_ok (k := 0) rfl
theorem dX11_takeOutOfQueue_91 : decode cX11_takeOutOfQueue 91 = .ok (.goto (-71), 3) := g_dec dt74_X11_takeOutOfQueue_ok (k := 1) rfl
theorem dX11_takeOutOfQueue_20 : decode cX11_takeOutOfQueue 20 = .ok (.iload 5, 2) := g_dec dt74_X11_takeOutOfQueue_ok (k := 2) rfl
theorem dX11_takeOutOfQueue_22 : decode cX11_takeOutOfQueue 22 = .ok (.aload_n 0, 1) := g_dec dt74_X11_takeOutOfQueue_ok (k := 3) rfl
theorem dX11_takeOutOfQueue_23 : decode cX11_takeOutOfQueue 23 = .ok (.getfield 10, 3) := g_dec dt74_X11_takeOutOfQueue_ok (k := 4) rfl
theorem dX11_takeOutOfQueue_26 : decode cX11_takeOutOfQueue 26 = .ok (.getfield 110, 3) := g_dec dt74_X11_takeOutOfQueue_ok (k := 5) rfl
theorem dX11_takeOutOfQueue_29 : decode cX11_takeOutOfQueue 29 = .ok (.if_icmp .ge 65, 3) := g_dec dt74_X11_takeOutOfQueue_ok (k := 6) rfl
theorem dX11_takeOutOfQueue_94 : decode cX11_takeOutOfQueue 94 = .ok (.aload_n 0, 1) := g_dec dt74_X11_takeOutOfQueue_ok (k := 7) rfl
theorem dX11_takeOutOfQueue_95 : decode cX11_takeOutOfQueue 95 = .ok (.invokevirtual 230, 3) := g_dec dt74_X11_takeOutOfQueue_ok (k := 8) rfl
theorem dX11_takeOutOfQueue_98 : decode cX11_takeOutOfQueue 98 = .ok (.lload_n 3, 1) := g_dec dt74_X11_takeOutOfQueue_ok (k := 9) rfl
theorem dX11_takeOutOfQueue_99 : decode cX11_takeOutOfQueue 99 = .ok (.invokestatic 404, 3) := g_dec dt74_X11_takeOutOfQueue_ok (k := 10) rfl
theorem dX11_takeOutOfQueue_102 : decode cX11_takeOutOfQueue 102 = .ok (.ireturn, 1) := g_dec dt74_X11_takeOutOfQueue_ok (k := 11) rfl
theorem dX11_takeOutOfQueue_32 : decode cX11_takeOutOfQueue 32 = .ok (.aload_n 0, 1) := g_dec dt74_X11_takeOutOfQueue_ok (k := 12) rfl
theorem dX11_takeOutOfQueue_33 : decode cX11_takeOutOfQueue 33 = .ok (.getfield 10, 3) := g_dec dt74_X11_takeOutOfQueue_ok (k := 13) rfl
theorem dX11_takeOutOfQueue_36 : decode cX11_takeOutOfQueue 36 = .ok (.iload 5, 2) := g_dec dt74_X11_takeOutOfQueue_ok (k := 14) rfl
theorem dX11_takeOutOfQueue_38 : decode cX11_takeOutOfQueue 38 = .ok (.invokevirtual 113, 3) := g_dec dt74_X11_takeOutOfQueue_ok (k := 15) rfl
theorem dX11_takeOutOfQueue_41 : decode cX11_takeOutOfQueue 41 = .ok (.astore 6, 2) := g_dec dt74_X11_takeOutOfQueue_ok (k := 16) rfl
theorem dX11_takeOutOfQueue_43 : decode cX11_takeOutOfQueue 43 = .ok (.aload 6, 2) := g_dec dt74_X11_takeOutOfQueue_ok (k := 17) rfl
theorem dX11_takeOutOfQueue_45 : decode cX11_takeOutOfQueue 45 = .ok (.getfield 172, 3) := g_dec dt74_X11_takeOutOfQueue_ok (k := 18) rfl
theorem dX11_takeOutOfQueue_48 : decode cX11_takeOutOfQueue 48 = .ok (.iconst 1, 1) := g_dec dt74_X11_takeOutOfQueue_ok (k := 19) rfl
theorem dX11_takeOutOfQueue_49 : decode cX11_takeOutOfQueue 49 = .ok (.if_icmp .ne 39, 3) := g_dec dt74_X11_takeOutOfQueue_ok (k := 20) rfl
theorem dX11_takeOutOfQueue_52 : decode cX11_takeOutOfQueue 52 = .ok (.aload 6, 2) := g_dec dt74_X11_takeOutOfQueue_ok (k := 21) rfl
theorem dX11_takeOutOfQueue_54 : decode cX11_takeOutOfQueue 54 = .ok (.getfield 153, 3) := g_dec dt74_X11_takeOutOfQueue_ok (k := 22) rfl
theorem dX11_takeOutOfQueue_57 : decode cX11_takeOutOfQueue 57 = .ok (.iconst (-1), 1) := g_dec dt74_X11_takeOutOfQueue_ok (k := 23) rfl
theorem dX11_takeOutOfQueue_58 : decode cX11_takeOutOfQueue 58 = .ok (.if_icmp .eq 30, 3) := g_dec dt74_X11_takeOutOfQueue_ok (k := 24) rfl
theorem dX11_takeOutOfQueue_61 : decode cX11_takeOutOfQueue 61 = .ok (.lload_n 3, 1) := g_dec dt74_X11_takeOutOfQueue_ok (k := 25) rfl
theorem dX11_takeOutOfQueue_62 : decode cX11_takeOutOfQueue 62 = .ok (.aload 6, 2) := g_dec dt74_X11_takeOutOfQueue_ok (k := 26) rfl
theorem dX11_takeOutOfQueue_64 : decode cX11_takeOutOfQueue 64 = .ok (.getfield 153, 3) := g_dec dt74_X11_takeOutOfQueue_ok (k := 27) rfl
theorem dX11_takeOutOfQueue_67 : decode cX11_takeOutOfQueue 67 = .ok (.lushr, 1) := g_dec dt74_X11_takeOutOfQueue_ok (k := 28) rfl
theorem dX11_takeOutOfQueue_68 : decode cX11_takeOutOfQueue 68 = .ok (.lconst 1, 1) := g_dec dt74_X11_takeOutOfQueue_ok (k := 29) rfl
theorem dX11_takeOutOfQueue_69 : decode cX11_takeOutOfQueue 69 = .ok (.land, 1) := g_dec dt74_X11_takeOutOfQueue_ok (k := 30) rfl
theorem dX11_takeOutOfQueue_70 : decode cX11_takeOutOfQueue 70 = .ok (.lconst 0, 1) := g_dec dt74_X11_takeOutOfQueue_ok (k := 31) rfl
theorem dX11_takeOutOfQueue_71 : decode cX11_takeOutOfQueue 71 = .ok (.lcmp, 1) := g_dec dt74_X11_takeOutOfQueue_ok (k := 32) rfl
theorem dX11_takeOutOfQueue_72 : decode cX11_takeOutOfQueue 72 = .ok (.ifCond .eq 16, 3) := g_dec dt74_X11_takeOutOfQueue_ok (k := 33) rfl
theorem dX11_takeOutOfQueue_75 : decode cX11_takeOutOfQueue 75 = .ok (.aload 6, 2) := g_dec dt74_X11_takeOutOfQueue_ok (k := 34) rfl
theorem dX11_takeOutOfQueue_77 : decode cX11_takeOutOfQueue 77 = .ok (.iconst 5, 1) := g_dec dt74_X11_takeOutOfQueue_ok (k := 35) rfl
theorem dX11_takeOutOfQueue_78 : decode cX11_takeOutOfQueue 78 = .ok (.putfield 172, 3) := g_dec dt74_X11_takeOutOfQueue_ok (k := 36) rfl
theorem dX11_takeOutOfQueue_81 : decode cX11_takeOutOfQueue 81 = .ok (.lload_n 3, 1) := g_dec dt74_X11_takeOutOfQueue_ok (k := 37) rfl
theorem dX11_takeOutOfQueue_82 : decode cX11_takeOutOfQueue 82 = .ok (.lconst 1, 1) := g_dec dt74_X11_takeOutOfQueue_ok (k := 38) rfl
theorem dX11_takeOutOfQueue_83 : decode cX11_takeOutOfQueue 83 = .ok (.iload 5, 2) := g_dec dt74_X11_takeOutOfQueue_ok (k := 39) rfl
theorem dX11_takeOutOfQueue_85 : decode cX11_takeOutOfQueue 85 = .ok (.lshl, 1) := g_dec dt74_X11_takeOutOfQueue_ok (k := 40) rfl
theorem dX11_takeOutOfQueue_86 : decode cX11_takeOutOfQueue 86 = .ok (.lor, 1) := g_dec dt74_X11_takeOutOfQueue_ok (k := 41) rfl
theorem dX11_takeOutOfQueue_87 : decode cX11_takeOutOfQueue 87 = .ok (.lstore_n 3, 1) := g_dec dt74_X11_takeOutOfQueue_ok (k := 42) rfl
theorem dX11_takeOutOfQueue_0 : decode cX11_takeOutOfQueue 0 = .ok (.aload_n 1, 1) := g_dec dt74_X11_takeOutOfQueue_ok (k := 43) rfl
theorem dX11_takeOutOfQueue_1 : decode cX11_takeOutOfQueue 1 = .ok (.iload_n 2, 1) := g_dec dt74_X11_takeOutOfQueue_ok (k := 44) rfl
theorem dX11_takeOutOfQueue_2 : decode cX11_takeOutOfQueue 2 = .ok (.putfield 172, 3) := g_dec dt74_X11_takeOutOfQueue_ok (k := 45) rfl
theorem dX11_takeOutOfQueue_5 : decode cX11_takeOutOfQueue 5 = .ok (.lconst 1, 1) := g_dec dt74_X11_takeOutOfQueue_ok (k := 46) rfl
theorem dX11_takeOutOfQueue_6 : decode cX11_takeOutOfQueue 6 = .ok (.aload_n 1, 1) := g_dec dt74_X11_takeOutOfQueue_ok (k := 47) rfl
theorem dX11_takeOutOfQueue_7 : decode cX11_takeOutOfQueue 7 = .ok (.getfield 226, 3) := g_dec dt74_X11_takeOutOfQueue_ok (k := 48) rfl
theorem dX11_takeOutOfQueue_10 : decode cX11_takeOutOfQueue 10 = .ok (.lshl, 1) := g_dec dt74_X11_takeOutOfQueue_ok (k := 49) rfl
theorem dX11_takeOutOfQueue_11 : decode cX11_takeOutOfQueue 11 = .ok (.lstore_n 3, 1) := g_dec dt74_X11_takeOutOfQueue_ok (k := 50) rfl
theorem dX11_takeOutOfQueue_12 : decode cX11_takeOutOfQueue 12 = .ok (.aload_n 1, 1) := g_dec dt74_X11_takeOutOfQueue_ok (k := 51) rfl
theorem dX11_takeOutOfQueue_13 : decode cX11_takeOutOfQueue 13 = .ok (.getfield 226, 3) := g_dec dt74_X11_takeOutOfQueue_ok (k := 52) rfl
theorem dX11_takeOutOfQueue_16 : decode cX11_takeOutOfQueue 16 = .ok (.iconst 1, 1) := g_dec dt74_X11_takeOutOfQueue_ok (k := 53) rfl
theorem dX11_takeOutOfQueue_17 : decode cX11_takeOutOfQueue 17 = .ok (.iadd, 1) := g_dec dt74_X11_takeOutOfQueue_ok (k := 54) rfl
theorem dX11_takeOutOfQueue_18 : decode cX11_takeOutOfQueue 18 = .ok (.istore 5, 2) := g_dec dt74_X11_takeOutOfQueue_ok (k := 55) rfl
def dt75_X11_drop : List (Nat × Instr × Nat) := [(33, (.invokestatic 123, 3)), (36, (.aload_n 0, 1)), (37, (.aload_n 2, 1)), (38, (.iconst 5, 1)), (39, (.invokevirtual 213, 3)), (42, (.ireturn, 1)), (0, (.iload_n 1, 1)), (1, (.aload_n 0, 1)), (2, (.getfield 10, 3)), (5, (.getfield 110, 3)), (8, (.invokestatic 106, 3)), (11, (.aload_n 0, 1)), (12, (.getfield 10, 3)), (15, (.iload_n 1, 1)), (16, (.invokevirtual 113, 3)), (19, (.astore_n 2, 1)), (20, (.aload_n 2, 1)), (21, (.getfield 172, 3)), (24, (.iconst 1, 1)), (25, (.if_icmp .ne 7, 3)), (32, (.iconst 0, 1)), (28, (.iconst 1, 1)), (29, (.goto 4, 3))]
theorem dt75_X11_drop_ok : ∀ q ∈ dt75_X11_drop, decode cX11_drop q.1 = .ok q.2 := by decide +kernel
theorem dX11_drop_33 : decode cX11_drop 33 = .ok (.invokestatic 123, 3) := g_dec dt75_X11_drop_ok (k := 0) rfl
theorem dX11_drop_36 : decode cX11_drop 36 = .ok (.aload_n 0, 1) := g_dec dt75_X11_drop_ok (k := 1) rfl
theorem dX11_drop_37 : decode cX11_drop 37 = .ok (.aload_n 2, 1) := g_dec dt75_X11_drop_ok (k := 2) rfl
theorem dX11_drop_38 : decode cX11_drop 38 = .ok (.iconst 5, 1) := g_dec dt75_X11_drop_ok (k := 3) rfl
theorem dX11_drop_39 : decode cX11_drop 39 = .ok (.invokevirtual 213, 3) := g_dec dt75_X11_drop_ok (k := 4) rfl
theorem dX11_drop_42 : decode cX11_drop 42 = .ok (.ireturn, 1) := g_dec dt75_X11_drop_ok (k := 5) rfl
theorem dX11_drop_0 : decode cX11_drop 0 = .ok (.iload_n 1, 1) := g_dec dt75_X11_drop_ok (k := 6) rfl
theorem dX11_drop_1 : decode cX11_drop 1 = .ok (.aload_n 0, 1) := g_dec dt75_X11_drop_ok (k := 7) rfl
theorem dX11_drop_2 : decode cX11_drop 2 = .ok (.getfield 10, 3) := g_dec dt75_X11_drop_ok (k := 8) rfl
theorem dX11_drop_5 : decode cX11_drop 5 = .ok (.getfield 110, 3) := g_dec dt75_X11_drop_ok (k := 9) rfl
theorem dX11_drop_8 : decode cX11_drop 8 = .ok (.invokestatic 106, 3) := g_dec dt75_X11_drop_ok (k := 10) rfl
theorem dX11_drop_11 : decode cX11_drop 11 = .ok (.aload_n 0, 1) := g_dec dt75_X11_drop_ok (k := 11) rfl
theorem dX11_drop_12 : decode cX11_drop 12 = .ok (.getfield 10, 3) := g_dec dt75_X11_drop_ok (k := 12) rfl
theorem dX11_drop_15 : decode cX11_drop 15 = .ok (.iload_n 1, 1) := g_dec dt75_X11_drop_ok (k := 13) rfl
theorem dX11_drop_16 : decode cX11_drop 16 = .ok (.invokevirtual 113, 3) := g_dec dt75_X11_drop_ok (k := 14) rfl
theorem dX11_drop_19 : decode cX11_drop 19 = .ok (.astore_n 2, 1) := g_dec dt75_X11_drop_ok (k := 15) rfl
theorem dX11_drop_20 : decode cX11_drop 20 = .ok (.aload_n 2, 1) := g_dec dt75_X11_drop_ok (k := 16) rfl
theorem dX11_drop_21 : decode cX11_drop 21 = .ok (.getfield 172, 3) := g_dec dt75_X11_drop_ok (k := 17) rfl
theorem dX11_drop_24 : decode cX11_drop 24 = .ok (.iconst 1, 1) := g_dec dt75_X11_drop_ok (k := 18) rfl
theorem dX11_drop_25 : decode cX11_drop 25 = .ok (.if_icmp .ne 7, 3) := g_dec dt75_X11_drop_ok (k := 19) rfl
theorem dX11_drop_32 : decode cX11_drop 32 = .ok (.iconst 0, 1) := g_dec dt75_X11_drop_ok (k := 20) rfl
theorem dX11_drop_28 : decode cX11_drop 28 = .ok (.iconst 1, 1) := g_dec dt75_X11_drop_ok (k := 21) rfl
theorem dX11_drop_29 : decode cX11_drop 29 = .ok (.goto 4, 3) := g_dec dt75_X11_drop_ok (k := 22) rfl
def dt76_X11_revert : List (Nat × Instr × Nat) := [(133, (.iinc 10 1, 3)), (136, (.goto (-59), 3)), (121, (.invokestatic 123, 3)), (124, (.iload 9, 2)), (126, (.iconst 1, 1)), (127, (.iload 10, 2)), (129, (.ishl, 1)), (130, (.ior, 1)), (131, (.istore 9, 2)), (77, (.iload 10, 2)), (79, (.bipush 12, 2)), (81, (.if_icmp .ge 58, 3)), (139, (.aload_n 0, 1)), (140, (.getfield 10, 3)), (143, (.iload_n 2, 1)), (144, (.lload 7, 2)), (146, (.iload 9, 2)), (148, (.lload 5, 2)), (150, (.invokevirtual 222, 3)), (153, (.astore 10, 2)), (155, (.aload_n 0, 1)), (156, (.aload 10, 2)), (158, (.iconst 0, 1)), (159, (.invokevirtual 200, 3)), (162, (.aload 10, 2)), (164, (.getfield 226, 3)), (167, (.ireturn, 1)), (84, (.lload_n 3, 1)), (85, (.iload 10, 2)), (87, (.invokestatic 179, 3)), (90, (.lload 5, 2)), (92, (.iload 10, 2)), (94, (.invokestatic 179, 3)), (97, (.if_icmp .eq 36, 3)), (100, (.lload 7, 2)), (102, (.iload 10, 2)), (104, (.invokestatic 179, 3)), (107, (.lload_n 3, 1)), (108, (.iload 10, 2)), (110, (.invokestatic 179, 3)), (113, (.if_icmp .ne 7, 3)), (120, (.iconst 0, 1)), (116, (.iconst 1, 1)), (117, (.goto 4, 3)), (41, (.invokestatic 123, 3)), (44, (.aload_n 0, 1)), (45, (.getfield 76, 3)), (48, (.iload_n 1, 1)), (49, (.invokevirtual 218, 3)), (52, (.lstore_n 3, 1)), (53, (.aload_n 0, 1)), (54, (.getfield 76, 3)), (57, (.iload_n 1, 1)), (58, (.iconst 1, 1)), (59, (.isub, 1)), (60, (.invokevirtual 218, 3)), (63, (.lstore 5, 2)), (65, (.aload_n 0, 1)), (66, (.invokevirtual 156, 3)), (69, (.lstore 7, 2))]
theorem dt76_X11_revert_ok : ∀ q ∈ dt76_X11_revert, decode cX11_revert q.1 = .ok q.2 := by decide +kernel
theorem dX11_revert_133 : decode cX11_revert 133 = .ok (.iinc 10 1, 3) := g_dec dt76_X11_revert_ok (k := 0) rfl
theorem dX11_revert_136 : decode cX11_revert 136 = .ok (.goto (-59), 3) := g_dec dt76_X11_revert_ok (k := 1) rfl
theorem dX11_revert_121 : decode cX11_revert 121 = .ok (.invokestatic 123, 3) := g_dec dt76_X11_revert_ok (k := 2) rfl
theorem dX11_revert_124 : decode cX11_revert 124 = .ok (.iload 9, 2) := g_dec dt76_X11_revert_ok (k := 3) rfl
theorem dX11_revert_126 : decode cX11_revert 126 = .ok (.iconst 1, 1) := g_dec dt76_X11_revert_ok (k := 4) rfl
theorem dX11_revert_127 : decode cX11_revert 127 = .ok (.iload 10, 2) := g_dec dt76_X11_revert_ok (k := 5) rfl
theorem dX11_revert_129 : decode cX11_revert 129 = .ok (.ishl, 1) := g_dec dt76_X11_revert_ok (k := 6) rfl
theorem dX11_revert_130 : decode cX11_revert 130 = .ok (.ior, 1) := g_dec dt76_X11_revert_ok (k := 7) rfl
theorem dX11_revert_131 : decode cX11_revert 131 = .ok (.istore 9, 2) := g_dec dt76_X11_revert_ok (k := 8) rfl
theorem dX11_revert_77 : decode cX11_revert 77 = .ok (.iload 10, 2) := g_dec dt76_X11_revert_ok (k := 9) rfl
theorem dX11_revert_79 : decode cX11_revert 79 = .ok (.bipush 12, 2) := g_dec dt76_X11_revert_ok (k := 10) rfl
theorem dX11_revert_81 : decode cX11_revert 81 = .ok (.if_icmp .ge 58, 3) := g_dec dt76_X11_revert_ok (k := 11) rfl
theorem dX11_revert_139 : decode cX11_revert 139 = .ok (.aload_n 0, 1) := g_dec dt76_X11_revert_ok (k := 12) rfl
theorem dX11_revert_140 : decode cX11_revert 140 = .ok (.getfield 10, 3) := g_dec dt76_X11_revert_ok (k := 13) rfl
theorem dX11_revert_143 : decode cX11_revert 143 = .ok (.iload_n 2, 1) := g_dec dt76_X11_revert_ok (k := 14) rfl
theorem dX11_revert_144 : decode cX11_revert 144 = .ok (.lload 7, 2) := g_dec dt76_X11_revert_ok (k := 15) rfl
theorem dX11_revert_146 : decode cX11_revert 146 = .ok (.iload 9, 2) := g_dec dt76_X11_revert_ok (k := 16) rfl
theorem dX11_revert_148 : decode cX11_revert 148 = .ok (.lload 5, 2) := g_dec dt76_X11_revert_ok (k := 17) rfl
theorem dX11_revert_150 : decode cX11_revert 150 = .ok (.invokevirtual 222, 3) := g_dec dt76_X11_revert_ok (k := 18) rfl
theorem dX11_revert_153 : decode cX11_revert 153 = .ok (.astore 10, 2) := g_dec dt76_X11_revert_ok (k := 19) rfl
theorem dX11_revert_155 : decode cX11_revert 155 = .ok (.aload_n 0, 1) := g_dec dt76_X11_revert_ok (k := 20) rfl
theorem dX11_revert_156 : decode cX11_revert 156 = .ok (.aload 10, 2) := g_dec dt76_X11_revert_ok (k := 21) rfl
theorem dX11_revert_158 : decode cX11_revert 158 = .ok (.iconst 0, 1) := g_dec dt76_X11_revert_ok (k := 22) rfl
theorem dX11_revert_159 : decode cX11_revert 159 = .ok (.invokevirtual 200, 3) := g_dec dt76_X11_revert_ok (k := 23) rfl
theorem dX11_revert_162 : decode cX11_revert 162 = .ok (.aload 10, 2) := g_dec dt76_X11_revert_ok (k := 24) rfl
theorem dX11_revert_164 : decode cX11_revert 164 = .ok (.getfield 226, 3) := g_dec dt76_X11_revert_ok (k := 25) rfl
theorem dX11_revert_167 : decode cX11_revert 167 = .ok (.ireturn, 1) := g_dec dt76_X11_revert_ok (k := 26) rfl
theorem dX11_revert_84 : decode cX11_revert 84 = .ok (.lload_n 3, 1) := g_dec dt76_X11_revert_ok (k := 27) rfl
theorem dX11_revert_85 : decode cX11_revert 85 = .ok (.iload 10, 2) := g_dec dt76_X11_revert_ok (k := 28) rfl
theorem dX11_revert_87 : decode cX11_revert 87 = .ok (.invokestatic 179, 3) := g_dec dt76_X11_revert_ok (k := 29) rfl
theorem dX11_revert_90 : decode cX11_revert 90 = .ok (.lload 5, 2) := g_dec dt76_X11_revert_ok (k := 30) rfl
theorem dX11_revert_92 : decode cX11_revert 92 = .ok (.iload 10, 2) := g_dec dt76_X11_revert_ok (k := 31) rfl
theorem dX11_revert_94 : decode cX11_revert 94 = .ok (.invokestatic 179, 3) := g_dec dt76_X11_revert_ok (k := 32) rfl
theorem dX11_revert_97 : decode cX11_revert 97 = .ok (.if_icmp .eq 36, 3) := g_dec dt76_X11_revert_ok (k := 33) rfl
theorem dX11_revert_100 : decode cX11_revert 100 = .ok (.lload 7, 2) := g_dec dt76_X11_revert_ok (k := 34) rfl
theorem dX11_revert_102 : decode cX11_revert 102 = .ok (.iload 10, 2) := g_dec dt76_X11_revert_ok (k := 35) rfl
theorem dX11_revert_104 : decode cX11_revert 104 = .ok (.invokestatic 179, 3) := g_dec dt76_X11_revert_ok (k := 36) rfl
theorem dX11_revert_107 : decode cX11_revert 107 = .ok (.lload_n 3, 1) := g_dec dt76_X11_revert_ok (k := 37) rfl
theorem dX11_revert_108 : decode cX11_revert 108 = .ok (.iload 10, 2) := g_dec dt76_X11_revert_ok (k := 38) rfl
theorem dX11_revert_110 : decode cX11_revert 110 = .ok (.invokestatic 179, 3) := g_dec dt76_X11_revert_ok (k := 39) rfl
theorem dX11_revert_113 : decode cX11_revert 113 = .ok (.if_icmp .ne 7, 3) := g_dec dt76_X11_revert_ok (k := 40) rfl
theorem dX11_revert_120 : decode cX11_revert 120 = .ok (.iconst 0, 1) := g_dec dt76_X11_revert_ok (k := 41) rfl
theorem dX11_revert_116 : decode cX11_revert 116 = .ok (.iconst 1, 1) := g_dec dt76_X11_revert_ok (k := 42) rfl
theorem dX11_revert_117 : decode cX11_revert 117 = .ok (.goto 4, 3) := g_dec dt76_X11_revert_ok (k := 43) rfl
theorem dX11_revert_41 : decode cX11_revert 41 = .ok (.invokestatic 123, 3) := g_dec dt76_X11_revert_ok (k := 44) rfl
theorem dX11_revert_44 : decode cX11_revert 44 = .ok (.aload_n 0, 1) := g_dec dt76_X11_revert_ok (k := 45) rfl
theorem dX11_revert_45 : decode cX11_revert 45 = .ok (.getfield 76, 3) := g_dec dt76_X11_revert_ok (k := 46) rfl
theorem dX11_revert_48 : decode cX11_revert 48 = .ok (.iload_n 1, 1) := g_dec dt76_X11_revert_ok (k := 47) rfl
theorem dX11_revert_49 : decode cX11_revert 49 = .ok (.invokevirtual 218, 3) := g_dec dt76_X11_revert_ok (k := 48) rfl
theorem dX11_revert_52 : decode cX11_revert 52 = .ok (.lstore_n 3, 1) := g_dec dt76_X11_revert_ok (k := 49) rfl
theorem dX11_revert_53 : decode cX11_revert 53 = .ok (.aload_n 0, 1) := g_dec dt76_X11_revert_ok (k := 50) rfl
theorem dX11_revert_54 : decode cX11_revert 54 = .ok (.getfield 76, 3) := g_dec dt76_X11_revert_ok (k := 51) rfl
theorem dX11_revert_57 : decode cX11_revert 57 = .ok (.iload_n 1, 1) := g_dec dt76_X11_revert_ok (k := 52) rfl
theorem dX11_revert_58 : decode cX11_revert 58 = .ok (.iconst 1, 1) := g_dec dt76_X11_revert_ok (k := 53) rfl
theorem dX11_revert_59 : decode cX11_revert 59 = .ok (.isub, 1) := g_dec dt76_X11_revert_ok (k := 54) rfl
theorem dX11_revert_60 : decode cX11_revert 60 = .ok (.invokevirtual 218, 3) := g_dec dt76_X11_revert_ok (k := 55) rfl
theorem dX11_revert_63 : decode cX11_revert 63 = .ok (.lstore 5, 2) := g_dec dt76_X11_revert_ok (k := 56) rfl
theorem dX11_revert_65 : decode cX11_revert 65 = .ok (.aload_n 0, 1) := g_dec dt76_X11_revert_ok (k := 57) rfl
theorem dX11_revert_66 : decode cX11_revert 66 = .ok (.invokevirtual 156, 3) := g_dec dt76_X11_revert_ok (k := 58) rfl
theorem dX11_revert_69 : decode cX11_revert 69 = .ok (.lstore 7, 2) := g_dec dt76_X11_revert_ok (k := 59) rfl
def dt77_X11_revert : List (Nat × Instr × Nat) := [(71, (.iconst 0, 1)), (72, (.istore 9, 2)), (74, (.iconst 0, 1)), (75, (.istore 10, 2)), (0, (.iload_n 1, 1)), (1, (.aload_n 0, 1)), (2, (.getfield 76, 3)), (5, (.getfield 217, 3)), (8, (.invokestatic 106, 3)), (11, (.iload_n 2, 1)), (12, (.bipush 8, 2)), (14, (.invokestatic 106, 3)), (17, (.iload_n 1, 1)), (18, (.iconst 1, 1)), (19, (.bipush 60, 2)), (21, (.invokestatic 133, 3)), (24, (.aload_n 0, 1)), (25, (.getfield 10, 3)), (28, (.getfield 110, 3)), (31, (.bipush 60, 2)), (33, (.if_icmp .ge 7, 3)), (40, (.iconst 0, 1)), (36, (.iconst 1, 1)), (37, (.goto 4, 3))]
theorem dt77_X11_revert_ok : ∀ q ∈ dt77_X11_revert, decode cX11_revert q.1 = .ok q.2 := by decide +kernel
theorem dX11_revert_71 : decode cX11_revert 71 = .ok (.iconst 0, 1) := g_dec dt77_X11_revert_ok (k := 0) rfl
theorem dX11_revert_72 : decode cX11_revert 72 = .ok (.istore 9, 2) := g_dec dt77_X11_revert_ok (k := 1) rfl
theorem dX11_revert_74 : decode cX11_revert 74 = .ok (.iconst 0, 1) := g_dec dt77_X11_revert_ok (k := 2) rfl
theorem dX11_revert_75 : decode cX11_revert 75 = .ok (.istore 10, 2) := g_dec dt77_X11_revert_ok (k := 3) rfl
theorem dX11_revert_0 : decode cX11_revert 0 = .ok (.iload_n 1, 1) := g_dec dt77_X11_revert_ok (k := 4) rfl
theorem dX11_revert_1 : decode cX11_revert 1 = .ok (.aload_n 0, 1) := g_dec dt77_X11_revert_ok (k := 5) rfl
theorem dX11_revert_2 : decode cX11_revert 2 = .ok (.getfield 76, 3) := g_dec dt77_X11_revert_ok (k := 6) rfl
theorem dX11_revert_5 : decode cX11_revert 5 = .ok (.getfield 217, 3) := g_dec dt77_X11_revert_ok (k := 7) rfl
theorem dX11_revert_8 : decode cX11_revert 8 = .ok (.invokestatic 106, 3) := g_dec dt77_X11_revert_ok (k := 8) rfl
theorem dX11_revert_11 : decode cX11_revert 11 = .ok (.iload_n 2, 1) := g_dec dt77_X11_revert_ok (k := 9) rfl
theorem dX11_revert_12 : decode cX11_revert 12 = .ok (.bipush 8, 2) := g_dec dt77_X11_revert_ok (k := 10) rfl
theorem dX11_revert_14 : decode cX11_revert 14 = .ok (.invokestatic 106, 3) := g_dec dt77_X11_revert_ok (k := 11) rfl
theorem dX11_revert_17 : decode cX11_revert 17 = .ok (.iload_n 1, 1) := g_dec dt77_X11_revert_ok (k := 12) rfl
theorem dX11_revert_18 : decode cX11_revert 18 = .ok (.iconst 1, 1) := g_dec dt77_X11_revert_ok (k := 13) rfl
theorem dX11_revert_19 : decode cX11_revert 19 = .ok (.bipush 60, 2) := g_dec dt77_X11_revert_ok (k := 14) rfl
theorem dX11_revert_21 : decode cX11_revert 21 = .ok (.invokestatic 133, 3) := g_dec dt77_X11_revert_ok (k := 15) rfl
theorem dX11_revert_24 : decode cX11_revert 24 = .ok (.aload_n 0, 1) := g_dec dt77_X11_revert_ok (k := 16) rfl
theorem dX11_revert_25 : decode cX11_revert 25 = .ok (.getfield 10, 3) := g_dec dt77_X11_revert_ok (k := 17) rfl
theorem dX11_revert_28 : decode cX11_revert 28 = .ok (.getfield 110, 3) := g_dec dt77_X11_revert_ok (k := 18) rfl
theorem dX11_revert_31 : decode cX11_revert 31 = .ok (.bipush 60, 2) := g_dec dt77_X11_revert_ok (k := 19) rfl
theorem dX11_revert_33 : decode cX11_revert 33 = .ok (.if_icmp .ge 7, 3) := g_dec dt77_X11_revert_ok (k := 20) rfl
theorem dX11_revert_40 : decode cX11_revert 40 = .ok (.iconst 0, 1) := g_dec dt77_X11_revert_ok (k := 21) rfl
theorem dX11_revert_36 : decode cX11_revert 36 = .ok (.iconst 1, 1) := g_dec dt77_X11_revert_ok (k := 22) rfl
theorem dX11_revert_37 : decode cX11_revert 37 = .ok (.goto 4, 3) := g_dec dt77_X11_revert_ok (k := 23) rfl
def dt78_X11_test : List (Nat × Instr × Nat) := [(39, (.invokestatic 123, 3)), (42, (.aload_n 0, 1)), (43, (.invokevirtual 230, 3)), (46, (.aload_n 0, 1)), (47, (.getfield 19, 3)), (50, (.iload_n 1, 1)), (51, (.iload_n 2, 1)), (52, (.iload_n 3, 1)), (53, (.invokevirtual 233, 3)), (56, (.ireturn, 1)), (0, (.iload_n 1, 1)), (1, (.iconst 1, 1)), (2, (.sipush 4095, 3)), (5, (.invokestatic 133, 3)), (8, (.iload_n 2, 1)), (9, (.iconst 1, 1)), (10, (.bipush 6, 2)), (12, (.invokestatic 133, 3)), (15, (.iload_n 3, 1)), (16, (.iconst 0, 1)), (17, (.bipush 9, 2)), (19, (.invokestatic 133, 3)), (22, (.aload_n 0, 1)), (23, (.getfield 19, 3)), (26, (.getfield 229, 3)), (29, (.bipush 10, 2)), (31, (.if_icmp .ge 7, 3)), (38, (.iconst 0, 1)), (34, (.iconst 1, 1)), (35, (.goto 4, 3))]
theorem dt78_X11_test_ok : ∀ q ∈ dt78_X11_test, decode cX11_test q.1 = .ok q.2 := by decide +kernel
theorem dX11_test_39 : decode cX11_test 39 = .ok (.invokestatic 123, 3) := g_dec dt78_X11_test_ok (k := 0) rfl
theorem dX11_test_42 : decode cX11_test 42 = .ok (.aload_n 0, 1) := g_dec dt78_X11_test_ok (k := 1) rfl
theorem dX11_test_43 : decode cX11_test 43 = .ok (.invokevirtual 230, 3) := g_dec dt78_X11_test_ok (k := 2) rfl
theorem dX11_test_46 : decode cX11_test 46 = .ok (.aload_n 0, 1) := g_dec dt78_X11_test_ok (k := 3) rfl
theorem dX11_test_47 : decode cX11_test 47 = .ok (.getfield 19, 3) := g_dec dt78_X11_test_ok (k := 4) rfl
theorem dX11_test_50 : decode cX11_test 50 = .ok (.iload_n 1, 1) := g_dec dt78_X11_test_ok (k := 5) rfl
theorem dX11_test_51 : decode cX11_test 51 = .ok (.iload_n 2, 1) := g_dec dt78_X11_test_ok (k := 6) rfl
theorem dX11_test_52 : decode cX11_test 52 = .ok (.iload_n 3, 1) := g_dec dt78_X11_test_ok (k := 7) rfl
theorem dX11_test_53 : decode cX11_test 53 = .ok (.invokevirtual 233, 3) := g_dec dt78_X11_test_ok (k := 8) rfl
theorem dX11_test_56 : decode cX11_test 56 = .ok (.ireturn, 1) := g_dec dt78_X11_test_ok (k := 9) rfl
theorem dX11_test_0 : decode cX11_test 0 = .ok (.iload_n 1, 1) := g_dec dt78_X11_test_ok (k := 10) rfl
theorem dX11_test_1 : decode cX11_test 1 = .ok (.iconst 1, 1) := g_dec dt78_X11_test_ok (k := 11) rfl
theorem dX11_test_2 : decode cX11_test 2 = .ok (.sipush 4095, 3) := g_dec dt78_X11_test_ok (k := 12) rfl
theorem dX11_test_5 : decode cX11_test 5 = .ok (.invokestatic 133, 3) := g_dec dt78_X11_test_ok (k := 13) rfl
theorem dX11_test_8 : decode cX11_test 8 = .ok (.iload_n 2, 1) := g_dec dt78_X11_test_ok (k := 14) rfl
theorem dX11_test_9 : decode cX11_test 9 = .ok (.iconst 1, 1) := g_dec dt78_X11_test_ok (k := 15) rfl
theorem dX11_test_10 : decode cX11_test 10 = .ok (.bipush 6, 2) := g_dec dt78_X11_test_ok (k := 16) rfl
theorem dX11_test_12 : decode cX11_test 12 = .ok (.invokestatic 133, 3) := g_dec dt78_X11_test_ok (k := 17) rfl
theorem dX11_test_15 : decode cX11_test 15 = .ok (.iload_n 3, 1) := g_dec dt78_X11_test_ok (k := 18) rfl
theorem dX11_test_16 : decode cX11_test 16 = .ok (.iconst 0, 1) := g_dec dt78_X11_test_ok (k := 19) rfl
theorem dX11_test_17 : decode cX11_test 17 = .ok (.bipush 9, 2) := g_dec dt78_X11_test_ok (k := 20) rfl
theorem dX11_test_19 : decode cX11_test 19 = .ok (.invokestatic 133, 3) := g_dec dt78_X11_test_ok (k := 21) rfl
theorem dX11_test_22 : decode cX11_test 22 = .ok (.aload_n 0, 1) := g_dec dt78_X11_test_ok (k := 22) rfl
theorem dX11_test_23 : decode cX11_test 23 = .ok (.getfield 19, 3) := g_dec dt78_X11_test_ok (k := 23) rfl
theorem dX11_test_26 : decode cX11_test 26 = .ok (.getfield 229, 3) := g_dec dt78_X11_test_ok (k := 24) rfl
theorem dX11_test_29 : decode cX11_test 29 = .ok (.bipush 10, 2) := g_dec dt78_X11_test_ok (k := 25) rfl
theorem dX11_test_31 : decode cX11_test 31 = .ok (.if_icmp .ge 7, 3) := g_dec dt78_X11_test_ok (k := 26) rfl
theorem dX11_test_38 : decode cX11_test 38 = .ok (.iconst 0, 1) := g_dec dt78_X11_test_ok (k := 27) rfl
theorem dX11_test_34 : decode cX11_test 34 = .ok (.iconst 1, 1) := g_dec dt78_X11_test_ok (k := 28) rfl
theorem dX11_test_35 : decode cX11_test 35 = .ok (.goto 4, 3) := g_dec dt78_X11_test_ok (k := 29) rfl
def dt79_X11_breaks : List (Nat × Instr × Nat) := [(100, (.invokestatic 123, 3)), (103, (.aload 6, 2)), (105, (.getfield 246, 3)), (108, (.iload_n 2, 1)), (109, (.i2l, 1)), (110, (.invokevirtual 80, 3)), (113, (.aload 6, 2)), (115, (.getfield 246, 3)), (118, (.iload_n 3, 1)), (119, (.i2l, 1)), (120, (.invokevirtual 80, 3)), (123, (.aload 6, 2)), (125, (.getfield 246, 3)), (128, (.iload 4, 2)), (130, (.i2l, 1)), (131, (.invokevirtual 80, 3)), (134, (.aload 6, 2)), (136, (.getfield 246, 3)), (139, (.iload 5, 2)), (141, (.i2l, 1)), (142, (.invokevirtual 80, 3)), (145, (.aload 6, 2)), (147, (.invokevirtual 249, 3)), (150, (.aload_n 0, 1)), (151, (.invokevirtual 230, 3)), (154, (.aload 6, 2)), (156, (.getfield 246, 3)), (159, (.getfield 217, 3)), (162, (.iconst 4, 1)), (163, (.idiv, 1)), (164, (.ireturn, 1)), (79, (.invokestatic 243, 3)), (82, (.aload 6, 2)), (84, (.getfield 246, 3)), (87, (.getfield 217, 3)), (90, (.bipush 24, 2)), (92, (.if_icmp .ge 7, 3)), (99, (.iconst 0, 1)), (95, (.iconst 1, 1)), (96, (.goto 4, 3)), (78, (.iconst 0, 1)), (0, (.iload_n 1, 1)), (1, (.aload_n 0, 1)), (2, (.getfield 19, 3)), (5, (.getfield 229, 3)), (8, (.invokestatic 106, 3)), (11, (.iload_n 2, 1)), (12, (.bipush 12, 2)), (14, (.invokestatic 106, 3)), (17, (.iload 4, 2)), (19, (.bipush 12, 2)), (21, (.invokestatic 106, 3)), (24, (.iload_n 3, 1)), (25, (.iconst 0, 1)), (26, (.bipush 9, 2)), (28, (.invokestatic 133, 3)), (31, (.iload 5, 2)), (33, (.iconst 0, 1)), (34, (.bipush 9, 2)), (36, (.invokestatic 133, 3))]
theorem dt79_X11_breaks_ok : ∀ q ∈ dt79_X11_breaks, decode cX11_breaks q.1 = .ok q.2 := by decide +kernel
theorem dX11_breaks_100 : decode cX11_breaks 100 = .ok (.invokestatic 123, 3) := g_dec dt79_X11_breaks_ok (k := 0) rfl
theorem dX11_breaks_103 : decode cX11_breaks 103 = .ok (.aload 6, 2) := g_dec dt79_X11_breaks_ok (k := 1) rfl
theorem dX11_breaks_105 : decode cX11_breaks 105 = .ok (.getfield 246, 3) := g_dec dt79_X11_breaks_ok (k := 2) rfl
theorem dX11_breaks_108 : decode cX11_breaks 108 = .ok (.iload_n 2, 1) := g_dec dt79_X11_breaks_ok (k := 3) rfl
theorem dX11_breaks_109 : decode cX11_breaks 109 = .ok (.i2l, 1) := g_dec dt79_X11_breaks_ok (k := 4) rfl
theorem dX11_breaks_110 : decode cX11_breaks 110 = .ok (.invokevirtual 80, 3) := g_dec dt79_X11_breaks_ok (k := 5) rfl
theorem dX11_breaks_113 : decode cX11_breaks 113 = .ok (.aload 6, 2) := g_dec dt79_X11_breaks_ok (k := 6) rfl
theorem dX11_breaks_115 : decode cX11_breaks 115 = .ok (.getfield 246, 3) := g_dec dt79_X11_breaks_ok (k := 7) rfl
theorem dX11_breaks_118 : decode cX11_breaks 118 = .ok (.iload_n 3, 1) := g_dec dt79_X11_breaks_ok (k := 8) rfl
theorem dX11_breaks_119 : decode cX11_breaks 119 = .ok (.i2l, 1) := g_dec dt79_X11_breaks_ok (k := 9) rfl
theorem dX11_breaks_120 : decode cX11_breaks 120 = .ok (.invokevirtual 80, 3) := g_dec dt79_X11_breaks_ok (k := 10) rfl
theorem dX11_breaks_123 : decode cX11_breaks 123 = .ok (.aload 6, 2) := g_dec dt79_X11_breaks_ok (k := 11) rfl
theorem dX11_breaks_125 : decode cX11_breaks 125 = .ok (.getfield 246, 3) := g_dec dt79_X11_breaks_ok (k := 12) rfl
theorem dX11_breaks_128 : decode cX11_breaks 128 = .ok (.iload 4, 2) := g_dec dt79_X11_breaks_ok (k := 13) rfl
theorem dX11_breaks_130 : decode cX11_breaks 130 = .ok (.i2l, 1) := g_dec dt79_X11_breaks_ok (k := 14) rfl
theorem dX11_breaks_131 : decode cX11_breaks 131 = .ok (.invokevirtual 80, 3) := g_dec dt79_X11_breaks_ok (k := 15) rfl
theorem dX11_breaks_134 : decode cX11_breaks 134 = .ok (.aload 6, 2) := g_dec dt79_X11_breaks_ok (k := 16) rfl
theorem dX11_breaks_136 : decode cX11_breaks 136 = .ok (.getfield 246, 3) := g_dec dt79_X11_breaks_ok (k := 17) rfl
theorem dX11_breaks_139 : decode cX11_breaks 139 = .ok (.iload 5, 2) := g_dec dt79_X11_breaks_ok (k := 18) rfl
theorem dX11_breaks_141 : decode cX11_breaks 141 = .ok (.i2l, 1) := g_dec dt79_X11_breaks_ok (k := 19) rfl
theorem dX11_breaks_142 : decode cX11_breaks 142 = .ok (.invokevirtual 80, 3) := g_dec dt79_X11_breaks_ok (k := 20) rfl
theorem dX11_breaks_145 : decode cX11_breaks 145 = .ok (.aload 6, 2) := g_dec dt79_X11_breaks_ok (k := 21) rfl
theorem dX11_breaks_147 : decode cX11_breaks 147 = .ok (.invokevirtual 249, 3) := g_dec dt79_X11_breaks_ok (k := 22) rfl
theorem dX11_breaks_150 : decode cX11_breaks 150 = .ok (.aload_n 0, 1) := g_dec dt79_X11_breaks_ok (k := 23) rfl
theorem dX11_breaks_151 : decode cX11_breaks 151 = .ok (.invokevirtual 230, 3) := g_dec dt79_X11_breaks_ok (k := 24) rfl
theorem dX11_breaks_154 : decode cX11_breaks 154 = .ok (.aload 6, 2) := g_dec dt79_X11_breaks_ok (k := 25) rfl
theorem dX11_breaks_156 : decode cX11_breaks 156 = .ok (.getfield 246, 3) := g_dec dt79_X11_breaks_ok (k := 26) rfl
theorem dX11_breaks_159 : decode cX11_breaks 159 = .ok (.getfield 217, 3) := g_dec dt79_X11_breaks_ok (k := 27) rfl
theorem dX11_breaks_162 : decode cX11_breaks 162 = .ok (.iconst 4, 1) := g_dec dt79_X11_breaks_ok (k := 28) rfl
theorem dX11_breaks_163 : decode cX11_breaks 163 = .ok (.idiv, 1) := g_dec dt79_X11_breaks_ok (k := 29) rfl
theorem dX11_breaks_164 : decode cX11_breaks 164 = .ok (.ireturn, 1) := g_dec dt79_X11_breaks_ok (k := 30) rfl
theorem dX11_breaks_79 : decode cX11_breaks 79 = .ok (.invokestatic 243, 3) := g_dec dt79_X11_breaks_ok (k := 31) rfl
theorem dX11_breaks_82 : decode cX11_breaks 82 = .ok (.aload 6, 2) := g_dec dt79_X11_breaks_ok (k := 32) rfl
theorem dX11_breaks_84 : decode cX11_breaks 84 = .ok (.getfield 246, 3) := g_dec dt79_X11_breaks_ok (k := 33) rfl
theorem dX11_breaks_87 : decode cX11_breaks 87 = .ok (.getfield 217, 3) := g_dec dt79_X11_breaks_ok (k := 34) rfl
theorem dX11_breaks_90 : decode cX11_breaks 90 = .ok (.bipush 24, 2) := g_dec dt79_X11_breaks_ok (k := 35) rfl
theorem dX11_breaks_92 : decode cX11_breaks 92 = .ok (.if_icmp .ge 7, 3) := g_dec dt79_X11_breaks_ok (k := 36) rfl
theorem dX11_breaks_99 : decode cX11_breaks 99 = .ok (.iconst 0, 1) := g_dec dt79_X11_breaks_ok (k := 37) rfl
theorem dX11_breaks_95 : decode cX11_breaks 95 = .ok (.iconst 1, 1) := g_dec dt79_X11_breaks_ok (k := 38) rfl
theorem dX11_breaks_96 : decode cX11_breaks 96 = .ok (.goto 4, 3) := g_dec dt79_X11_breaks_ok (k := 39) rfl
theorem dX11_breaks_78 : decode cX11_breaks 78 = .ok (.iconst 0, 1) := g_dec dt79_X11_breaks_ok (k := 40) rfl
theorem dX11_breaks_0 : decode cX11_breaks 0 = .ok (.iload_n 1, 1) := g_dec dt79_X11_breaks_ok (k := 41) rfl
theorem dX11_breaks_1 : decode cX11_breaks 1 = .ok (.aload_n 0, 1) := g_dec dt79_X11_breaks_ok (k := 42) rfl
theorem dX11_breaks_2 : decode cX11_breaks 2 = .ok (.getfield 19, 3) := g_dec dt79_X11_breaks_ok (k := 43) rfl
theorem dX11_breaks_5 : decode cX11_breaks 5 = .ok (.getfield 229, 3) := g_dec dt79_X11_breaks_ok (k := 44) rfl
theorem dX11_breaks_8 : decode cX11_breaks 8 = .ok (.invokestatic 106, 3) := g_dec dt79_X11_breaks_ok (k := 45) rfl
theorem dX11_breaks_11 : decode cX11_breaks 11 = .ok (.iload_n 2, 1) := g_dec dt79_X11_breaks_ok (k := 46) rfl
theorem dX11_breaks_12 : decode cX11_breaks 12 = .ok (.bipush 12, 2) := g_dec dt79_X11_breaks_ok (k := 47) rfl
theorem dX11_breaks_14 : decode cX11_breaks 14 = .ok (.invokestatic 106, 3) := g_dec dt79_X11_breaks_ok (k := 48) rfl
theorem dX11_breaks_17 : decode cX11_breaks 17 = .ok (.iload 4, 2) := g_dec dt79_X11_breaks_ok (k := 49) rfl
theorem dX11_breaks_19 : decode cX11_breaks 19 = .ok (.bipush 12, 2) := g_dec dt79_X11_breaks_ok (k := 50) rfl
theorem dX11_breaks_21 : decode cX11_breaks 21 = .ok (.invokestatic 106, 3) := g_dec dt79_X11_breaks_ok (k := 51) rfl
theorem dX11_breaks_24 : decode cX11_breaks 24 = .ok (.iload_n 3, 1) := g_dec dt79_X11_breaks_ok (k := 52) rfl
theorem dX11_breaks_25 : decode cX11_breaks 25 = .ok (.iconst 0, 1) := g_dec dt79_X11_breaks_ok (k := 53) rfl
theorem dX11_breaks_26 : decode cX11_breaks 26 = .ok (.bipush 9, 2) := g_dec dt79_X11_breaks_ok (k := 54) rfl
theorem dX11_breaks_28 : decode cX11_breaks 28 = .ok (.invokestatic 133, 3) := g_dec dt79_X11_breaks_ok (k := 55) rfl
theorem dX11_breaks_31 : decode cX11_breaks 31 = .ok (.iload 5, 2) := g_dec dt79_X11_breaks_ok (k := 56) rfl
theorem dX11_breaks_33 : decode cX11_breaks 33 = .ok (.iconst 0, 1) := g_dec dt79_X11_breaks_ok (k := 57) rfl
theorem dX11_breaks_34 : decode cX11_breaks 34 = .ok (.bipush 9, 2) := g_dec dt79_X11_breaks_ok (k := 58) rfl
theorem dX11_breaks_36 : decode cX11_breaks 36 = .ok (.invokestatic 133, 3) := g_dec dt79_X11_breaks_ok (k := 59) rfl
def dt80_X11_breaks : List (Nat × Instr × Nat) := [(39, (.aload_n 0, 1)), (40, (.getfield 19, 3)), (43, (.iload_n 1, 1)), (44, (.invokevirtual 237, 3)), (47, (.astore 6, 2)), (49, (.aload 6, 2)), (51, (.getfield 240, 3)), (54, (.iload_n 2, 1)), (55, (.invokestatic 175, 3)), (58, (.ifCond .eq 20, 3)), (61, (.aload 6, 2)), (63, (.getfield 240, 3)), (66, (.iload 4, 2)), (68, (.invokestatic 175, 3)), (71, (.ifCond .eq 7, 3)), (74, (.iconst 1, 1)), (75, (.goto 4, 3))]
theorem dt80_X11_breaks_ok : ∀ q ∈ dt80_X11_breaks, decode cX11_breaks q.1 = .ok q.2 := by decide +kernel
theorem dX11_breaks_39 : decode cX11_breaks 39 = .ok (.aload_n 0, 1) := g_dec dt80_X11_breaks_ok (k := 0) rfl
theorem dX11_breaks_40 : decode cX11_breaks 40 = .ok (.getfield 19, 3) := g_dec dt80_X11_breaks_ok (k := 1) rfl
theorem dX11_breaks_43 : decode cX11_breaks 43 = .ok (.iload_n 1, 1) := g_dec dt80_X11_breaks_ok (k := 2) rfl
theorem dX11_breaks_44 : decode cX11_breaks 44 = .ok (.invokevirtual 237, 3) := g_dec dt80_X11_breaks_ok (k := 3) rfl
theorem dX11_breaks_47 : decode cX11_breaks 47 = .ok (.astore 6, 2) := g_dec dt80_X11_breaks_ok (k := 4) rfl
theorem dX11_breaks_49 : decode cX11_breaks 49 = .ok (.aload 6, 2) := g_dec dt80_X11_breaks_ok (k := 5) rfl
theorem dX11_breaks_51 : decode cX11_breaks 51 = .ok (.getfield 240, 3) := g_dec dt80_X11_breaks_ok (k := 6) rfl
theorem dX11_breaks_54 : decode cX11_breaks 54 = .ok (.iload_n 2, 1) := g_dec dt80_X11_breaks_ok (k := 7) rfl
theorem dX11_breaks_55 : decode cX11_breaks 55 = .ok (.invokestatic 175, 3) := g_dec dt80_X11_breaks_ok (k := 8) rfl
theorem dX11_breaks_58 : decode cX11_breaks 58 = .ok (.ifCond .eq 20, 3) := g_dec dt80_X11_breaks_ok (k := 9) rfl
theorem dX11_breaks_61 : decode cX11_breaks 61 = .ok (.aload 6, 2) := g_dec dt80_X11_breaks_ok (k := 10) rfl
theorem dX11_breaks_63 : decode cX11_breaks 63 = .ok (.getfield 240, 3) := g_dec dt80_X11_breaks_ok (k := 11) rfl
theorem dX11_breaks_66 : decode cX11_breaks 66 = .ok (.iload 4, 2) := g_dec dt80_X11_breaks_ok (k := 12) rfl
theorem dX11_breaks_68 : decode cX11_breaks 68 = .ok (.invokestatic 175, 3) := g_dec dt80_X11_breaks_ok (k := 13) rfl
theorem dX11_breaks_71 : decode cX11_breaks 71 = .ok (.ifCond .eq 7, 3) := g_dec dt80_X11_breaks_ok (k := 14) rfl
theorem dX11_breaks_74 : decode cX11_breaks 74 = .ok (.iconst 1, 1) := g_dec dt80_X11_breaks_ok (k := 15) rfl
theorem dX11_breaks_75 : decode cX11_breaks 75 = .ok (.goto 4, 3) := g_dec dt80_X11_breaks_ok (k := 16) rfl
def dt81_X11_outside : List (Nat × Instr × Nat) := [(45, (.iload 4, 2)), (47, (.ireturn, 1)), (0, (.iload_n 1, 1)), (1, (.aload_n 0, 1)), (2, (.getfield 19, 3)), (5, (.getfield 229, 3)), (8, (.invokestatic 106, 3)), (11, (.aload_n 0, 1)), (12, (.getfield 19, 3)), (15, (.iload_n 1, 1)), (16, (.invokevirtual 237, 3)), (19, (.astore_n 3, 1)), (20, (.aload_n 3, 1)), (21, (.getfield 252, 3)), (24, (.istore 4, 2)), (26, (.iload 4, 2)), (28, (.iload_n 2, 1)), (29, (.if_icmp .eq 16, 3)), (32, (.aload_n 3, 1)), (33, (.iload_n 2, 1)), (34, (.putfield 252, 3)), (37, (.aload_n 3, 1)), (38, (.invokevirtual 249, 3)), (41, (.aload_n 0, 1)), (42, (.invokevirtual 230, 3))]
theorem dt81_X11_outside_ok : ∀ q ∈ dt81_X11_outside, decode cX11_outside q.1 = .ok q.2 := by decide +kernel
theorem dX11_outside_45 : decode cX11_outside 45 = .ok (.iload 4, 2) := g_dec dt81_X11_outside_ok (k := 0) rfl
theorem dX11_outside_47 : decode cX11_outside 47 = .ok (.ireturn, 1) := g_dec dt81_X11_outside_ok (k := 1) rfl
theorem dX11_outside_0 : decode cX11_outside 0 = .ok (.iload_n 1, 1) := g_dec dt81_X11_outside_ok (k := 2) rfl
theorem dX11_outside_1 : decode cX11_outside 1 = .ok (.aload_n 0, 1) := g_dec dt81_X11_outside_ok (k := 3) rfl
theorem dX11_outside_2 : decode cX11_outside 2 = .ok (.getfield 19, 3) := g_dec dt81_X11_outside_ok (k := 4) rfl
theorem dX11_outside_5 : decode cX11_outside 5 = .ok (.getfield 229, 3) := g_dec dt81_X11_outside_ok (k := 5) rfl
theorem dX11_outside_8 : decode cX11_outside 8 = .ok (.invokestatic 106, 3) := g_dec dt81_X11_outside_ok (k := 6) rfl
theorem dX11_outside_11 : decode cX11_outside 11 = .ok (.aload_n 0, 1) := g_dec dt81_X11_outside_ok (k := 7) rfl
theorem dX11_outside_12 : decode cX11_outside 12 = .ok (.getfield 19, 3) := g_dec dt81_X11_outside_ok (k := 8) rfl
theorem dX11_outside_15 : decode cX11_outside 15 = .ok (.iload_n 1, 1) := g_dec dt81_X11_outside_ok (k := 9) rfl
theorem dX11_outside_16 : decode cX11_outside 16 = .ok (.invokevirtual 237, 3) := g_dec dt81_X11_outside_ok (k := 10) rfl
theorem dX11_outside_19 : decode cX11_outside 19 = .ok (.astore_n 3, 1) := g_dec dt81_X11_outside_ok (k := 11) rfl
theorem dX11_outside_20 : decode cX11_outside 20 = .ok (.aload_n 3, 1) := g_dec dt81_X11_outside_ok (k := 12) rfl
theorem dX11_outside_21 : decode cX11_outside 21 = .ok (.getfield 252, 3) := g_dec dt81_X11_outside_ok (k := 13) rfl
theorem dX11_outside_24 : decode cX11_outside 24 = .ok (.istore 4, 2) := g_dec dt81_X11_outside_ok (k := 14) rfl
theorem dX11_outside_26 : decode cX11_outside 26 = .ok (.iload 4, 2) := g_dec dt81_X11_outside_ok (k := 15) rfl
theorem dX11_outside_28 : decode cX11_outside 28 = .ok (.iload_n 2, 1) := g_dec dt81_X11_outside_ok (k := 16) rfl
theorem dX11_outside_29 : decode cX11_outside 29 = .ok (.if_icmp .eq 16, 3) := g_dec dt81_X11_outside_ok (k := 17) rfl
theorem dX11_outside_32 : decode cX11_outside 32 = .ok (.aload_n 3, 1) := g_dec dt81_X11_outside_ok (k := 18) rfl
theorem dX11_outside_33 : decode cX11_outside 33 = .ok (.iload_n 2, 1) := g_dec dt81_X11_outside_ok (k := 19) rfl
theorem dX11_outside_34 : decode cX11_outside 34 = .ok (.putfield 252, 3) := g_dec dt81_X11_outside_ok (k := 20) rfl
theorem dX11_outside_37 : decode cX11_outside 37 = .ok (.aload_n 3, 1) := g_dec dt81_X11_outside_ok (k := 21) rfl
theorem dX11_outside_38 : decode cX11_outside 38 = .ok (.invokevirtual 249, 3) := g_dec dt81_X11_outside_ok (k := 22) rfl
theorem dX11_outside_41 : decode cX11_outside 41 = .ok (.aload_n 0, 1) := g_dec dt81_X11_outside_ok (k := 23) rfl
theorem dX11_outside_42 : decode cX11_outside 42 = .ok (.invokevirtual 230, 3) := g_dec dt81_X11_outside_ok (k := 24) rfl
def dt82_X11_line : List (Nat × Instr × Nat) := [(61, (.invokestatic 123, 3)), (64, (.aload_n 0, 1)), (65, (.invokevirtual 230, 3)), (68, (.aload_n 0, 1)), (69, (.getfield 19, 3)), (72, (.iload_n 1, 1)), (73, (.iload_n 2, 1)), (74, (.iload_n 3, 1)), (75, (.invokevirtual 258, 3)), (78, (.ireturn, 1)), (38, (.invokestatic 133, 3)), (41, (.aload_n 0, 1)), (42, (.getfield 19, 3)), (45, (.getfield 255, 3)), (48, (.getfield 217, 3)), (51, (.bipush 12, 2)), (53, (.if_icmp .ge 7, 3)), (60, (.iconst 0, 1)), (56, (.iconst 1, 1)), (57, (.goto 4, 3)), (0, (.iload_n 1, 1)), (1, (.aload_n 0, 1)), (2, (.getfield 19, 3)), (5, (.getfield 229, 3)), (8, (.invokestatic 106, 3)), (11, (.iload_n 2, 1)), (12, (.iconst 0, 1)), (13, (.iconst 2, 1)), (14, (.invokestatic 133, 3)), (17, (.iload_n 3, 1)), (18, (.iconst 0, 1)), (19, (.iload_n 2, 1)), (20, (.ifCond .ne 7, 3)), (27, (.iload_n 2, 1)), (28, (.iconst 1, 1)), (29, (.if_icmp .ne 8, 3)), (37, (.iconst 2, 1)), (32, (.bipush 11, 2)), (34, (.goto 4, 3)), (23, (.iconst 0, 1)), (24, (.goto 14, 3))]
theorem dt82_X11_line_ok : ∀ q ∈ dt82_X11_line, decode cX11_line q.1 = .ok q.2 := by decide +kernel
theorem dX11_line_61 : decode cX11_line 61 = .ok (.invokestatic 123, 3) := g_dec dt82_X11_line_ok (k := 0) rfl
theorem dX11_line_64 : decode cX11_line 64 = .ok (.aload_n 0, 1) := g_dec dt82_X11_line_ok (k := 1) rfl
theorem dX11_line_65 : decode cX11_line 65 = .ok (.invokevirtual 230, 3) := g_dec dt82_X11_line_ok (k := 2) rfl
theorem dX11_line_68 : decode cX11_line 68 = .ok (.aload_n 0, 1) := g_dec dt82_X11_line_ok (k := 3) rfl
theorem dX11_line_69 : decode cX11_line 69 = .ok (.getfield 19, 3) := g_dec dt82_X11_line_ok (k := 4) rfl
theorem dX11_line_72 : decode cX11_line 72 = .ok (.iload_n 1, 1) := g_dec dt82_X11_line_ok (k := 5) rfl
theorem dX11_line_73 : decode cX11_line 73 = .ok (.iload_n 2, 1) := g_dec dt82_X11_line_ok (k := 6) rfl
theorem dX11_line_74 : decode cX11_line 74 = .ok (.iload_n 3, 1) := g_dec dt82_X11_line_ok (k := 7) rfl
theorem dX11_line_75 : decode cX11_line 75 = .ok (.invokevirtual 258, 3) := g_dec dt82_X11_line_ok (k := 8) rfl
theorem dX11_line_78 : decode cX11_line 78 = .ok (.ireturn, 1) := g_dec dt82_X11_line_ok (k := 9) rfl
theorem dX11_line_38 : decode cX11_line 38 = .ok (.invokestatic 133, 3) := g_dec dt82_X11_line_ok (k := 10) rfl
theorem dX11_line_41 : decode cX11_line 41 = .ok (.aload_n 0, 1) := g_dec dt82_X11_line_ok (k := 11) rfl
theorem dX11_line_42 : decode cX11_line 42 = .ok (.getfield 19, 3) := g_dec dt82_X11_line_ok (k := 12) rfl
theorem dX11_line_45 : decode cX11_line 45 = .ok (.getfield 255, 3) := g_dec dt82_X11_line_ok (k := 13) rfl
theorem dX11_line_48 : decode cX11_line 48 = .ok (.getfield 217, 3) := g_dec dt82_X11_line_ok (k := 14) rfl
theorem dX11_line_51 : decode cX11_line 51 = .ok (.bipush 12, 2) := g_dec dt82_X11_line_ok (k := 15) rfl
theorem dX11_line_53 : decode cX11_line 53 = .ok (.if_icmp .ge 7, 3) := g_dec dt82_X11_line_ok (k := 16) rfl
theorem dX11_line_60 : decode cX11_line 60 = .ok (.iconst 0, 1) := g_dec dt82_X11_line_ok (k := 17) rfl
theorem dX11_line_56 : decode cX11_line 56 = .ok (.iconst 1, 1) := g_dec dt82_X11_line_ok (k := 18) rfl
theorem dX11_line_57 : decode cX11_line 57 = .ok (.goto 4, 3) := g_dec dt82_X11_line_ok (k := 19) rfl
theorem dX11_line_0 : decode cX11_line 0 = .ok (.iload_n 1, 1) := g_dec dt82_X11_line_ok (k := 20) rfl
theorem dX11_line_1 : decode cX11_line 1 = .ok (.aload_n 0, 1) := g_dec dt82_X11_line_ok (k := 21) rfl
theorem dX11_line_2 : decode cX11_line 2 = .ok (.getfield 19, 3) := g_dec dt82_X11_line_ok (k := 22) rfl
theorem dX11_line_5 : decode cX11_line 5 = .ok (.getfield 229, 3) := g_dec dt82_X11_line_ok (k := 23) rfl
theorem dX11_line_8 : decode cX11_line 8 = .ok (.invokestatic 106, 3) := g_dec dt82_X11_line_ok (k := 24) rfl
theorem dX11_line_11 : decode cX11_line 11 = .ok (.iload_n 2, 1) := g_dec dt82_X11_line_ok (k := 25) rfl
theorem dX11_line_12 : decode cX11_line 12 = .ok (.iconst 0, 1) := g_dec dt82_X11_line_ok (k := 26) rfl
theorem dX11_line_13 : decode cX11_line 13 = .ok (.iconst 2, 1) := g_dec dt82_X11_line_ok (k := 27) rfl
theorem dX11_line_14 : decode cX11_line 14 = .ok (.invokestatic 133, 3) := g_dec dt82_X11_line_ok (k := 28) rfl
theorem dX11_line_17 : decode cX11_line 17 = .ok (.iload_n 3, 1) := g_dec dt82_X11_line_ok (k := 29) rfl
theorem dX11_line_18 : decode cX11_line 18 = .ok (.iconst 0, 1) := g_dec dt82_X11_line_ok (k := 30) rfl
theorem dX11_line_19 : decode cX11_line 19 = .ok (.iload_n 2, 1) := g_dec dt82_X11_line_ok (k := 31) rfl
theorem dX11_line_20 : decode cX11_line 20 = .ok (.ifCond .ne 7, 3) := g_dec dt82_X11_line_ok (k := 32) rfl
theorem dX11_line_27 : decode cX11_line 27 = .ok (.iload_n 2, 1) := g_dec dt82_X11_line_ok (k := 33) rfl
theorem dX11_line_28 : decode cX11_line 28 = .ok (.iconst 1, 1) := g_dec dt82_X11_line_ok (k := 34) rfl
theorem dX11_line_29 : decode cX11_line 29 = .ok (.if_icmp .ne 8, 3) := g_dec dt82_X11_line_ok (k := 35) rfl
theorem dX11_line_37 : decode cX11_line 37 = .ok (.iconst 2, 1) := g_dec dt82_X11_line_ok (k := 36) rfl
theorem dX11_line_32 : decode cX11_line 32 = .ok (.bipush 11, 2) := g_dec dt82_X11_line_ok (k := 37) rfl
theorem dX11_line_34 : decode cX11_line 34 = .ok (.goto 4, 3) := g_dec dt82_X11_line_ok (k := 38) rfl
theorem dX11_line_23 : decode cX11_line 23 = .ok (.iconst 0, 1) := g_dec dt82_X11_line_ok (k := 39) rfl
theorem dX11_line_24 : decode cX11_line 24 = .ok (.goto 14, 3) := g_dec dt82_X11_line_ok (k := 40) rfl
def dt83_X11_letBack : List (Nat × Instr × Nat) := [(0, (.iload_n 1, 1)), (1, (.aload_n 0, 1)), (2, (.getfield 19, 3)), (5, (.getfield 229, 3)), (8, (.invokestatic 106, 3)), (11, (.aload_n 0, 1)), (12, (.getfield 19, 3)), (15, (.iload_n 1, 1)), (16, (.invokevirtual 237, 3)), (19, (.astore_n 2, 1)), (20, (.aload_n 2, 1)), (21, (.invokevirtual 261, 3)), (24, (.istore_n 3, 1)), (25, (.aload_n 2, 1)), (26, (.iconst 0, 1)), (27, (.putfield 264, 3)), (30, (.aload_n 0, 1)), (31, (.invokevirtual 230, 3)), (34, (.iload_n 3, 1)), (35, (.ireturn, 1))]
theorem dt83_X11_letBack_ok : ∀ q ∈ dt83_X11_letBack, decode cX11_letBack q.1 = .ok q.2 := by decide +kernel
theorem dX11_letBack_0 : decode cX11_letBack 0 = .ok (.iload_n 1, 1) := g_dec dt83_X11_letBack_ok (k := 0) rfl
theorem dX11_letBack_1 : decode cX11_letBack 1 = .ok (.aload_n 0, 1) := g_dec dt83_X11_letBack_ok (k := 1) rfl
theorem dX11_letBack_2 : decode cX11_letBack 2 = .ok (.getfield 19, 3) := g_dec dt83_X11_letBack_ok (k := 2) rfl
theorem dX11_letBack_5 : decode cX11_letBack 5 = .ok (.getfield 229, 3) := g_dec dt83_X11_letBack_ok (k := 3) rfl
theorem dX11_letBack_8 : decode cX11_letBack 8 = .ok (.invokestatic 106, 3) := g_dec dt83_X11_letBack_ok (k := 4) rfl
theorem dX11_letBack_11 : decode cX11_letBack 11 = .ok (.aload_n 0, 1) := g_dec dt83_X11_letBack_ok (k := 5) rfl
theorem dX11_letBack_12 : decode cX11_letBack 12 = .ok (.getfield 19, 3) := g_dec dt83_X11_letBack_ok (k := 6) rfl
theorem dX11_letBack_15 : decode cX11_letBack 15 = .ok (.iload_n 1, 1) := g_dec dt83_X11_letBack_ok (k := 7) rfl
theorem dX11_letBack_16 : decode cX11_letBack 16 = .ok (.invokevirtual 237, 3) := g_dec dt83_X11_letBack_ok (k := 8) rfl
theorem dX11_letBack_19 : decode cX11_letBack 19 = .ok (.astore_n 2, 1) := g_dec dt83_X11_letBack_ok (k := 9) rfl
theorem dX11_letBack_20 : decode cX11_letBack 20 = .ok (.aload_n 2, 1) := g_dec dt83_X11_letBack_ok (k := 10) rfl
theorem dX11_letBack_21 : decode cX11_letBack 21 = .ok (.invokevirtual 261, 3) := g_dec dt83_X11_letBack_ok (k := 11) rfl
theorem dX11_letBack_24 : decode cX11_letBack 24 = .ok (.istore_n 3, 1) := g_dec dt83_X11_letBack_ok (k := 12) rfl
theorem dX11_letBack_25 : decode cX11_letBack 25 = .ok (.aload_n 2, 1) := g_dec dt83_X11_letBack_ok (k := 13) rfl
theorem dX11_letBack_26 : decode cX11_letBack 26 = .ok (.iconst 0, 1) := g_dec dt83_X11_letBack_ok (k := 14) rfl
theorem dX11_letBack_27 : decode cX11_letBack 27 = .ok (.putfield 264, 3) := g_dec dt83_X11_letBack_ok (k := 15) rfl
theorem dX11_letBack_30 : decode cX11_letBack 30 = .ok (.aload_n 0, 1) := g_dec dt83_X11_letBack_ok (k := 16) rfl
theorem dX11_letBack_31 : decode cX11_letBack 31 = .ok (.invokevirtual 230, 3) := g_dec dt83_X11_letBack_ok (k := 17) rfl
theorem dX11_letBack_34 : decode cX11_letBack 34 = .ok (.iload_n 3, 1) := g_dec dt83_X11_letBack_ok (k := 18) rfl
theorem dX11_letBack_35 : decode cX11_letBack 35 = .ok (.ireturn, 1) := g_dec dt83_X11_letBack_ok (k := 19) rfl
def dt84_X11_batches : List (Nat × Instr × Nat) := [(0, (.iload_n 1, 1)), (1, (.iconst 1, 1)), (2, (.bipush 8, 2)), (4, (.invokestatic 133, 3)), (7, (.iload_n 2, 1)), (8, (.iconst 1, 1)), (9, (.iconst 4, 1)), (10, (.invokestatic 133, 3)), (13, (.bipush 10, 2)), (15, (.aload_n 0, 1)), (16, (.getfield 33, 3)), (19, (.getfield 267, 3)), (22, (.imul, 1)), (23, (.aload_n 0, 1)), (24, (.getfield 33, 3)), (27, (.getfield 270, 3)), (30, (.iadd, 1)), (31, (.istore_n 3, 1)), (32, (.aload_n 0, 1)), (33, (.getfield 33, 3)), (36, (.iload_n 1, 1)), (37, (.putfield 267, 3)), (40, (.aload_n 0, 1)), (41, (.getfield 33, 3)), (44, (.iload_n 2, 1)), (45, (.putfield 270, 3)), (48, (.aload_n 0, 1)), (49, (.invokevirtual 230, 3)), (52, (.iload_n 3, 1)), (53, (.ireturn, 1))]
theorem dt84_X11_batches_ok : ∀ q ∈ dt84_X11_batches, decode cX11_batches q.1 = .ok q.2 := by decide +kernel
theorem dX11_batches_0 : decode cX11_batches 0 = .ok (.iload_n 1, 1) := g_dec dt84_X11_batches_ok (k := 0) rfl
theorem dX11_batches_1 : decode cX11_batches 1 = .ok (.iconst 1, 1) := g_dec dt84_X11_batches_ok (k := 1) rfl
theorem dX11_batches_2 : decode cX11_batches 2 = .ok (.bipush 8, 2) := g_dec dt84_X11_batches_ok (k := 2) rfl
theorem dX11_batches_4 : decode cX11_batches 4 = .ok (.invokestatic 133, 3) := g_dec dt84_X11_batches_ok (k := 3) rfl
theorem dX11_batches_7 : decode cX11_batches 7 = .ok (.iload_n 2, 1) := g_dec dt84_X11_batches_ok (k := 4) rfl
theorem dX11_batches_8 : decode cX11_batches 8 = .ok (.iconst 1, 1) := g_dec dt84_X11_batches_ok (k := 5) rfl
theorem dX11_batches_9 : decode cX11_batches 9 = .ok (.iconst 4, 1) := g_dec dt84_X11_batches_ok (k := 6) rfl
theorem dX11_batches_10 : decode cX11_batches 10 = .ok (.invokestatic 133, 3) := g_dec dt84_X11_batches_ok (k := 7) rfl
theorem dX11_batches_13 : decode cX11_batches 13 = .ok (.bipush 10, 2) := g_dec dt84_X11_batches_ok (k := 8) rfl
theorem dX11_batches_15 : decode cX11_batches 15 = .ok (.aload_n 0, 1) := g_dec dt84_X11_batches_ok (k := 9) rfl
theorem dX11_batches_16 : decode cX11_batches 16 = .ok (.getfield 33, 3) := g_dec dt84_X11_batches_ok (k := 10) rfl
theorem dX11_batches_19 : decode cX11_batches 19 = .ok (.getfield 267, 3) := g_dec dt84_X11_batches_ok (k := 11) rfl
theorem dX11_batches_22 : decode cX11_batches 22 = .ok (.imul, 1) := g_dec dt84_X11_batches_ok (k := 12) rfl
theorem dX11_batches_23 : decode cX11_batches 23 = .ok (.aload_n 0, 1) := g_dec dt84_X11_batches_ok (k := 13) rfl
theorem dX11_batches_24 : decode cX11_batches 24 = .ok (.getfield 33, 3) := g_dec dt84_X11_batches_ok (k := 14) rfl
theorem dX11_batches_27 : decode cX11_batches 27 = .ok (.getfield 270, 3) := g_dec dt84_X11_batches_ok (k := 15) rfl
theorem dX11_batches_30 : decode cX11_batches 30 = .ok (.iadd, 1) := g_dec dt84_X11_batches_ok (k := 16) rfl
theorem dX11_batches_31 : decode cX11_batches 31 = .ok (.istore_n 3, 1) := g_dec dt84_X11_batches_ok (k := 17) rfl
theorem dX11_batches_32 : decode cX11_batches 32 = .ok (.aload_n 0, 1) := g_dec dt84_X11_batches_ok (k := 18) rfl
theorem dX11_batches_33 : decode cX11_batches 33 = .ok (.getfield 33, 3) := g_dec dt84_X11_batches_ok (k := 19) rfl
theorem dX11_batches_36 : decode cX11_batches 36 = .ok (.iload_n 1, 1) := g_dec dt84_X11_batches_ok (k := 20) rfl
theorem dX11_batches_37 : decode cX11_batches 37 = .ok (.putfield 267, 3) := g_dec dt84_X11_batches_ok (k := 21) rfl
theorem dX11_batches_40 : decode cX11_batches 40 = .ok (.aload_n 0, 1) := g_dec dt84_X11_batches_ok (k := 22) rfl
theorem dX11_batches_41 : decode cX11_batches 41 = .ok (.getfield 33, 3) := g_dec dt84_X11_batches_ok (k := 23) rfl
theorem dX11_batches_44 : decode cX11_batches 44 = .ok (.iload_n 2, 1) := g_dec dt84_X11_batches_ok (k := 24) rfl
theorem dX11_batches_45 : decode cX11_batches 45 = .ok (.putfield 270, 3) := g_dec dt84_X11_batches_ok (k := 25) rfl
theorem dX11_batches_48 : decode cX11_batches 48 = .ok (.aload_n 0, 1) := g_dec dt84_X11_batches_ok (k := 26) rfl
theorem dX11_batches_49 : decode cX11_batches 49 = .ok (.invokevirtual 230, 3) := g_dec dt84_X11_batches_ok (k := 27) rfl
theorem dX11_batches_52 : decode cX11_batches 52 = .ok (.iload_n 3, 1) := g_dec dt84_X11_batches_ok (k := 28) rfl
theorem dX11_batches_53 : decode cX11_batches 53 = .ok (.ireturn, 1) := g_dec dt84_X11_batches_ok (k := 29) rfl
def dt85_X11_machineAt : List (Nat × Instr × Nat) := [(26, (.aload_n 0, 1)), (27, (.getfield 67, 3)), (30, (.areturn, 1)), (0, (.iload_n 1, 1)), (1, (.ifCond .lt 25, 3)), (4, (.iload_n 1, 1)), (5, (.aload_n 0, 1)), (6, (.getfield 60, 3)), (9, (.arraylength, 1)), (10, (.if_icmp .ge 16, 3)), (13, (.aload_n 0, 1)), (14, (.getfield 60, 3)), (17, (.iload_n 1, 1)), (18, (.aaload, 1)), (19, (.astore_n 2, 1)), (20, (.aload_n 2, 1)), (21, (.ifnull 5, 3)), (24, (.aload_n 2, 1)), (25, (.areturn, 1))]
theorem dt85_X11_machineAt_ok : ∀ q ∈ dt85_X11_machineAt, decode cX11_machineAt q.1 = .ok q.2 := by decide +kernel
theorem dX11_machineAt_26 : decode cX11_machineAt 26 = .ok (.aload_n 0, 1) := g_dec dt85_X11_machineAt_ok (k := 0) rfl
theorem dX11_machineAt_27 : decode cX11_machineAt 27 = .ok (.getfield 67, 3) := g_dec dt85_X11_machineAt_ok (k := 1) rfl
theorem dX11_machineAt_30 : decode cX11_machineAt 30 = .ok (.areturn, 1) := g_dec dt85_X11_machineAt_ok (k := 2) rfl
theorem dX11_machineAt_0 : decode cX11_machineAt 0 = .ok (.iload_n 1, 1) := g_dec dt85_X11_machineAt_ok (k := 3) rfl
theorem dX11_machineAt_1 : decode cX11_machineAt 1 = .ok (.ifCond .lt 25, 3) := g_dec dt85_X11_machineAt_ok (k := 4) rfl
theorem dX11_machineAt_4 : decode cX11_machineAt 4 = .ok (.iload_n 1, 1) := g_dec dt85_X11_machineAt_ok (k := 5) rfl
theorem dX11_machineAt_5 : decode cX11_machineAt 5 = .ok (.aload_n 0, 1) := g_dec dt85_X11_machineAt_ok (k := 6) rfl
theorem dX11_machineAt_6 : decode cX11_machineAt 6 = .ok (.getfield 60, 3) := g_dec dt85_X11_machineAt_ok (k := 7) rfl
theorem dX11_machineAt_9 : decode cX11_machineAt 9 = .ok (.arraylength, 1) := g_dec dt85_X11_machineAt_ok (k := 8) rfl
theorem dX11_machineAt_10 : decode cX11_machineAt 10 = .ok (.if_icmp .ge 16, 3) := g_dec dt85_X11_machineAt_ok (k := 9) rfl
theorem dX11_machineAt_13 : decode cX11_machineAt 13 = .ok (.aload_n 0, 1) := g_dec dt85_X11_machineAt_ok (k := 10) rfl
theorem dX11_machineAt_14 : decode cX11_machineAt 14 = .ok (.getfield 60, 3) := g_dec dt85_X11_machineAt_ok (k := 11) rfl
theorem dX11_machineAt_17 : decode cX11_machineAt 17 = .ok (.iload_n 1, 1) := g_dec dt85_X11_machineAt_ok (k := 12) rfl
theorem dX11_machineAt_18 : decode cX11_machineAt 18 = .ok (.aaload, 1) := g_dec dt85_X11_machineAt_ok (k := 13) rfl
theorem dX11_machineAt_19 : decode cX11_machineAt 19 = .ok (.astore_n 2, 1) := g_dec dt85_X11_machineAt_ok (k := 14) rfl
theorem dX11_machineAt_20 : decode cX11_machineAt 20 = .ok (.aload_n 2, 1) := g_dec dt85_X11_machineAt_ok (k := 15) rfl
theorem dX11_machineAt_21 : decode cX11_machineAt 21 = .ok (.ifnull 5, 3) := g_dec dt85_X11_machineAt_ok (k := 16) rfl
theorem dX11_machineAt_24 : decode cX11_machineAt 24 = .ok (.aload_n 2, 1) := g_dec dt85_X11_machineAt_ok (k := 17) rfl
theorem dX11_machineAt_25 : decode cX11_machineAt 25 = .ok (.areturn, 1) := g_dec dt85_X11_machineAt_ok (k := 18) rfl
def dt86_X11_come : List (Nat × Instr × Nat) := [(35, (.ireturn, 1)), (0, (.iload_n 1, 1)), (1, (.bipush 6, 2)), (3, (.invokestatic 106, 3)), (6, (.aload_n 0, 1)), (7, (.iload_n 1, 1)), (8, (.invokevirtual 273, 3)), (11, (.astore_n 2, 1)), (12, (.aload_n 2, 1)), (13, (.getfield 277, 3)), (16, (.istore_n 3, 1)), (17, (.aload_n 2, 1)), (18, (.iconst 1, 1)), (19, (.putfield 277, 3)), (22, (.aload_n 0, 1)), (23, (.invokevirtual 230, 3)), (26, (.iload_n 3, 1)), (27, (.ifCond .ne 7, 3)), (34, (.iconst 0, 1)), (30, (.iconst 1, 1)), (31, (.goto 4, 3))]
theorem dt86_X11_come_ok : ∀ q ∈ dt86_X11_come, decode cX11_come q.1 = .ok q.2 := by decide +kernel
theorem dX11_come_35 : decode cX11_come 35 = .ok (.ireturn, 1) := g_dec dt86_X11_come_ok (k := 0) rfl
theorem dX11_come_0 : decode cX11_come 0 = .ok (.iload_n 1, 1) := g_dec dt86_X11_come_ok (k := 1) rfl
theorem dX11_come_1 : decode cX11_come 1 = .ok (.bipush 6, 2) := g_dec dt86_X11_come_ok (k := 2) rfl
theorem dX11_come_3 : decode cX11_come 3 = .ok (.invokestatic 106, 3) := g_dec dt86_X11_come_ok (k := 3) rfl
theorem dX11_come_6 : decode cX11_come 6 = .ok (.aload_n 0, 1) := g_dec dt86_X11_come_ok (k := 4) rfl
theorem dX11_come_7 : decode cX11_come 7 = .ok (.iload_n 1, 1) := g_dec dt86_X11_come_ok (k := 5) rfl
theorem dX11_come_8 : decode cX11_come 8 = .ok (.invokevirtual 273, 3) := g_dec dt86_X11_come_ok (k := 6) rfl
theorem dX11_come_11 : decode cX11_come 11 = .ok (.astore_n 2, 1) := g_dec dt86_X11_come_ok (k := 7) rfl
theorem dX11_come_12 : decode cX11_come 12 = .ok (.aload_n 2, 1) := g_dec dt86_X11_come_ok (k := 8) rfl
theorem dX11_come_13 : decode cX11_come 13 = .ok (.getfield 277, 3) := g_dec dt86_X11_come_ok (k := 9) rfl
theorem dX11_come_16 : decode cX11_come 16 = .ok (.istore_n 3, 1) := g_dec dt86_X11_come_ok (k := 10) rfl
theorem dX11_come_17 : decode cX11_come 17 = .ok (.aload_n 2, 1) := g_dec dt86_X11_come_ok (k := 11) rfl
theorem dX11_come_18 : decode cX11_come 18 = .ok (.iconst 1, 1) := g_dec dt86_X11_come_ok (k := 12) rfl
theorem dX11_come_19 : decode cX11_come 19 = .ok (.putfield 277, 3) := g_dec dt86_X11_come_ok (k := 13) rfl
theorem dX11_come_22 : decode cX11_come 22 = .ok (.aload_n 0, 1) := g_dec dt86_X11_come_ok (k := 14) rfl
theorem dX11_come_23 : decode cX11_come 23 = .ok (.invokevirtual 230, 3) := g_dec dt86_X11_come_ok (k := 15) rfl
theorem dX11_come_26 : decode cX11_come 26 = .ok (.iload_n 3, 1) := g_dec dt86_X11_come_ok (k := 16) rfl
theorem dX11_come_27 : decode cX11_come 27 = .ok (.ifCond .ne 7, 3) := g_dec dt86_X11_come_ok (k := 17) rfl
theorem dX11_come_34 : decode cX11_come 34 = .ok (.iconst 0, 1) := g_dec dt86_X11_come_ok (k := 18) rfl
theorem dX11_come_30 : decode cX11_come 30 = .ok (.iconst 1, 1) := g_dec dt86_X11_come_ok (k := 19) rfl
theorem dX11_come_31 : decode cX11_come 31 = .ok (.goto 4, 3) := g_dec dt86_X11_come_ok (k := 20) rfl
def dt87_X11_vanish : List (Nat × Instr × Nat) := [(25, (.istore_n 3, 1)), (26, (.aload_n 2, 1)), (27, (.invokevirtual 283, 3)), (30, (.aload_n 0, 1)), (31, (.invokevirtual 230, 3)), (34, (.iload_n 3, 1)), (35, (.ireturn, 1)), (0, (.iload_n 1, 1)), (1, (.bipush 6, 2)), (3, (.invokestatic 106, 3)), (6, (.aload_n 0, 1)), (7, (.iload_n 1, 1)), (8, (.invokevirtual 273, 3)), (11, (.astore_n 2, 1)), (12, (.aload_n 2, 1)), (13, (.getfield 280, 3)), (16, (.iconst (-1), 1)), (17, (.if_icmp .eq 7, 3)), (24, (.iconst 0, 1)), (20, (.iconst 1, 1)), (21, (.goto 4, 3))]
theorem dt87_X11_vanish_ok : ∀ q ∈ dt87_X11_vanish, decode cX11_vanish q.1 = .ok q.2 := by decide +kernel
theorem dX11_vanish_25 : decode cX11_vanish 25 = .ok (.istore_n 3, 1) := g_dec dt87_X11_vanish_ok (k := 0) rfl
theorem dX11_vanish_26 : decode cX11_vanish 26 = .ok (.aload_n 2, 1) := g_dec dt87_X11_vanish_ok (k := 1) rfl
theorem dX11_vanish_27 : decode cX11_vanish 27 = .ok (.invokevirtual 283, 3) := g_dec dt87_X11_vanish_ok (k := 2) rfl
theorem dX11_vanish_30 : decode cX11_vanish 30 = .ok (.aload_n 0, 1) := g_dec dt87_X11_vanish_ok (k := 3) rfl
theorem dX11_vanish_31 : decode cX11_vanish 31 = .ok (.invokevirtual 230, 3) := g_dec dt87_X11_vanish_ok (k := 4) rfl
theorem dX11_vanish_34 : decode cX11_vanish 34 = .ok (.iload_n 3, 1) := g_dec dt87_X11_vanish_ok (k := 5) rfl
theorem dX11_vanish_35 : decode cX11_vanish 35 = .ok (.ireturn, 1) := g_dec dt87_X11_vanish_ok (k := 6) rfl
theorem dX11_vanish_0 : decode cX11_vanish 0 = .ok (.iload_n 1, 1) := g_dec dt87_X11_vanish_ok (k := 7) rfl
theorem dX11_vanish_1 : decode cX11_vanish 1 = .ok (.bipush 6, 2) := g_dec dt87_X11_vanish_ok (k := 8) rfl
theorem dX11_vanish_3 : decode cX11_vanish 3 = .ok (.invokestatic 106, 3) := g_dec dt87_X11_vanish_ok (k := 9) rfl
theorem dX11_vanish_6 : decode cX11_vanish 6 = .ok (.aload_n 0, 1) := g_dec dt87_X11_vanish_ok (k := 10) rfl
theorem dX11_vanish_7 : decode cX11_vanish 7 = .ok (.iload_n 1, 1) := g_dec dt87_X11_vanish_ok (k := 11) rfl
theorem dX11_vanish_8 : decode cX11_vanish 8 = .ok (.invokevirtual 273, 3) := g_dec dt87_X11_vanish_ok (k := 12) rfl
theorem dX11_vanish_11 : decode cX11_vanish 11 = .ok (.astore_n 2, 1) := g_dec dt87_X11_vanish_ok (k := 13) rfl
theorem dX11_vanish_12 : decode cX11_vanish 12 = .ok (.aload_n 2, 1) := g_dec dt87_X11_vanish_ok (k := 14) rfl
theorem dX11_vanish_13 : decode cX11_vanish 13 = .ok (.getfield 280, 3) := g_dec dt87_X11_vanish_ok (k := 15) rfl
theorem dX11_vanish_16 : decode cX11_vanish 16 = .ok (.iconst (-1), 1) := g_dec dt87_X11_vanish_ok (k := 16) rfl
theorem dX11_vanish_17 : decode cX11_vanish 17 = .ok (.if_icmp .eq 7, 3) := g_dec dt87_X11_vanish_ok (k := 17) rfl
theorem dX11_vanish_24 : decode cX11_vanish 24 = .ok (.iconst 0, 1) := g_dec dt87_X11_vanish_ok (k := 18) rfl
theorem dX11_vanish_20 : decode cX11_vanish 20 = .ok (.iconst 1, 1) := g_dec dt87_X11_vanish_ok (k := 19) rfl
theorem dX11_vanish_21 : decode cX11_vanish 21 = .ok (.goto 4, 3) := g_dec dt87_X11_vanish_ok (k := 20) rfl
def dt88_X11_weigh : List (Nat × Instr × Nat) := [(0, (.iload_n 1, 1)), (1, (.iconst 3, 1)), (2, (.invokestatic 106, 3)), (5, (.iload_n 2, 1)), (6, (.iconst 1, 1)), (7, (.bipush 10, 2)), (9, (.invokestatic 133, 3)), (12, (.aload_n 0, 1)), (13, (.getfield 93, 3)), (16, (.iload_n 1, 1)), (17, (.invokevirtual 187, 3)), (20, (.istore_n 3, 1)), (21, (.aload_n 0, 1)), (22, (.getfield 93, 3)), (25, (.iload_n 1, 1)), (26, (.iload_n 2, 1)), (27, (.i2l, 1)), (28, (.invokevirtual 190, 3)), (31, (.aload_n 0, 1)), (32, (.invokevirtual 230, 3)), (35, (.iload_n 3, 1)), (36, (.ireturn, 1))]
theorem dt88_X11_weigh_ok : ∀ q ∈ dt88_X11_weigh, decode cX11_weigh q.1 = .ok q.2 := by decide +kernel
theorem dX11_weigh_0 : decode cX11_weigh 0 = .ok (.iload_n 1, 1) := g_dec dt88_X11_weigh_ok (k := 0) rfl
theorem dX11_weigh_1 : decode cX11_weigh 1 = .ok (.iconst 3, 1) := g_dec dt88_X11_weigh_ok (k := 1) rfl
theorem dX11_weigh_2 : decode cX11_weigh 2 = .ok (.invokestatic 106, 3) := g_dec dt88_X11_weigh_ok (k := 2) rfl
theorem dX11_weigh_5 : decode cX11_weigh 5 = .ok (.iload_n 2, 1) := g_dec dt88_X11_weigh_ok (k := 3) rfl
theorem dX11_weigh_6 : decode cX11_weigh 6 = .ok (.iconst 1, 1) := g_dec dt88_X11_weigh_ok (k := 4) rfl
theorem dX11_weigh_7 : decode cX11_weigh 7 = .ok (.bipush 10, 2) := g_dec dt88_X11_weigh_ok (k := 5) rfl
theorem dX11_weigh_9 : decode cX11_weigh 9 = .ok (.invokestatic 133, 3) := g_dec dt88_X11_weigh_ok (k := 6) rfl
theorem dX11_weigh_12 : decode cX11_weigh 12 = .ok (.aload_n 0, 1) := g_dec dt88_X11_weigh_ok (k := 7) rfl
theorem dX11_weigh_13 : decode cX11_weigh 13 = .ok (.getfield 93, 3) := g_dec dt88_X11_weigh_ok (k := 8) rfl
theorem dX11_weigh_16 : decode cX11_weigh 16 = .ok (.iload_n 1, 1) := g_dec dt88_X11_weigh_ok (k := 9) rfl
theorem dX11_weigh_17 : decode cX11_weigh 17 = .ok (.invokevirtual 187, 3) := g_dec dt88_X11_weigh_ok (k := 10) rfl
theorem dX11_weigh_20 : decode cX11_weigh 20 = .ok (.istore_n 3, 1) := g_dec dt88_X11_weigh_ok (k := 11) rfl
theorem dX11_weigh_21 : decode cX11_weigh 21 = .ok (.aload_n 0, 1) := g_dec dt88_X11_weigh_ok (k := 12) rfl
theorem dX11_weigh_22 : decode cX11_weigh 22 = .ok (.getfield 93, 3) := g_dec dt88_X11_weigh_ok (k := 13) rfl
theorem dX11_weigh_25 : decode cX11_weigh 25 = .ok (.iload_n 1, 1) := g_dec dt88_X11_weigh_ok (k := 14) rfl
theorem dX11_weigh_26 : decode cX11_weigh 26 = .ok (.iload_n 2, 1) := g_dec dt88_X11_weigh_ok (k := 15) rfl
theorem dX11_weigh_27 : decode cX11_weigh 27 = .ok (.i2l, 1) := g_dec dt88_X11_weigh_ok (k := 16) rfl
theorem dX11_weigh_28 : decode cX11_weigh 28 = .ok (.invokevirtual 190, 3) := g_dec dt88_X11_weigh_ok (k := 17) rfl
theorem dX11_weigh_31 : decode cX11_weigh 31 = .ok (.aload_n 0, 1) := g_dec dt88_X11_weigh_ok (k := 18) rfl
theorem dX11_weigh_32 : decode cX11_weigh 32 = .ok (.invokevirtual 230, 3) := g_dec dt88_X11_weigh_ok (k := 19) rfl
theorem dX11_weigh_35 : decode cX11_weigh 35 = .ok (.iload_n 3, 1) := g_dec dt88_X11_weigh_ok (k := 20) rfl
theorem dX11_weigh_36 : decode cX11_weigh 36 = .ok (.ireturn, 1) := g_dec dt88_X11_weigh_ok (k := 21) rfl
def dt89_X11_fullRun : List (Nat × Instr × Nat) := [(23, (.ireturn, 1)), (0, (.aload_n 0, 1)), (1, (.getfield 286, 3)), (4, (.istore_n 1, 1)), (5, (.aload_n 0, 1)), (6, (.iconst 1, 1)), (7, (.putfield 286, 3)), (10, (.aload_n 0, 1)), (11, (.invokevirtual 230, 3)), (14, (.iload_n 1, 1)), (15, (.ifCond .ne 7, 3)), (22, (.iconst 0, 1)), (18, (.iconst 1, 1)), (19, (.goto 4, 3))]
theorem dt89_X11_fullRun_ok : ∀ q ∈ dt89_X11_fullRun, decode cX11_fullRun q.1 = .ok q.2 := by decide +kernel
theorem dX11_fullRun_23 : decode cX11_fullRun 23 = .ok (.ireturn, 1) := g_dec dt89_X11_fullRun_ok (k := 0) rfl
theorem dX11_fullRun_0 : decode cX11_fullRun 0 = .ok (.aload_n 0, 1) := g_dec dt89_X11_fullRun_ok (k := 1) rfl
theorem dX11_fullRun_1 : decode cX11_fullRun 1 = .ok (.getfield 286, 3) := g_dec dt89_X11_fullRun_ok (k := 2) rfl
theorem dX11_fullRun_4 : decode cX11_fullRun 4 = .ok (.istore_n 1, 1) := g_dec dt89_X11_fullRun_ok (k := 3) rfl
theorem dX11_fullRun_5 : decode cX11_fullRun 5 = .ok (.aload_n 0, 1) := g_dec dt89_X11_fullRun_ok (k := 4) rfl
theorem dX11_fullRun_6 : decode cX11_fullRun 6 = .ok (.iconst 1, 1) := g_dec dt89_X11_fullRun_ok (k := 5) rfl
theorem dX11_fullRun_7 : decode cX11_fullRun 7 = .ok (.putfield 286, 3) := g_dec dt89_X11_fullRun_ok (k := 6) rfl
theorem dX11_fullRun_10 : decode cX11_fullRun 10 = .ok (.aload_n 0, 1) := g_dec dt89_X11_fullRun_ok (k := 7) rfl
theorem dX11_fullRun_11 : decode cX11_fullRun 11 = .ok (.invokevirtual 230, 3) := g_dec dt89_X11_fullRun_ok (k := 8) rfl
theorem dX11_fullRun_14 : decode cX11_fullRun 14 = .ok (.iload_n 1, 1) := g_dec dt89_X11_fullRun_ok (k := 9) rfl
theorem dX11_fullRun_15 : decode cX11_fullRun 15 = .ok (.ifCond .ne 7, 3) := g_dec dt89_X11_fullRun_ok (k := 10) rfl
theorem dX11_fullRun_22 : decode cX11_fullRun 22 = .ok (.iconst 0, 1) := g_dec dt89_X11_fullRun_ok (k := 11) rfl
theorem dX11_fullRun_18 : decode cX11_fullRun 18 = .ok (.iconst 1, 1) := g_dec dt89_X11_fullRun_ok (k := 12) rfl
theorem dX11_fullRun_19 : decode cX11_fullRun 19 = .ok (.goto 4, 3) := g_dec dt89_X11_fullRun_ok (k := 13) rfl
def dt90_X11_clock : List (Nat × Instr × Nat) := [(0, (.aload_n 0, 1)), (1, (.getfield 295, 3)), (4, (.ireturn, 1))]
theorem dt90_X11_clock_ok : ∀ q ∈ dt90_X11_clock, decode cX11_clock q.1 = .ok q.2 := by decide +kernel
theorem dX11_clock_0 : decode cX11_clock 0 = .ok (.aload_n 0, 1) := g_dec dt90_X11_clock_ok (k := 0) rfl
theorem dX11_clock_1 : decode cX11_clock 1 = .ok (.getfield 295, 3) := g_dec dt90_X11_clock_ok (k := 1) rfl
theorem dX11_clock_4 : decode cX11_clock 4 = .ok (.ireturn, 1) := g_dec dt90_X11_clock_ok (k := 2) rfl
def dt91_X11_changes : List (Nat × Instr × Nat) := [(0, (.aload_n 0, 1)), (1, (.getfield 10, 3)), (4, (.getfield 110, 3)), (7, (.ireturn, 1))]
theorem dt91_X11_changes_ok : ∀ q ∈ dt91_X11_changes, decode cX11_changes q.1 = .ok q.2 := by decide +kernel
theorem dX11_changes_0 : decode cX11_changes 0 = .ok (.aload_n 0, 1) := g_dec dt91_X11_changes_ok (k := 0) rfl
theorem dX11_changes_1 : decode cX11_changes 1 = .ok (.getfield 10, 3) := g_dec dt91_X11_changes_ok (k := 1) rfl
theorem dX11_changes_4 : decode cX11_changes 4 = .ok (.getfield 110, 3) := g_dec dt91_X11_changes_ok (k := 2) rfl
theorem dX11_changes_7 : decode cX11_changes 7 = .ok (.ireturn, 1) := g_dec dt91_X11_changes_ok (k := 3) rfl
def dt92_X11_state : List (Nat × Instr × Nat) := [(0, (.iload_n 1, 1)), (1, (.aload_n 0, 1)), (2, (.getfield 10, 3)), (5, (.getfield 110, 3)), (8, (.invokestatic 106, 3)), (11, (.aload_n 0, 1)), (12, (.getfield 10, 3)), (15, (.iload_n 1, 1)), (16, (.invokevirtual 113, 3)), (19, (.getfield 172, 3)), (22, (.ireturn, 1))]
theorem dt92_X11_state_ok : ∀ q ∈ dt92_X11_state, decode cX11_state q.1 = .ok q.2 := by decide +kernel
theorem dX11_state_0 : decode cX11_state 0 = .ok (.iload_n 1, 1) := g_dec dt92_X11_state_ok (k := 0) rfl
theorem dX11_state_1 : decode cX11_state 1 = .ok (.aload_n 0, 1) := g_dec dt92_X11_state_ok (k := 1) rfl
theorem dX11_state_2 : decode cX11_state 2 = .ok (.getfield 10, 3) := g_dec dt92_X11_state_ok (k := 2) rfl
theorem dX11_state_5 : decode cX11_state 5 = .ok (.getfield 110, 3) := g_dec dt92_X11_state_ok (k := 3) rfl
theorem dX11_state_8 : decode cX11_state 8 = .ok (.invokestatic 106, 3) := g_dec dt92_X11_state_ok (k := 4) rfl
theorem dX11_state_11 : decode cX11_state 11 = .ok (.aload_n 0, 1) := g_dec dt92_X11_state_ok (k := 5) rfl
theorem dX11_state_12 : decode cX11_state 12 = .ok (.getfield 10, 3) := g_dec dt92_X11_state_ok (k := 6) rfl
theorem dX11_state_15 : decode cX11_state 15 = .ok (.iload_n 1, 1) := g_dec dt92_X11_state_ok (k := 7) rfl
theorem dX11_state_16 : decode cX11_state 16 = .ok (.invokevirtual 113, 3) := g_dec dt92_X11_state_ok (k := 8) rfl
theorem dX11_state_19 : decode cX11_state 19 = .ok (.getfield 172, 3) := g_dec dt92_X11_state_ok (k := 9) rfl
theorem dX11_state_22 : decode cX11_state 22 = .ok (.ireturn, 1) := g_dec dt92_X11_state_ok (k := 10) rfl
def dt93_X11_requires : List (Nat × Instr × Nat) := [(0, (.iload_n 1, 1)), (1, (.aload_n 0, 1)), (2, (.getfield 10, 3)), (5, (.getfield 110, 3)), (8, (.invokestatic 106, 3)), (11, (.aload_n 0, 1)), (12, (.getfield 19, 3)), (15, (.aload_n 0, 1)), (16, (.getfield 10, 3)), (19, (.iload_n 1, 1)), (20, (.invokevirtual 113, 3)), (23, (.invokevirtual 298, 3)), (26, (.ireturn, 1))]
theorem dt93_X11_requires_ok : ∀ q ∈ dt93_X11_requires, decode cX11_requires q.1 = .ok q.2 := by decide +kernel
theorem dX11_requires_0 : decode cX11_requires 0 = .ok (.iload_n 1, 1) := g_dec dt93_X11_requires_ok (k := 0) rfl
theorem dX11_requires_1 : decode cX11_requires 1 = .ok (.aload_n 0, 1) := g_dec dt93_X11_requires_ok (k := 1) rfl
theorem dX11_requires_2 : decode cX11_requires 2 = .ok (.getfield 10, 3) := g_dec dt93_X11_requires_ok (k := 2) rfl
theorem dX11_requires_5 : decode cX11_requires 5 = .ok (.getfield 110, 3) := g_dec dt93_X11_requires_ok (k := 3) rfl
theorem dX11_requires_8 : decode cX11_requires 8 = .ok (.invokestatic 106, 3) := g_dec dt93_X11_requires_ok (k := 4) rfl
theorem dX11_requires_11 : decode cX11_requires 11 = .ok (.aload_n 0, 1) := g_dec dt93_X11_requires_ok (k := 5) rfl
theorem dX11_requires_12 : decode cX11_requires 12 = .ok (.getfield 19, 3) := g_dec dt93_X11_requires_ok (k := 6) rfl
theorem dX11_requires_15 : decode cX11_requires 15 = .ok (.aload_n 0, 1) := g_dec dt93_X11_requires_ok (k := 7) rfl
theorem dX11_requires_16 : decode cX11_requires 16 = .ok (.getfield 10, 3) := g_dec dt93_X11_requires_ok (k := 8) rfl
theorem dX11_requires_19 : decode cX11_requires 19 = .ok (.iload_n 1, 1) := g_dec dt93_X11_requires_ok (k := 9) rfl
theorem dX11_requires_20 : decode cX11_requires 20 = .ok (.invokevirtual 113, 3) := g_dec dt93_X11_requires_ok (k := 10) rfl
theorem dX11_requires_23 : decode cX11_requires 23 = .ok (.invokevirtual 298, 3) := g_dec dt93_X11_requires_ok (k := 11) rfl
theorem dX11_requires_26 : decode cX11_requires 26 = .ok (.ireturn, 1) := g_dec dt93_X11_requires_ok (k := 12) rfl
def dt94_X11_queued : List (Nat × Instr × Nat) := [(0, (.aload_n 0, 1)), (1, (.invokevirtual 204, 3)), (4, (.aload_n 0, 1)), (5, (.getfield 33, 3)), (8, (.getfield 207, 3)), (11, (.getfield 217, 3)), (14, (.ireturn, 1))]
theorem dt94_X11_queued_ok : ∀ q ∈ dt94_X11_queued, decode cX11_queued q.1 = .ok q.2 := by decide +kernel
theorem dX11_queued_0 : decode cX11_queued 0 = .ok (.aload_n 0, 1) := g_dec dt94_X11_queued_ok (k := 0) rfl
theorem dX11_queued_1 : decode cX11_queued 1 = .ok (.invokevirtual 204, 3) := g_dec dt94_X11_queued_ok (k := 1) rfl
theorem dX11_queued_4 : decode cX11_queued 4 = .ok (.aload_n 0, 1) := g_dec dt94_X11_queued_ok (k := 2) rfl
theorem dX11_queued_5 : decode cX11_queued 5 = .ok (.getfield 33, 3) := g_dec dt94_X11_queued_ok (k := 3) rfl
theorem dX11_queued_8 : decode cX11_queued 8 = .ok (.getfield 207, 3) := g_dec dt94_X11_queued_ok (k := 4) rfl
theorem dX11_queued_11 : decode cX11_queued 11 = .ok (.getfield 217, 3) := g_dec dt94_X11_queued_ok (k := 5) rfl
theorem dX11_queued_14 : decode cX11_queued 14 = .ok (.ireturn, 1) := g_dec dt94_X11_queued_ok (k := 6) rfl
def dt95_X11_queuedAt : List (Nat × Instr × Nat) := [(0, (.aload_n 0, 1)), (1, (.invokevirtual 204, 3)), (4, (.iload_n 1, 1)), (5, (.aload_n 0, 1)), (6, (.getfield 33, 3)), (9, (.getfield 207, 3)), (12, (.getfield 217, 3)), (15, (.invokestatic 106, 3)), (18, (.aload_n 0, 1)), (19, (.getfield 33, 3)), (22, (.getfield 207, 3)), (25, (.iload_n 1, 1)), (26, (.invokevirtual 187, 3)), (29, (.ireturn, 1))]
theorem dt95_X11_queuedAt_ok : ∀ q ∈ dt95_X11_queuedAt, decode cX11_queuedAt q.1 = .ok q.2 := by decide +kernel
theorem dX11_queuedAt_0 : decode cX11_queuedAt 0 = .ok (.aload_n 0, 1) := g_dec dt95_X11_queuedAt_ok (k := 0) rfl
theorem dX11_queuedAt_1 : decode cX11_queuedAt 1 = .ok (.invokevirtual 204, 3) := g_dec dt95_X11_queuedAt_ok (k := 1) rfl
theorem dX11_queuedAt_4 : decode cX11_queuedAt 4 = .ok (.iload_n 1, 1) := g_dec dt95_X11_queuedAt_ok (k := 2) rfl
theorem dX11_queuedAt_5 : decode cX11_queuedAt 5 = .ok (.aload_n 0, 1) := g_dec dt95_X11_queuedAt_ok (k := 3) rfl
theorem dX11_queuedAt_6 : decode cX11_queuedAt 6 = .ok (.getfield 33, 3) := g_dec dt95_X11_queuedAt_ok (k := 4) rfl
theorem dX11_queuedAt_9 : decode cX11_queuedAt 9 = .ok (.getfield 207, 3) := g_dec dt95_X11_queuedAt_ok (k := 5) rfl
theorem dX11_queuedAt_12 : decode cX11_queuedAt 12 = .ok (.getfield 217, 3) := g_dec dt95_X11_queuedAt_ok (k := 6) rfl
theorem dX11_queuedAt_15 : decode cX11_queuedAt 15 = .ok (.invokestatic 106, 3) := g_dec dt95_X11_queuedAt_ok (k := 7) rfl
theorem dX11_queuedAt_18 : decode cX11_queuedAt 18 = .ok (.aload_n 0, 1) := g_dec dt95_X11_queuedAt_ok (k := 8) rfl
theorem dX11_queuedAt_19 : decode cX11_queuedAt 19 = .ok (.getfield 33, 3) := g_dec dt95_X11_queuedAt_ok (k := 9) rfl
theorem dX11_queuedAt_22 : decode cX11_queuedAt 22 = .ok (.getfield 207, 3) := g_dec dt95_X11_queuedAt_ok (k := 10) rfl
theorem dX11_queuedAt_25 : decode cX11_queuedAt 25 = .ok (.iload_n 1, 1) := g_dec dt95_X11_queuedAt_ok (k := 11) rfl
theorem dX11_queuedAt_26 : decode cX11_queuedAt 26 = .ok (.invokevirtual 187, 3) := g_dec dt95_X11_queuedAt_ok (k := 12) rfl
theorem dX11_queuedAt_29 : decode cX11_queuedAt 29 = .ok (.ireturn, 1) := g_dec dt95_X11_queuedAt_ok (k := 13) rfl
def dt96_X11_batchOf : List (Nat × Instr × Nat) := [(0, (.iload_n 1, 1)), (1, (.aload_n 0, 1)), (2, (.getfield 10, 3)), (5, (.getfield 110, 3)), (8, (.invokestatic 106, 3)), (11, (.aload_n 0, 1)), (12, (.invokevirtual 204, 3)), (15, (.aload_n 0, 1)), (16, (.getfield 33, 3)), (19, (.iload_n 1, 1)), (20, (.invokevirtual 302, 3)), (23, (.ireturn, 1))]
theorem dt96_X11_batchOf_ok : ∀ q ∈ dt96_X11_batchOf, decode cX11_batchOf q.1 = .ok q.2 := by decide +kernel
theorem dX11_batchOf_0 : decode cX11_batchOf 0 = .ok (.iload_n 1, 1) := g_dec dt96_X11_batchOf_ok (k := 0) rfl
theorem dX11_batchOf_1 : decode cX11_batchOf 1 = .ok (.aload_n 0, 1) := g_dec dt96_X11_batchOf_ok (k := 1) rfl
theorem dX11_batchOf_2 : decode cX11_batchOf 2 = .ok (.getfield 10, 3) := g_dec dt96_X11_batchOf_ok (k := 2) rfl
theorem dX11_batchOf_5 : decode cX11_batchOf 5 = .ok (.getfield 110, 3) := g_dec dt96_X11_batchOf_ok (k := 3) rfl
theorem dX11_batchOf_8 : decode cX11_batchOf 8 = .ok (.invokestatic 106, 3) := g_dec dt96_X11_batchOf_ok (k := 4) rfl
theorem dX11_batchOf_11 : decode cX11_batchOf 11 = .ok (.aload_n 0, 1) := g_dec dt96_X11_batchOf_ok (k := 5) rfl
theorem dX11_batchOf_12 : decode cX11_batchOf 12 = .ok (.invokevirtual 204, 3) := g_dec dt96_X11_batchOf_ok (k := 6) rfl
theorem dX11_batchOf_15 : decode cX11_batchOf 15 = .ok (.aload_n 0, 1) := g_dec dt96_X11_batchOf_ok (k := 7) rfl
theorem dX11_batchOf_16 : decode cX11_batchOf 16 = .ok (.getfield 33, 3) := g_dec dt96_X11_batchOf_ok (k := 8) rfl
theorem dX11_batchOf_19 : decode cX11_batchOf 19 = .ok (.iload_n 1, 1) := g_dec dt96_X11_batchOf_ok (k := 9) rfl
theorem dX11_batchOf_20 : decode cX11_batchOf 20 = .ok (.invokevirtual 302, 3) := g_dec dt96_X11_batchOf_ok (k := 10) rfl
theorem dX11_batchOf_23 : decode cX11_batchOf 23 = .ok (.ireturn, 1) := g_dec dt96_X11_batchOf_ok (k := 11) rfl
def dt97_X11_verdictOfBeginning : List (Nat × Instr × Nat) := [(86, (.iinc 6 1, 3)), (89, (.goto (-59), 3)), (30, (.iload 6, 2)), (32, (.aload_n 0, 1)), (33, (.getfield 19, 3)), (36, (.getfield 229, 3)), (39, (.if_icmp .ge 53, 3)), (92, (.iload 5, 2)), (94, (.ireturn, 1)), (42, (.iload_n 2, 1)), (43, (.iload 6, 2)), (45, (.invokestatic 175, 3)), (48, (.ifCond .eq 38, 3)), (51, (.aload_n 0, 1)), (52, (.getfield 26, 3)), (55, (.aload_n 0, 1)), (56, (.getfield 19, 3)), (59, (.iload 6, 2)), (61, (.invokevirtual 237, 3)), (64, (.lload_n 3, 1)), (65, (.invokevirtual 338, 3)), (68, (.istore 7, 2)), (70, (.iload 7, 2)), (72, (.iconst 2, 1)), (73, (.if_icmp .ne 5, 3)), (78, (.iload 7, 2)), (80, (.ifCond .ne 6, 3)), (83, (.iconst 0, 1)), (84, (.istore 5, 2)), (76, (.iconst 2, 1)), (77, (.ireturn, 1)), (0, (.aload_n 0, 1)), (1, (.getfield 40, 3)), (4, (.getfield 454, 3)), (7, (.iload_n 1, 1)), (8, (.invokevirtual 187, 3)), (11, (.istore_n 2, 1)), (12, (.aload_n 0, 1)), (13, (.getfield 40, 3)), (16, (.getfield 456, 3)), (19, (.iload_n 1, 1)), (20, (.invokevirtual 218, 3)), (23, (.lstore_n 3, 1)), (24, (.iconst 1, 1)), (25, (.istore 5, 2)), (27, (.iconst 0, 1)), (28, (.istore 6, 2))]
theorem dt97_X11_verdictOfBeginning_ok : ∀ q ∈ dt97_X11_verdictOfBeginning, decode cX11_verdictOfBeginning q.1 = .ok q.2 := by decide +kernel
theorem dX11_verdictOfBeginning_86 : decode cX11_verdictOfBeginning 86 = .ok (.iinc 6 1, 3) := g_dec dt97_X11_verdictOfBeginning_ok (k := 0) rfl
theorem dX11_verdictOfBeginning_89 : decode cX11_verdictOfBeginning 89 = .ok (.goto (-59), 3) := g_dec dt97_X11_verdictOfBeginning_ok (k := 1) rfl
theorem dX11_verdictOfBeginning_30 : decode cX11_verdictOfBeginning 30 = .ok (.iload 6, 2) := g_dec dt97_X11_verdictOfBeginning_ok (k := 2) rfl
theorem dX11_verdictOfBeginning_32 : decode cX11_verdictOfBeginning 32 = .ok (.aload_n 0, 1) := g_dec dt97_X11_verdictOfBeginning_ok (k := 3) rfl
theorem dX11_verdictOfBeginning_33 : decode cX11_verdictOfBeginning 33 = .ok (.getfield 19, 3) := g_dec dt97_X11_verdictOfBeginning_ok (k := 4) rfl
theorem dX11_verdictOfBeginning_36 : decode cX11_verdictOfBeginning 36 = .ok (.getfield 229, 3) := g_dec dt97_X11_verdictOfBeginning_ok (k := 5) rfl
theorem dX11_verdictOfBeginning_39 : decode cX11_verdictOfBeginning 39 = .ok (.if_icmp .ge 53, 3) := g_dec dt97_X11_verdictOfBeginning_ok (k := 6) rfl
theorem dX11_verdictOfBeginning_92 : decode cX11_verdictOfBeginning 92 = .ok (.iload 5, 2) := g_dec dt97_X11_verdictOfBeginning_ok (k := 7) rfl
theorem dX11_verdictOfBeginning_94 : decode cX11_verdictOfBeginning 94 = .ok (.ireturn, 1) := g_dec dt97_X11_verdictOfBeginning_ok (k := 8) rfl
theorem dX11_verdictOfBeginning_42 : decode cX11_verdictOfBeginning 42 = .ok (.iload_n 2, 1) := g_dec dt97_X11_verdictOfBeginning_ok (k := 9) rfl
theorem dX11_verdictOfBeginning_43 : decode cX11_verdictOfBeginning 43 = .ok (.iload 6, 2) := g_dec dt97_X11_verdictOfBeginning_ok (k := 10) rfl
theorem dX11_verdictOfBeginning_45 : decode cX11_verdictOfBeginning 45 = .ok (.invokestatic 175, 3) := g_dec dt97_X11_verdictOfBeginning_ok (k := 11) rfl
theorem dX11_verdictOfBeginning_48 : decode cX11_verdictOfBeginning 48 = .ok (.ifCond .eq 38, 3) := g_dec dt97_X11_verdictOfBeginning_ok (k := 12) rfl
theorem dX11_verdictOfBeginning_51 : decode cX11_verdictOfBeginning 51 = .ok (.aload_n 0, 1) := g_dec dt97_X11_verdictOfBeginning_ok (k := 13) rfl
theorem dX11_verdictOfBeginning_52 : decode cX11_verdictOfBeginning 52 = .ok (.getfield 26, 3) := g_dec dt97_X11_verdictOfBeginning_ok (k := 14) rfl
theorem dX11_verdictOfBeginning_55 : decode cX11_verdictOfBeginning 55 = .ok (.aload_n 0, 1) := g_dec dt97_X11_verdictOfBeginning_ok (k := 15) rfl
theorem dX11_verdictOfBeginning_56 : decode cX11_verdictOfBeginning 56 = .ok (.getfield 19, 3) := g_dec dt97_X11_verdictOfBeginning_ok (k := 16) rfl
theorem dX11_verdictOfBeginning_59 : decode cX11_verdictOfBeginning 59 = .ok (.iload 6, 2) := g_dec dt97_X11_verdictOfBeginning_ok (k := 17) rfl
theorem dX11_verdictOfBeginning_61 : decode cX11_verdictOfBeginning 61 = .ok (.invokevirtual 237, 3) := g_dec dt97_X11_verdictOfBeginning_ok (k := 18) rfl
theorem dX11_verdictOfBeginning_64 : decode cX11_verdictOfBeginning 64 = .ok (.lload_n 3, 1) := g_dec dt97_X11_verdictOfBeginning_ok (k := 19) rfl
theorem dX11_verdictOfBeginning_65 : decode cX11_verdictOfBeginning 65 = .ok (.invokevirtual 338, 3) := g_dec dt97_X11_verdictOfBeginning_ok (k := 20) rfl
theorem dX11_verdictOfBeginning_68 : decode cX11_verdictOfBeginning 68 = .ok (.istore 7, 2) := g_dec dt97_X11_verdictOfBeginning_ok (k := 21) rfl
theorem dX11_verdictOfBeginning_70 : decode cX11_verdictOfBeginning 70 = .ok (.iload 7, 2) := g_dec dt97_X11_verdictOfBeginning_ok (k := 22) rfl
theorem dX11_verdictOfBeginning_72 : decode cX11_verdictOfBeginning 72 = .ok (.iconst 2, 1) := g_dec dt97_X11_verdictOfBeginning_ok (k := 23) rfl
theorem dX11_verdictOfBeginning_73 : decode cX11_verdictOfBeginning 73 = .ok (.if_icmp .ne 5, 3) := g_dec dt97_X11_verdictOfBeginning_ok (k := 24) rfl
theorem dX11_verdictOfBeginning_78 : decode cX11_verdictOfBeginning 78 = .ok (.iload 7, 2) := g_dec dt97_X11_verdictOfBeginning_ok (k := 25) rfl
theorem dX11_verdictOfBeginning_80 : decode cX11_verdictOfBeginning 80 = .ok (.ifCond .ne 6, 3) := g_dec dt97_X11_verdictOfBeginning_ok (k := 26) rfl
theorem dX11_verdictOfBeginning_83 : decode cX11_verdictOfBeginning 83 = .ok (.iconst 0, 1) := g_dec dt97_X11_verdictOfBeginning_ok (k := 27) rfl
theorem dX11_verdictOfBeginning_84 : decode cX11_verdictOfBeginning 84 = .ok (.istore 5, 2) := g_dec dt97_X11_verdictOfBeginning_ok (k := 28) rfl
theorem dX11_verdictOfBeginning_76 : decode cX11_verdictOfBeginning 76 = .ok (.iconst 2, 1) := g_dec dt97_X11_verdictOfBeginning_ok (k := 29) rfl
theorem dX11_verdictOfBeginning_77 : decode cX11_verdictOfBeginning 77 = .ok (.ireturn, 1) := g_dec dt97_X11_verdictOfBeginning_ok (k := 30) rfl
theorem dX11_verdictOfBeginning_0 : decode cX11_verdictOfBeginning 0 = .ok (.aload_n 0, 1) := g_dec dt97_X11_verdictOfBeginning_ok (k := 31) rfl
theorem dX11_verdictOfBeginning_1 : decode cX11_verdictOfBeginning 1 = .ok (.getfield 40, 3) := g_dec dt97_X11_verdictOfBeginning_ok (k := 32) rfl
theorem dX11_verdictOfBeginning_4 : decode cX11_verdictOfBeginning 4 = .ok (.getfield 454, 3) := g_dec dt97_X11_verdictOfBeginning_ok (k := 33) rfl
theorem dX11_verdictOfBeginning_7 : decode cX11_verdictOfBeginning 7 = .ok (.iload_n 1, 1) := g_dec dt97_X11_verdictOfBeginning_ok (k := 34) rfl
theorem dX11_verdictOfBeginning_8 : decode cX11_verdictOfBeginning 8 = .ok (.invokevirtual 187, 3) := g_dec dt97_X11_verdictOfBeginning_ok (k := 35) rfl
theorem dX11_verdictOfBeginning_11 : decode cX11_verdictOfBeginning 11 = .ok (.istore_n 2, 1) := g_dec dt97_X11_verdictOfBeginning_ok (k := 36) rfl
theorem dX11_verdictOfBeginning_12 : decode cX11_verdictOfBeginning 12 = .ok (.aload_n 0, 1) := g_dec dt97_X11_verdictOfBeginning_ok (k := 37) rfl
theorem dX11_verdictOfBeginning_13 : decode cX11_verdictOfBeginning 13 = .ok (.getfield 40, 3) := g_dec dt97_X11_verdictOfBeginning_ok (k := 38) rfl
theorem dX11_verdictOfBeginning_16 : decode cX11_verdictOfBeginning 16 = .ok (.getfield 456, 3) := g_dec dt97_X11_verdictOfBeginning_ok (k := 39) rfl
theorem dX11_verdictOfBeginning_19 : decode cX11_verdictOfBeginning 19 = .ok (.iload_n 1, 1) := g_dec dt97_X11_verdictOfBeginning_ok (k := 40) rfl
theorem dX11_verdictOfBeginning_20 : decode cX11_verdictOfBeginning 20 = .ok (.invokevirtual 218, 3) := g_dec dt97_X11_verdictOfBeginning_ok (k := 41) rfl
theorem dX11_verdictOfBeginning_23 : decode cX11_verdictOfBeginning 23 = .ok (.lstore_n 3, 1) := g_dec dt97_X11_verdictOfBeginning_ok (k := 42) rfl
theorem dX11_verdictOfBeginning_24 : decode cX11_verdictOfBeginning 24 = .ok (.iconst 1, 1) := g_dec dt97_X11_verdictOfBeginning_ok (k := 43) rfl
theorem dX11_verdictOfBeginning_25 : decode cX11_verdictOfBeginning 25 = .ok (.istore 5, 2) := g_dec dt97_X11_verdictOfBeginning_ok (k := 44) rfl
theorem dX11_verdictOfBeginning_27 : decode cX11_verdictOfBeginning 27 = .ok (.iconst 0, 1) := g_dec dt97_X11_verdictOfBeginning_ok (k := 45) rfl
theorem dX11_verdictOfBeginning_28 : decode cX11_verdictOfBeginning 28 = .ok (.istore 6, 2) := g_dec dt97_X11_verdictOfBeginning_ok (k := 46) rfl
def dt98_X11_lookAtFirstBatch : List (Nat × Instr × Nat) := [(185, (.return_, 1)), (179, (.iinc 1 1, 3)), (182, (.goto (-79), 3)), (103, (.iload_n 1, 1)), (104, (.bipush 8, 2)), (106, (.if_icmp .ge 79, 3)), (109, (.aload_n 0, 1)), (110, (.getfield 40, 3)), (113, (.getfield 425, 3)), (116, (.aload_n 0, 1)), (117, (.getfield 40, 3)), (120, (.getfield 445, 3)), (123, (.isub, 1)), (124, (.iconst 1, 1)), (125, (.if_icmp .le 60, 3)), (128, (.aload_n 0, 1)), (129, (.getfield 40, 3)), (132, (.invokevirtual 448, 3)), (135, (.istore_n 2, 1)), (136, (.aload_n 0, 1)), (137, (.iload_n 2, 1)), (138, (.invokevirtual 442, 3)), (141, (.istore_n 3, 1)), (142, (.iload_n 3, 1)), (143, (.ifCond .ne 12, 3)), (155, (.iload_n 3, 1)), (156, (.iconst 1, 1)), (157, (.if_icmp .ne 14, 3)), (171, (.aload_n 0, 1)), (172, (.getfield 40, 3)), (175, (.iload_n 2, 1)), (176, (.putfield 425, 3)), (160, (.aload_n 0, 1)), (161, (.getfield 40, 3)), (164, (.iload_n 2, 1)), (165, (.putfield 445, 3)), (168, (.goto 11, 3)), (146, (.aload_n 0, 1)), (147, (.getfield 40, 3)), (150, (.iload_n 2, 1)), (151, (.putfield 451, 3)), (154, (.return_, 1)), (13, (.iload_n 1, 1)), (14, (.aload_n 0, 1)), (15, (.getfield 33, 3)), (18, (.iconst 0, 1)), (19, (.invokevirtual 431, 3)), (22, (.if_icmp .ge 49, 3)), (71, (.aload_n 0, 1)), (72, (.getfield 40, 3)), (75, (.aload_n 0, 1)), (76, (.aload_n 0, 1)), (77, (.getfield 40, 3)), (80, (.getfield 425, 3)), (83, (.invokevirtual 442, 3)), (86, (.putfield 416, 3)), (89, (.aload_n 0, 1)), (90, (.getfield 40, 3)), (93, (.getfield 416, 3)), (96, (.iconst 2, 1))]
theorem dt98_X11_lookAtFirstBatch_ok : ∀ q ∈ dt98_X11_lookAtFirstBatch, decode cX11_lookAtFirstBatch q.1 = .ok q.2 := by decide +kernel
theorem dX11_lookAtFirstBatch_185 : decode cX11_lookAtFirstBatch 185 = .ok (.return_, 1) := g_dec dt98_X11_lookAtFirstBatch_ok (k := 0) rfl
theorem dX11_lookAtFirstBatch_179 : decode cX11_lookAtFirstBatch 179 = .ok (.iinc 1 1, 3) := g_dec dt98_X11_lookAtFirstBatch_ok (k := 1) rfl
theorem dX11_lookAtFirstBatch_182 : decode cX11_lookAtFirstBatch 182 = .ok (.goto (-79), 3) := g_dec dt98_X11_lookAtFirstBatch_ok (k := 2) rfl
theorem dX11_lookAtFirstBatch_103 : decode cX11_lookAtFirstBatch 103 = .ok (.iload_n 1, 1) := g_dec dt98_X11_lookAtFirstBatch_ok (k := 3) rfl
theorem dX11_lookAtFirstBatch_104 : decode cX11_lookAtFirstBatch 104 = .ok (.bipush 8, 2) := g_dec dt98_X11_lookAtFirstBatch_ok (k := 4) rfl
theorem dX11_lookAtFirstBatch_106 : decode cX11_lookAtFirstBatch 106 = .ok (.if_icmp .ge 79, 3) := g_dec dt98_X11_lookAtFirstBatch_ok (k := 5) rfl
theorem dX11_lookAtFirstBatch_109 : decode cX11_lookAtFirstBatch 109 = .ok (.aload_n 0, 1) := g_dec dt98_X11_lookAtFirstBatch_ok (k := 6) rfl
theorem dX11_lookAtFirstBatch_110 : decode cX11_lookAtFirstBatch 110 = .ok (.getfield 40, 3) := g_dec dt98_X11_lookAtFirstBatch_ok (k := 7) rfl
theorem dX11_lookAtFirstBatch_113 : decode cX11_lookAtFirstBatch 113 = .ok (.getfield 425, 3) := g_dec dt98_X11_lookAtFirstBatch_ok (k := 8) rfl
theorem dX11_lookAtFirstBatch_116 : decode cX11_lookAtFirstBatch 116 = .ok (.aload_n 0, 1) := g_dec dt98_X11_lookAtFirstBatch_ok (k := 9) rfl
theorem dX11_lookAtFirstBatch_117 : decode cX11_lookAtFirstBatch 117 = .ok (.getfield 40, 3) := g_dec dt98_X11_lookAtFirstBatch_ok (k := 10) rfl
theorem dX11_lookAtFirstBatch_120 : decode cX11_lookAtFirstBatch 120 = .ok (.getfield 445, 3) := g_dec dt98_X11_lookAtFirstBatch_ok (k := 11) rfl
theorem dX11_lookAtFirstBatch_123 : decode cX11_lookAtFirstBatch 123 = .ok (.isub, 1) := g_dec dt98_X11_lookAtFirstBatch_ok (k := 12) rfl
theorem dX11_lookAtFirstBatch_124 : decode cX11_lookAtFirstBatch 124 = .ok (.iconst 1, 1) := g_dec dt98_X11_lookAtFirstBatch_ok (k := 13) rfl
theorem dX11_lookAtFirstBatch_125 : decode cX11_lookAtFirstBatch 125 = .ok (.if_icmp .le 60, 3) := g_dec dt98_X11_lookAtFirstBatch_ok (k := 14) rfl
theorem dX11_lookAtFirstBatch_128 : decode cX11_lookAtFirstBatch 128 = .ok (.aload_n 0, 1) := g_dec dt98_X11_lookAtFirstBatch_ok (k := 15) rfl
theorem dX11_lookAtFirstBatch_129 : decode cX11_lookAtFirstBatch 129 = .ok (.getfield 40, 3) := g_dec dt98_X11_lookAtFirstBatch_ok (k := 16) rfl
theorem dX11_lookAtFirstBatch_132 : decode cX11_lookAtFirstBatch 132 = .ok (.invokevirtual 448, 3) := g_dec dt98_X11_lookAtFirstBatch_ok (k := 17) rfl
theorem dX11_lookAtFirstBatch_135 : decode cX11_lookAtFirstBatch 135 = .ok (.istore_n 2, 1) := g_dec dt98_X11_lookAtFirstBatch_ok (k := 18) rfl
theorem dX11_lookAtFirstBatch_136 : decode cX11_lookAtFirstBatch 136 = .ok (.aload_n 0, 1) := g_dec dt98_X11_lookAtFirstBatch_ok (k := 19) rfl
theorem dX11_lookAtFirstBatch_137 : decode cX11_lookAtFirstBatch 137 = .ok (.iload_n 2, 1) := g_dec dt98_X11_lookAtFirstBatch_ok (k := 20) rfl
theorem dX11_lookAtFirstBatch_138 : decode cX11_lookAtFirstBatch 138 = .ok (.invokevirtual 442, 3) := g_dec dt98_X11_lookAtFirstBatch_ok (k := 21) rfl
theorem dX11_lookAtFirstBatch_141 : decode cX11_lookAtFirstBatch 141 = .ok (.istore_n 3, 1) := g_dec dt98_X11_lookAtFirstBatch_ok (k := 22) rfl
theorem dX11_lookAtFirstBatch_142 : decode cX11_lookAtFirstBatch 142 = .ok (.iload_n 3, 1) := g_dec dt98_X11_lookAtFirstBatch_ok (k := 23) rfl
theorem dX11_lookAtFirstBatch_143 : decode cX11_lookAtFirstBatch 143 = .ok (.ifCond .ne 12, 3) := g_dec dt98_X11_lookAtFirstBatch_ok (k := 24) rfl
theorem dX11_lookAtFirstBatch_155 : decode cX11_lookAtFirstBatch 155 = .ok (.iload_n 3, 1) := g_dec dt98_X11_lookAtFirstBatch_ok (k := 25) rfl
theorem dX11_lookAtFirstBatch_156 : decode cX11_lookAtFirstBatch 156 = .ok (.iconst 1, 1) := g_dec dt98_X11_lookAtFirstBatch_ok (k := 26) rfl
theorem dX11_lookAtFirstBatch_157 : decode cX11_lookAtFirstBatch 157 = .ok (.if_icmp .ne 14, 3) := g_dec dt98_X11_lookAtFirstBatch_ok (k := 27) rfl
theorem dX11_lookAtFirstBatch_171 : decode cX11_lookAtFirstBatch 171 = .ok (.aload_n 0, 1) := g_dec dt98_X11_lookAtFirstBatch_ok (k := 28) rfl
theorem dX11_lookAtFirstBatch_172 : decode cX11_lookAtFirstBatch 172 = .ok (.getfield 40, 3) := g_dec dt98_X11_lookAtFirstBatch_ok (k := 29) rfl
theorem dX11_lookAtFirstBatch_175 : decode cX11_lookAtFirstBatch 175 = .ok (.iload_n 2, 1) := g_dec dt98_X11_lookAtFirstBatch_ok (k := 30) rfl
theorem dX11_lookAtFirstBatch_176 : decode cX11_lookAtFirstBatch 176 = .ok (.putfield 425, 3) := g_dec dt98_X11_lookAtFirstBatch_ok (k := 31) rfl
theorem dX11_lookAtFirstBatch_160 : decode cX11_lookAtFirstBatch 160 = .ok (.aload_n 0, 1) := g_dec dt98_X11_lookAtFirstBatch_ok (k := 32) rfl
theorem dX11_lookAtFirstBatch_161 : decode cX11_lookAtFirstBatch 161 = .ok (.getfield 40, 3) := g_dec dt98_X11_lookAtFirstBatch_ok (k := 33) rfl
theorem dX11_lookAtFirstBatch_164 : decode cX11_lookAtFirstBatch 164 = .ok (.iload_n 2, 1) := g_dec dt98_X11_lookAtFirstBatch_ok (k := 34) rfl
theorem dX11_lookAtFirstBatch_165 : decode cX11_lookAtFirstBatch 165 = .ok (.putfield 445, 3) := g_dec dt98_X11_lookAtFirstBatch_ok (k := 35) rfl
theorem dX11_lookAtFirstBatch_168 : decode cX11_lookAtFirstBatch 168 = .ok (.goto 11, 3) := g_dec dt98_X11_lookAtFirstBatch_ok (k := 36) rfl
theorem dX11_lookAtFirstBatch_146 : decode cX11_lookAtFirstBatch 146 = .ok (.aload_n 0, 1) := g_dec dt98_X11_lookAtFirstBatch_ok (k := 37) rfl
theorem dX11_lookAtFirstBatch_147 : decode cX11_lookAtFirstBatch 147 = .ok (.getfield 40, 3) := g_dec dt98_X11_lookAtFirstBatch_ok (k := 38) rfl
theorem dX11_lookAtFirstBatch_150 : decode cX11_lookAtFirstBatch 150 = .ok (.iload_n 2, 1) := g_dec dt98_X11_lookAtFirstBatch_ok (k := 39) rfl
theorem dX11_lookAtFirstBatch_151 : decode cX11_lookAtFirstBatch 151 = .ok (.putfield 451, 3) := g_dec dt98_X11_lookAtFirstBatch_ok (k := 40) rfl
theorem dX11_lookAtFirstBatch_154 : decode cX11_lookAtFirstBatch 154 = .ok (.return_, 1) := g_dec dt98_X11_lookAtFirstBatch_ok (k := 41) rfl
theorem dX11_lookAtFirstBatch_13 : decode cX11_lookAtFirstBatch 13 = .ok (.iload_n 1, 1) := g_dec dt98_X11_lookAtFirstBatch_ok (k := 42) rfl
theorem dX11_lookAtFirstBatch_14 : decode cX11_lookAtFirstBatch 14 = .ok (.aload_n 0, 1) := g_dec dt98_X11_lookAtFirstBatch_ok (k := 43) rfl
theorem dX11_lookAtFirstBatch_15 : decode cX11_lookAtFirstBatch 15 = .ok (.getfield 33, 3) := g_dec dt98_X11_lookAtFirstBatch_ok (k := 44) rfl
theorem dX11_lookAtFirstBatch_18 : decode cX11_lookAtFirstBatch 18 = .ok (.iconst 0, 1) := g_dec dt98_X11_lookAtFirstBatch_ok (k := 45) rfl
theorem dX11_lookAtFirstBatch_19 : decode cX11_lookAtFirstBatch 19 = .ok (.invokevirtual 431, 3) := g_dec dt98_X11_lookAtFirstBatch_ok (k := 46) rfl
theorem dX11_lookAtFirstBatch_22 : decode cX11_lookAtFirstBatch 22 = .ok (.if_icmp .ge 49, 3) := g_dec dt98_X11_lookAtFirstBatch_ok (k := 47) rfl
theorem dX11_lookAtFirstBatch_71 : decode cX11_lookAtFirstBatch 71 = .ok (.aload_n 0, 1) := g_dec dt98_X11_lookAtFirstBatch_ok (k := 48) rfl
theorem dX11_lookAtFirstBatch_72 : decode cX11_lookAtFirstBatch 72 = .ok (.getfield 40, 3) := g_dec dt98_X11_lookAtFirstBatch_ok (k := 49) rfl
theorem dX11_lookAtFirstBatch_75 : decode cX11_lookAtFirstBatch 75 = .ok (.aload_n 0, 1) := g_dec dt98_X11_lookAtFirstBatch_ok (k := 50) rfl
theorem dX11_lookAtFirstBatch_76 : decode cX11_lookAtFirstBatch 76 = .ok (.aload_n 0, 1) := g_dec dt98_X11_lookAtFirstBatch_ok (k := 51) rfl
theorem dX11_lookAtFirstBatch_77 : decode cX11_lookAtFirstBatch 77 = .ok (.getfield 40, 3) := g_dec dt98_X11_lookAtFirstBatch_ok (k := 52) rfl
theorem dX11_lookAtFirstBatch_80 : decode cX11_lookAtFirstBatch 80 = .ok (.getfield 425, 3) := g_dec dt98_X11_lookAtFirstBatch_ok (k := 53) rfl
theorem dX11_lookAtFirstBatch_83 : decode cX11_lookAtFirstBatch 83 = .ok (.invokevirtual 442, 3) := g_dec dt98_X11_lookAtFirstBatch_ok (k := 54) rfl
theorem dX11_lookAtFirstBatch_86 : decode cX11_lookAtFirstBatch 86 = .ok (.putfield 416, 3) := g_dec dt98_X11_lookAtFirstBatch_ok (k := 55) rfl
theorem dX11_lookAtFirstBatch_89 : decode cX11_lookAtFirstBatch 89 = .ok (.aload_n 0, 1) := g_dec dt98_X11_lookAtFirstBatch_ok (k := 56) rfl
theorem dX11_lookAtFirstBatch_90 : decode cX11_lookAtFirstBatch 90 = .ok (.getfield 40, 3) := g_dec dt98_X11_lookAtFirstBatch_ok (k := 57) rfl
theorem dX11_lookAtFirstBatch_93 : decode cX11_lookAtFirstBatch 93 = .ok (.getfield 416, 3) := g_dec dt98_X11_lookAtFirstBatch_ok (k := 58) rfl
theorem dX11_lookAtFirstBatch_96 : decode cX11_lookAtFirstBatch 96 = .ok (.iconst 2, 1) := g_dec dt98_X11_lookAtFirstBatch_ok (k := 59) rfl
def dt99_X11_lookAtFirstBatch : List (Nat × Instr × Nat) := [(97, (.if_icmp .eq 4, 3)), (101, (.iconst 0, 1)), (102, (.istore_n 1, 1)), (100, (.return_, 1)), (25, (.aload_n 0, 1)), (26, (.getfield 10, 3)), (29, (.aload_n 0, 1)), (30, (.getfield 33, 3)), (33, (.getfield 422, 3)), (36, (.iload_n 1, 1)), (37, (.invokevirtual 187, 3)), (40, (.invokevirtual 113, 3)), (43, (.astore_n 2, 1)), (44, (.aload_n 0, 1)), (45, (.getfield 40, 3)), (48, (.aload_n 2, 1)), (49, (.iconst 1, 1)), (50, (.aload_n 0, 1)), (51, (.getfield 99, 3)), (54, (.aload_n 2, 1)), (55, (.getfield 428, 3)), (58, (.invokevirtual 187, 3)), (61, (.iadd, 1)), (62, (.invokevirtual 440, 3)), (65, (.iinc 1 1, 3)), (68, (.goto (-55), 3)), (0, (.aload_n 0, 1)), (1, (.getfield 40, 3)), (4, (.aload_n 0, 1)), (5, (.invokevirtual 156, 3)), (8, (.invokevirtual 437, 3)), (11, (.iconst 0, 1)), (12, (.istore_n 1, 1))]
theorem dt99_X11_lookAtFirstBatch_ok : ∀ q ∈ dt99_X11_lookAtFirstBatch, decode cX11_lookAtFirstBatch q.1 = .ok q.2 := by decide +kernel
theorem dX11_lookAtFirstBatch_97 : decode cX11_lookAtFirstBatch 97 = .ok (.if_icmp .eq 4, 3) := g_dec dt99_X11_lookAtFirstBatch_ok (k := 0) rfl
theorem dX11_lookAtFirstBatch_101 : decode cX11_lookAtFirstBatch 101 = .ok (.iconst 0, 1) := g_dec dt99_X11_lookAtFirstBatch_ok (k := 1) rfl
theorem dX11_lookAtFirstBatch_102 : decode cX11_lookAtFirstBatch 102 = .ok (.istore_n 1, 1) := g_dec dt99_X11_lookAtFirstBatch_ok (k := 2) rfl
theorem dX11_lookAtFirstBatch_100 : decode cX11_lookAtFirstBatch 100 = .ok (.return_, 1) := g_dec dt99_X11_lookAtFirstBatch_ok (k := 3) rfl
theorem dX11_lookAtFirstBatch_25 : decode cX11_lookAtFirstBatch 25 = .ok (.aload_n 0, 1) := g_dec dt99_X11_lookAtFirstBatch_ok (k := 4) rfl
theorem dX11_lookAtFirstBatch_26 : decode cX11_lookAtFirstBatch 26 = .ok (.getfield 10, 3) := g_dec dt99_X11_lookAtFirstBatch_ok (k := 5) rfl
theorem dX11_lookAtFirstBatch_29 : decode cX11_lookAtFirstBatch 29 = .ok (.aload_n 0, 1) := g_dec dt99_X11_lookAtFirstBatch_ok (k := 6) rfl
theorem dX11_lookAtFirstBatch_30 : decode cX11_lookAtFirstBatch 30 = .ok (.getfield 33, 3) := g_dec dt99_X11_lookAtFirstBatch_ok (k := 7) rfl
theorem dX11_lookAtFirstBatch_33 : decode cX11_lookAtFirstBatch 33 = .ok (.getfield 422, 3) := g_dec dt99_X11_lookAtFirstBatch_ok (k := 8) rfl
theorem dX11_lookAtFirstBatch_36 : decode cX11_lookAtFirstBatch 36 = .ok (.iload_n 1, 1) := g_dec dt99_X11_lookAtFirstBatch_ok (k := 9) rfl
theorem dX11_lookAtFirstBatch_37 : decode cX11_lookAtFirstBatch 37 = .ok (.invokevirtual 187, 3) := g_dec dt99_X11_lookAtFirstBatch_ok (k := 10) rfl
theorem dX11_lookAtFirstBatch_40 : decode cX11_lookAtFirstBatch 40 = .ok (.invokevirtual 113, 3) := g_dec dt99_X11_lookAtFirstBatch_ok (k := 11) rfl
theorem dX11_lookAtFirstBatch_43 : decode cX11_lookAtFirstBatch 43 = .ok (.astore_n 2, 1) := g_dec dt99_X11_lookAtFirstBatch_ok (k := 12) rfl
theorem dX11_lookAtFirstBatch_44 : decode cX11_lookAtFirstBatch 44 = .ok (.aload_n 0, 1) := g_dec dt99_X11_lookAtFirstBatch_ok (k := 13) rfl
theorem dX11_lookAtFirstBatch_45 : decode cX11_lookAtFirstBatch 45 = .ok (.getfield 40, 3) := g_dec dt99_X11_lookAtFirstBatch_ok (k := 14) rfl
theorem dX11_lookAtFirstBatch_48 : decode cX11_lookAtFirstBatch 48 = .ok (.aload_n 2, 1) := g_dec dt99_X11_lookAtFirstBatch_ok (k := 15) rfl
theorem dX11_lookAtFirstBatch_49 : decode cX11_lookAtFirstBatch 49 = .ok (.iconst 1, 1) := g_dec dt99_X11_lookAtFirstBatch_ok (k := 16) rfl
theorem dX11_lookAtFirstBatch_50 : decode cX11_lookAtFirstBatch 50 = .ok (.aload_n 0, 1) := g_dec dt99_X11_lookAtFirstBatch_ok (k := 17) rfl
theorem dX11_lookAtFirstBatch_51 : decode cX11_lookAtFirstBatch 51 = .ok (.getfield 99, 3) := g_dec dt99_X11_lookAtFirstBatch_ok (k := 18) rfl
theorem dX11_lookAtFirstBatch_54 : decode cX11_lookAtFirstBatch 54 = .ok (.aload_n 2, 1) := g_dec dt99_X11_lookAtFirstBatch_ok (k := 19) rfl
theorem dX11_lookAtFirstBatch_55 : decode cX11_lookAtFirstBatch 55 = .ok (.getfield 428, 3) := g_dec dt99_X11_lookAtFirstBatch_ok (k := 20) rfl
theorem dX11_lookAtFirstBatch_58 : decode cX11_lookAtFirstBatch 58 = .ok (.invokevirtual 187, 3) := g_dec dt99_X11_lookAtFirstBatch_ok (k := 21) rfl
theorem dX11_lookAtFirstBatch_61 : decode cX11_lookAtFirstBatch 61 = .ok (.iadd, 1) := g_dec dt99_X11_lookAtFirstBatch_ok (k := 22) rfl
theorem dX11_lookAtFirstBatch_62 : decode cX11_lookAtFirstBatch 62 = .ok (.invokevirtual 440, 3) := g_dec dt99_X11_lookAtFirstBatch_ok (k := 23) rfl
theorem dX11_lookAtFirstBatch_65 : decode cX11_lookAtFirstBatch 65 = .ok (.iinc 1 1, 3) := g_dec dt99_X11_lookAtFirstBatch_ok (k := 24) rfl
theorem dX11_lookAtFirstBatch_68 : decode cX11_lookAtFirstBatch 68 = .ok (.goto (-55), 3) := g_dec dt99_X11_lookAtFirstBatch_ok (k := 25) rfl
theorem dX11_lookAtFirstBatch_0 : decode cX11_lookAtFirstBatch 0 = .ok (.aload_n 0, 1) := g_dec dt99_X11_lookAtFirstBatch_ok (k := 26) rfl
theorem dX11_lookAtFirstBatch_1 : decode cX11_lookAtFirstBatch 1 = .ok (.getfield 40, 3) := g_dec dt99_X11_lookAtFirstBatch_ok (k := 27) rfl
theorem dX11_lookAtFirstBatch_4 : decode cX11_lookAtFirstBatch 4 = .ok (.aload_n 0, 1) := g_dec dt99_X11_lookAtFirstBatch_ok (k := 28) rfl
theorem dX11_lookAtFirstBatch_5 : decode cX11_lookAtFirstBatch 5 = .ok (.invokevirtual 156, 3) := g_dec dt99_X11_lookAtFirstBatch_ok (k := 29) rfl
theorem dX11_lookAtFirstBatch_8 : decode cX11_lookAtFirstBatch 8 = .ok (.invokevirtual 437, 3) := g_dec dt99_X11_lookAtFirstBatch_ok (k := 30) rfl
theorem dX11_lookAtFirstBatch_11 : decode cX11_lookAtFirstBatch 11 = .ok (.iconst 0, 1) := g_dec dt99_X11_lookAtFirstBatch_ok (k := 31) rfl
theorem dX11_lookAtFirstBatch_12 : decode cX11_lookAtFirstBatch 12 = .ok (.istore_n 1, 1) := g_dec dt99_X11_lookAtFirstBatch_ok (k := 32) rfl
def dt100_X11_failedForBad : List (Nat × Instr × Nat) := [(93, (.iinc 5 1, 3)), (96, (.goto (-54), 3)), (42, (.iload 5, 2)), (44, (.aload_n 0, 1)), (45, (.getfield 19, 3)), (48, (.getfield 229, 3)), (51, (.if_icmp .ge 48, 3)), (99, (.iload 4, 2)), (101, (.ireturn, 1)), (54, (.iload_n 1, 1)), (55, (.iload 5, 2)), (57, (.invokestatic 175, 3)), (60, (.ifCond .eq 33, 3)), (63, (.aload_n 0, 1)), (64, (.getfield 26, 3)), (67, (.aload_n 0, 1)), (68, (.getfield 19, 3)), (71, (.iload 5, 2)), (73, (.invokevirtual 237, 3)), (76, (.lload_n 2, 1)), (77, (.invokevirtual 338, 3)), (80, (.iconst 2, 1)), (81, (.if_icmp .ne 12, 3)), (84, (.iload 4, 2)), (86, (.iconst 1, 1)), (87, (.iload 5, 2)), (89, (.ishl, 1)), (90, (.ior, 1)), (91, (.istore 4, 2)), (0, (.aload_n 0, 1)), (1, (.getfield 40, 3)), (4, (.getfield 454, 3)), (7, (.aload_n 0, 1)), (8, (.getfield 40, 3)), (11, (.getfield 425, 3)), (14, (.invokevirtual 187, 3)), (17, (.istore_n 1, 1)), (18, (.aload_n 0, 1)), (19, (.getfield 40, 3)), (22, (.getfield 456, 3)), (25, (.aload_n 0, 1)), (26, (.getfield 40, 3)), (29, (.getfield 425, 3)), (32, (.invokevirtual 218, 3)), (35, (.lstore_n 2, 1)), (36, (.iconst 0, 1)), (37, (.istore 4, 2)), (39, (.iconst 0, 1)), (40, (.istore 5, 2))]
theorem dt100_X11_failedForBad_ok : ∀ q ∈ dt100_X11_failedForBad, decode cX11_failedForBad q.1 = .ok q.2 := by decide +kernel
theorem dX11_failedForBad_93 : decode cX11_failedForBad 93 = .ok (.iinc 5 1, 3) := g_dec dt100_X11_failedForBad_ok (k := 0) rfl
theorem dX11_failedForBad_96 : decode cX11_failedForBad 96 = .ok (.goto (-54), 3) := g_dec dt100_X11_failedForBad_ok (k := 1) rfl
theorem dX11_failedForBad_42 : decode cX11_failedForBad 42 = .ok (.iload 5, 2) := g_dec dt100_X11_failedForBad_ok (k := 2) rfl
theorem dX11_failedForBad_44 : decode cX11_failedForBad 44 = .ok (.aload_n 0, 1) := g_dec dt100_X11_failedForBad_ok (k := 3) rfl
theorem dX11_failedForBad_45 : decode cX11_failedForBad 45 = .ok (.getfield 19, 3) := g_dec dt100_X11_failedForBad_ok (k := 4) rfl
theorem dX11_failedForBad_48 : decode cX11_failedForBad 48 = .ok (.getfield 229, 3) := g_dec dt100_X11_failedForBad_ok (k := 5) rfl
theorem dX11_failedForBad_51 : decode cX11_failedForBad 51 = .ok (.if_icmp .ge 48, 3) := g_dec dt100_X11_failedForBad_ok (k := 6) rfl
theorem dX11_failedForBad_99 : decode cX11_failedForBad 99 = .ok (.iload 4, 2) := g_dec dt100_X11_failedForBad_ok (k := 7) rfl
theorem dX11_failedForBad_101 : decode cX11_failedForBad 101 = .ok (.ireturn, 1) := g_dec dt100_X11_failedForBad_ok (k := 8) rfl
theorem dX11_failedForBad_54 : decode cX11_failedForBad 54 = .ok (.iload_n 1, 1) := g_dec dt100_X11_failedForBad_ok (k := 9) rfl
theorem dX11_failedForBad_55 : decode cX11_failedForBad 55 = .ok (.iload 5, 2) := g_dec dt100_X11_failedForBad_ok (k := 10) rfl
theorem dX11_failedForBad_57 : decode cX11_failedForBad 57 = .ok (.invokestatic 175, 3) := g_dec dt100_X11_failedForBad_ok (k := 11) rfl
theorem dX11_failedForBad_60 : decode cX11_failedForBad 60 = .ok (.ifCond .eq 33, 3) := g_dec dt100_X11_failedForBad_ok (k := 12) rfl
theorem dX11_failedForBad_63 : decode cX11_failedForBad 63 = .ok (.aload_n 0, 1) := g_dec dt100_X11_failedForBad_ok (k := 13) rfl
theorem dX11_failedForBad_64 : decode cX11_failedForBad 64 = .ok (.getfield 26, 3) := g_dec dt100_X11_failedForBad_ok (k := 14) rfl
theorem dX11_failedForBad_67 : decode cX11_failedForBad 67 = .ok (.aload_n 0, 1) := g_dec dt100_X11_failedForBad_ok (k := 15) rfl
theorem dX11_failedForBad_68 : decode cX11_failedForBad 68 = .ok (.getfield 19, 3) := g_dec dt100_X11_failedForBad_ok (k := 16) rfl
theorem dX11_failedForBad_71 : decode cX11_failedForBad 71 = .ok (.iload 5, 2) := g_dec dt100_X11_failedForBad_ok (k := 17) rfl
theorem dX11_failedForBad_73 : decode cX11_failedForBad 73 = .ok (.invokevirtual 237, 3) := g_dec dt100_X11_failedForBad_ok (k := 18) rfl
theorem dX11_failedForBad_76 : decode cX11_failedForBad 76 = .ok (.lload_n 2, 1) := g_dec dt100_X11_failedForBad_ok (k := 19) rfl
theorem dX11_failedForBad_77 : decode cX11_failedForBad 77 = .ok (.invokevirtual 338, 3) := g_dec dt100_X11_failedForBad_ok (k := 20) rfl
theorem dX11_failedForBad_80 : decode cX11_failedForBad 80 = .ok (.iconst 2, 1) := g_dec dt100_X11_failedForBad_ok (k := 21) rfl
theorem dX11_failedForBad_81 : decode cX11_failedForBad 81 = .ok (.if_icmp .ne 12, 3) := g_dec dt100_X11_failedForBad_ok (k := 22) rfl
theorem dX11_failedForBad_84 : decode cX11_failedForBad 84 = .ok (.iload 4, 2) := g_dec dt100_X11_failedForBad_ok (k := 23) rfl
theorem dX11_failedForBad_86 : decode cX11_failedForBad 86 = .ok (.iconst 1, 1) := g_dec dt100_X11_failedForBad_ok (k := 24) rfl
theorem dX11_failedForBad_87 : decode cX11_failedForBad 87 = .ok (.iload 5, 2) := g_dec dt100_X11_failedForBad_ok (k := 25) rfl
theorem dX11_failedForBad_89 : decode cX11_failedForBad 89 = .ok (.ishl, 1) := g_dec dt100_X11_failedForBad_ok (k := 26) rfl
theorem dX11_failedForBad_90 : decode cX11_failedForBad 90 = .ok (.ior, 1) := g_dec dt100_X11_failedForBad_ok (k := 27) rfl
theorem dX11_failedForBad_91 : decode cX11_failedForBad 91 = .ok (.istore 4, 2) := g_dec dt100_X11_failedForBad_ok (k := 28) rfl
theorem dX11_failedForBad_0 : decode cX11_failedForBad 0 = .ok (.aload_n 0, 1) := g_dec dt100_X11_failedForBad_ok (k := 29) rfl
theorem dX11_failedForBad_1 : decode cX11_failedForBad 1 = .ok (.getfield 40, 3) := g_dec dt100_X11_failedForBad_ok (k := 30) rfl
theorem dX11_failedForBad_4 : decode cX11_failedForBad 4 = .ok (.getfield 454, 3) := g_dec dt100_X11_failedForBad_ok (k := 31) rfl
theorem dX11_failedForBad_7 : decode cX11_failedForBad 7 = .ok (.aload_n 0, 1) := g_dec dt100_X11_failedForBad_ok (k := 32) rfl
theorem dX11_failedForBad_8 : decode cX11_failedForBad 8 = .ok (.getfield 40, 3) := g_dec dt100_X11_failedForBad_ok (k := 33) rfl
theorem dX11_failedForBad_11 : decode cX11_failedForBad 11 = .ok (.getfield 425, 3) := g_dec dt100_X11_failedForBad_ok (k := 34) rfl
theorem dX11_failedForBad_14 : decode cX11_failedForBad 14 = .ok (.invokevirtual 187, 3) := g_dec dt100_X11_failedForBad_ok (k := 35) rfl
theorem dX11_failedForBad_17 : decode cX11_failedForBad 17 = .ok (.istore_n 1, 1) := g_dec dt100_X11_failedForBad_ok (k := 36) rfl
theorem dX11_failedForBad_18 : decode cX11_failedForBad 18 = .ok (.aload_n 0, 1) := g_dec dt100_X11_failedForBad_ok (k := 37) rfl
theorem dX11_failedForBad_19 : decode cX11_failedForBad 19 = .ok (.getfield 40, 3) := g_dec dt100_X11_failedForBad_ok (k := 38) rfl
theorem dX11_failedForBad_22 : decode cX11_failedForBad 22 = .ok (.getfield 456, 3) := g_dec dt100_X11_failedForBad_ok (k := 39) rfl
theorem dX11_failedForBad_25 : decode cX11_failedForBad 25 = .ok (.aload_n 0, 1) := g_dec dt100_X11_failedForBad_ok (k := 40) rfl
theorem dX11_failedForBad_26 : decode cX11_failedForBad 26 = .ok (.getfield 40, 3) := g_dec dt100_X11_failedForBad_ok (k := 41) rfl
theorem dX11_failedForBad_29 : decode cX11_failedForBad 29 = .ok (.getfield 425, 3) := g_dec dt100_X11_failedForBad_ok (k := 42) rfl
theorem dX11_failedForBad_32 : decode cX11_failedForBad 32 = .ok (.invokevirtual 218, 3) := g_dec dt100_X11_failedForBad_ok (k := 43) rfl
theorem dX11_failedForBad_35 : decode cX11_failedForBad 35 = .ok (.lstore_n 2, 1) := g_dec dt100_X11_failedForBad_ok (k := 44) rfl
theorem dX11_failedForBad_36 : decode cX11_failedForBad 36 = .ok (.iconst 0, 1) := g_dec dt100_X11_failedForBad_ok (k := 45) rfl
theorem dX11_failedForBad_37 : decode cX11_failedForBad 37 = .ok (.istore 4, 2) := g_dec dt100_X11_failedForBad_ok (k := 46) rfl
theorem dX11_failedForBad_39 : decode cX11_failedForBad 39 = .ok (.iconst 0, 1) := g_dec dt100_X11_failedForBad_ok (k := 47) rfl
theorem dX11_failedForBad_40 : decode cX11_failedForBad 40 = .ok (.istore 5, 2) := g_dec dt100_X11_failedForBad_ok (k := 48) rfl
def dt101_X11_verdictBehindGood : List (Nat × Instr × Nat) := [(85, (.iinc 5 1, 3)), (88, (.goto (-59), 3)), (29, (.iload 5, 2)), (31, (.aload_n 0, 1)), (32, (.getfield 19, 3)), (35, (.getfield 229, 3)), (38, (.if_icmp .ge 53, 3)), (91, (.iload 4, 2)), (93, (.ireturn, 1)), (41, (.iload_n 1, 1)), (42, (.iload 5, 2)), (44, (.invokestatic 175, 3)), (47, (.ifCond .eq 38, 3)), (50, (.aload_n 0, 1)), (51, (.getfield 26, 3)), (54, (.aload_n 0, 1)), (55, (.getfield 19, 3)), (58, (.iload 5, 2)), (60, (.invokevirtual 237, 3)), (63, (.lload_n 2, 1)), (64, (.invokevirtual 338, 3)), (67, (.istore 6, 2)), (69, (.iload 6, 2)), (71, (.iconst 1, 1)), (72, (.if_icmp .ne 5, 3)), (77, (.iload 6, 2)), (79, (.ifCond .ne 6, 3)), (82, (.iconst 0, 1)), (83, (.istore 4, 2)), (75, (.iconst 1, 1)), (76, (.ireturn, 1)), (0, (.aload_n 0, 1)), (1, (.invokevirtual 459, 3)), (4, (.istore_n 1, 1)), (5, (.aload_n 0, 1)), (6, (.getfield 40, 3)), (9, (.getfield 456, 3)), (12, (.aload_n 0, 1)), (13, (.getfield 40, 3)), (16, (.getfield 445, 3)), (19, (.invokevirtual 218, 3)), (22, (.lstore_n 2, 1)), (23, (.iconst 2, 1)), (24, (.istore 4, 2)), (26, (.iconst 0, 1)), (27, (.istore 5, 2))]
theorem dt101_X11_verdictBehindGood_ok : ∀ q ∈ dt101_X11_verdictBehindGood, decode cX11_verdictBehindGood q.1 = .ok q.2 := by decide +kernel
theorem dX11_verdictBehindGood_85 : decode cX11_verdictBehindGood 85 = .ok (.iinc 5 1, 3) := g_dec dt101_X11_verdictBehindGood_ok (k := 0) rfl
theorem dX11_verdictBehindGood_88 : decode cX11_verdictBehindGood 88 = .ok (.goto (-59), 3) := g_dec dt101_X11_verdictBehindGood_ok (k := 1) rfl
theorem dX11_verdictBehindGood_29 : decode cX11_verdictBehindGood 29 = .ok (.iload 5, 2) := g_dec dt101_X11_verdictBehindGood_ok (k := 2) rfl
theorem dX11_verdictBehindGood_31 : decode cX11_verdictBehindGood 31 = .ok (.aload_n 0, 1) := g_dec dt101_X11_verdictBehindGood_ok (k := 3) rfl
theorem dX11_verdictBehindGood_32 : decode cX11_verdictBehindGood 32 = .ok (.getfield 19, 3) := g_dec dt101_X11_verdictBehindGood_ok (k := 4) rfl
theorem dX11_verdictBehindGood_35 : decode cX11_verdictBehindGood 35 = .ok (.getfield 229, 3) := g_dec dt101_X11_verdictBehindGood_ok (k := 5) rfl
theorem dX11_verdictBehindGood_38 : decode cX11_verdictBehindGood 38 = .ok (.if_icmp .ge 53, 3) := g_dec dt101_X11_verdictBehindGood_ok (k := 6) rfl
theorem dX11_verdictBehindGood_91 : decode cX11_verdictBehindGood 91 = .ok (.iload 4, 2) := g_dec dt101_X11_verdictBehindGood_ok (k := 7) rfl
theorem dX11_verdictBehindGood_93 : decode cX11_verdictBehindGood 93 = .ok (.ireturn, 1) := g_dec dt101_X11_verdictBehindGood_ok (k := 8) rfl
theorem dX11_verdictBehindGood_41 : decode cX11_verdictBehindGood 41 = .ok (.iload_n 1, 1) := g_dec dt101_X11_verdictBehindGood_ok (k := 9) rfl
theorem dX11_verdictBehindGood_42 : decode cX11_verdictBehindGood 42 = .ok (.iload 5, 2) := g_dec dt101_X11_verdictBehindGood_ok (k := 10) rfl
theorem dX11_verdictBehindGood_44 : decode cX11_verdictBehindGood 44 = .ok (.invokestatic 175, 3) := g_dec dt101_X11_verdictBehindGood_ok (k := 11) rfl
theorem dX11_verdictBehindGood_47 : decode cX11_verdictBehindGood 47 = .ok (.ifCond .eq 38, 3) := g_dec dt101_X11_verdictBehindGood_ok (k := 12) rfl
theorem dX11_verdictBehindGood_50 : decode cX11_verdictBehindGood 50 = .ok (.aload_n 0, 1) := g_dec dt101_X11_verdictBehindGood_ok (k := 13) rfl
theorem dX11_verdictBehindGood_51 : decode cX11_verdictBehindGood 51 = .ok (.getfield 26, 3) := g_dec dt101_X11_verdictBehindGood_ok (k := 14) rfl
theorem dX11_verdictBehindGood_54 : decode cX11_verdictBehindGood 54 = .ok (.aload_n 0, 1) := g_dec dt101_X11_verdictBehindGood_ok (k := 15) rfl
theorem dX11_verdictBehindGood_55 : decode cX11_verdictBehindGood 55 = .ok (.getfield 19, 3) := g_dec dt101_X11_verdictBehindGood_ok (k := 16) rfl
theorem dX11_verdictBehindGood_58 : decode cX11_verdictBehindGood 58 = .ok (.iload 5, 2) := g_dec dt101_X11_verdictBehindGood_ok (k := 17) rfl
theorem dX11_verdictBehindGood_60 : decode cX11_verdictBehindGood 60 = .ok (.invokevirtual 237, 3) := g_dec dt101_X11_verdictBehindGood_ok (k := 18) rfl
theorem dX11_verdictBehindGood_63 : decode cX11_verdictBehindGood 63 = .ok (.lload_n 2, 1) := g_dec dt101_X11_verdictBehindGood_ok (k := 19) rfl
theorem dX11_verdictBehindGood_64 : decode cX11_verdictBehindGood 64 = .ok (.invokevirtual 338, 3) := g_dec dt101_X11_verdictBehindGood_ok (k := 20) rfl
theorem dX11_verdictBehindGood_67 : decode cX11_verdictBehindGood 67 = .ok (.istore 6, 2) := g_dec dt101_X11_verdictBehindGood_ok (k := 21) rfl
theorem dX11_verdictBehindGood_69 : decode cX11_verdictBehindGood 69 = .ok (.iload 6, 2) := g_dec dt101_X11_verdictBehindGood_ok (k := 22) rfl
theorem dX11_verdictBehindGood_71 : decode cX11_verdictBehindGood 71 = .ok (.iconst 1, 1) := g_dec dt101_X11_verdictBehindGood_ok (k := 23) rfl
theorem dX11_verdictBehindGood_72 : decode cX11_verdictBehindGood 72 = .ok (.if_icmp .ne 5, 3) := g_dec dt101_X11_verdictBehindGood_ok (k := 24) rfl
theorem dX11_verdictBehindGood_77 : decode cX11_verdictBehindGood 77 = .ok (.iload 6, 2) := g_dec dt101_X11_verdictBehindGood_ok (k := 25) rfl
theorem dX11_verdictBehindGood_79 : decode cX11_verdictBehindGood 79 = .ok (.ifCond .ne 6, 3) := g_dec dt101_X11_verdictBehindGood_ok (k := 26) rfl
theorem dX11_verdictBehindGood_82 : decode cX11_verdictBehindGood 82 = .ok (.iconst 0, 1) := g_dec dt101_X11_verdictBehindGood_ok (k := 27) rfl
theorem dX11_verdictBehindGood_83 : decode cX11_verdictBehindGood 83 = .ok (.istore 4, 2) := g_dec dt101_X11_verdictBehindGood_ok (k := 28) rfl
theorem dX11_verdictBehindGood_75 : decode cX11_verdictBehindGood 75 = .ok (.iconst 1, 1) := g_dec dt101_X11_verdictBehindGood_ok (k := 29) rfl
theorem dX11_verdictBehindGood_76 : decode cX11_verdictBehindGood 76 = .ok (.ireturn, 1) := g_dec dt101_X11_verdictBehindGood_ok (k := 30) rfl
theorem dX11_verdictBehindGood_0 : decode cX11_verdictBehindGood 0 = .ok (.aload_n 0, 1) := g_dec dt101_X11_verdictBehindGood_ok (k := 31) rfl
theorem dX11_verdictBehindGood_1 : decode cX11_verdictBehindGood 1 = .ok (.invokevirtual 459, 3) := g_dec dt101_X11_verdictBehindGood_ok (k := 32) rfl
theorem dX11_verdictBehindGood_4 : decode cX11_verdictBehindGood 4 = .ok (.istore_n 1, 1) := g_dec dt101_X11_verdictBehindGood_ok (k := 33) rfl
theorem dX11_verdictBehindGood_5 : decode cX11_verdictBehindGood 5 = .ok (.aload_n 0, 1) := g_dec dt101_X11_verdictBehindGood_ok (k := 34) rfl
theorem dX11_verdictBehindGood_6 : decode cX11_verdictBehindGood 6 = .ok (.getfield 40, 3) := g_dec dt101_X11_verdictBehindGood_ok (k := 35) rfl
theorem dX11_verdictBehindGood_9 : decode cX11_verdictBehindGood 9 = .ok (.getfield 456, 3) := g_dec dt101_X11_verdictBehindGood_ok (k := 36) rfl
theorem dX11_verdictBehindGood_12 : decode cX11_verdictBehindGood 12 = .ok (.aload_n 0, 1) := g_dec dt101_X11_verdictBehindGood_ok (k := 37) rfl
theorem dX11_verdictBehindGood_13 : decode cX11_verdictBehindGood 13 = .ok (.getfield 40, 3) := g_dec dt101_X11_verdictBehindGood_ok (k := 38) rfl
theorem dX11_verdictBehindGood_16 : decode cX11_verdictBehindGood 16 = .ok (.getfield 445, 3) := g_dec dt101_X11_verdictBehindGood_ok (k := 39) rfl
theorem dX11_verdictBehindGood_19 : decode cX11_verdictBehindGood 19 = .ok (.invokevirtual 218, 3) := g_dec dt101_X11_verdictBehindGood_ok (k := 40) rfl
theorem dX11_verdictBehindGood_22 : decode cX11_verdictBehindGood 22 = .ok (.lstore_n 2, 1) := g_dec dt101_X11_verdictBehindGood_ok (k := 41) rfl
theorem dX11_verdictBehindGood_23 : decode cX11_verdictBehindGood 23 = .ok (.iconst 2, 1) := g_dec dt101_X11_verdictBehindGood_ok (k := 42) rfl
theorem dX11_verdictBehindGood_24 : decode cX11_verdictBehindGood 24 = .ok (.istore 4, 2) := g_dec dt101_X11_verdictBehindGood_ok (k := 43) rfl
theorem dX11_verdictBehindGood_26 : decode cX11_verdictBehindGood 26 = .ok (.iconst 0, 1) := g_dec dt101_X11_verdictBehindGood_ok (k := 44) rfl
theorem dX11_verdictBehindGood_27 : decode cX11_verdictBehindGood 27 = .ok (.istore 5, 2) := g_dec dt101_X11_verdictBehindGood_ok (k := 45) rfl
def dt102_X11_isBroken : List (Nat × Instr × Nat) := [(31, (.ireturn, 1)), (30, (.iconst 0, 1)), (0, (.aload_n 0, 1)), (1, (.invokevirtual 204, 3)), (4, (.aload_n 0, 1)), (5, (.invokevirtual 305, 3)), (8, (.aload_n 0, 1)), (9, (.getfield 40, 3)), (12, (.invokevirtual 308, 3)), (15, (.ifCond .eq 15, 3)), (18, (.aload_n 0, 1)), (19, (.invokevirtual 311, 3)), (22, (.iconst 2, 1)), (23, (.if_icmp .ne 7, 3)), (26, (.iconst 1, 1)), (27, (.goto 4, 3))]
theorem dt102_X11_isBroken_ok : ∀ q ∈ dt102_X11_isBroken, decode cX11_isBroken q.1 = .ok q.2 := by decide +kernel
theorem dX11_isBroken_31 : decode cX11_isBroken 31 = .ok (.ireturn, 1) := g_dec dt102_X11_isBroken_ok (k := 0) rfl
theorem dX11_isBroken_30 : decode cX11_isBroken 30 = .ok (.iconst 0, 1) := g_dec dt102_X11_isBroken_ok (k := 1) rfl
theorem dX11_isBroken_0 : decode cX11_isBroken 0 = .ok (.aload_n 0, 1) := g_dec dt102_X11_isBroken_ok (k := 2) rfl
theorem dX11_isBroken_1 : decode cX11_isBroken 1 = .ok (.invokevirtual 204, 3) := g_dec dt102_X11_isBroken_ok (k := 3) rfl
theorem dX11_isBroken_4 : decode cX11_isBroken 4 = .ok (.aload_n 0, 1) := g_dec dt102_X11_isBroken_ok (k := 4) rfl
theorem dX11_isBroken_5 : decode cX11_isBroken 5 = .ok (.invokevirtual 305, 3) := g_dec dt102_X11_isBroken_ok (k := 5) rfl
theorem dX11_isBroken_8 : decode cX11_isBroken 8 = .ok (.aload_n 0, 1) := g_dec dt102_X11_isBroken_ok (k := 6) rfl
theorem dX11_isBroken_9 : decode cX11_isBroken 9 = .ok (.getfield 40, 3) := g_dec dt102_X11_isBroken_ok (k := 7) rfl
theorem dX11_isBroken_12 : decode cX11_isBroken 12 = .ok (.invokevirtual 308, 3) := g_dec dt102_X11_isBroken_ok (k := 8) rfl
theorem dX11_isBroken_15 : decode cX11_isBroken 15 = .ok (.ifCond .eq 15, 3) := g_dec dt102_X11_isBroken_ok (k := 9) rfl
theorem dX11_isBroken_18 : decode cX11_isBroken 18 = .ok (.aload_n 0, 1) := g_dec dt102_X11_isBroken_ok (k := 10) rfl
theorem dX11_isBroken_19 : decode cX11_isBroken 19 = .ok (.invokevirtual 311, 3) := g_dec dt102_X11_isBroken_ok (k := 11) rfl
theorem dX11_isBroken_22 : decode cX11_isBroken 22 = .ok (.iconst 2, 1) := g_dec dt102_X11_isBroken_ok (k := 12) rfl
theorem dX11_isBroken_23 : decode cX11_isBroken 23 = .ok (.if_icmp .ne 7, 3) := g_dec dt102_X11_isBroken_ok (k := 13) rfl
theorem dX11_isBroken_26 : decode cX11_isBroken 26 = .ok (.iconst 1, 1) := g_dec dt102_X11_isBroken_ok (k := 14) rfl
theorem dX11_isBroken_27 : decode cX11_isBroken 27 = .ok (.goto 4, 3) := g_dec dt102_X11_isBroken_ok (k := 15) rfl
def dt103_X11_commits : List (Nat × Instr × Nat) := [(0, (.aload_n 0, 1)), (1, (.getfield 76, 3)), (4, (.getfield 217, 3)), (7, (.ireturn, 1))]
theorem dt103_X11_commits_ok : ∀ q ∈ dt103_X11_commits, decode cX11_commits q.1 = .ok q.2 := by decide +kernel
theorem dX11_commits_0 : decode cX11_commits 0 = .ok (.aload_n 0, 1) := g_dec dt103_X11_commits_ok (k := 0) rfl
theorem dX11_commits_1 : decode cX11_commits 1 = .ok (.getfield 76, 3) := g_dec dt103_X11_commits_ok (k := 1) rfl
theorem dX11_commits_4 : decode cX11_commits 4 = .ok (.getfield 217, 3) := g_dec dt103_X11_commits_ok (k := 2) rfl
theorem dX11_commits_7 : decode cX11_commits 7 = .ok (.ireturn, 1) := g_dec dt103_X11_commits_ok (k := 3) rfl
def dt104_X11_content : List (Nat × Instr × Nat) := [(0, (.iload_n 1, 1)), (1, (.aload_n 0, 1)), (2, (.getfield 76, 3)), (5, (.getfield 217, 3)), (8, (.invokestatic 106, 3)), (11, (.iload_n 2, 1)), (12, (.bipush 12, 2)), (14, (.invokestatic 106, 3)), (17, (.aload_n 0, 1)), (18, (.getfield 76, 3)), (21, (.iload_n 1, 1)), (22, (.invokevirtual 218, 3)), (25, (.iload_n 2, 1)), (26, (.invokestatic 179, 3)), (29, (.ireturn, 1))]
theorem dt104_X11_content_ok : ∀ q ∈ dt104_X11_content, decode cX11_content q.1 = .ok q.2 := by decide +kernel
theorem dX11_content_0 : decode cX11_content 0 = .ok (.iload_n 1, 1) := g_dec dt104_X11_content_ok (k := 0) rfl
theorem dX11_content_1 : decode cX11_content 1 = .ok (.aload_n 0, 1) := g_dec dt104_X11_content_ok (k := 1) rfl
theorem dX11_content_2 : decode cX11_content 2 = .ok (.getfield 76, 3) := g_dec dt104_X11_content_ok (k := 2) rfl
theorem dX11_content_5 : decode cX11_content 5 = .ok (.getfield 217, 3) := g_dec dt104_X11_content_ok (k := 3) rfl
theorem dX11_content_8 : decode cX11_content 8 = .ok (.invokestatic 106, 3) := g_dec dt104_X11_content_ok (k := 4) rfl
theorem dX11_content_11 : decode cX11_content 11 = .ok (.iload_n 2, 1) := g_dec dt104_X11_content_ok (k := 5) rfl
theorem dX11_content_12 : decode cX11_content 12 = .ok (.bipush 12, 2) := g_dec dt104_X11_content_ok (k := 6) rfl
theorem dX11_content_14 : decode cX11_content 14 = .ok (.invokestatic 106, 3) := g_dec dt104_X11_content_ok (k := 7) rfl
theorem dX11_content_17 : decode cX11_content 17 = .ok (.aload_n 0, 1) := g_dec dt104_X11_content_ok (k := 8) rfl
theorem dX11_content_18 : decode cX11_content 18 = .ok (.getfield 76, 3) := g_dec dt104_X11_content_ok (k := 9) rfl
theorem dX11_content_21 : decode cX11_content 21 = .ok (.iload_n 1, 1) := g_dec dt104_X11_content_ok (k := 10) rfl
theorem dX11_content_22 : decode cX11_content 22 = .ok (.invokevirtual 218, 3) := g_dec dt104_X11_content_ok (k := 11) rfl
theorem dX11_content_25 : decode cX11_content 25 = .ok (.iload_n 2, 1) := g_dec dt104_X11_content_ok (k := 12) rfl
theorem dX11_content_26 : decode cX11_content 26 = .ok (.invokestatic 179, 3) := g_dec dt104_X11_content_ok (k := 13) rfl
theorem dX11_content_29 : decode cX11_content 29 = .ok (.ireturn, 1) := g_dec dt104_X11_content_ok (k := 14) rfl
def dt105_X11_landedBy : List (Nat × Instr × Nat) := [(0, (.iload_n 1, 1)), (1, (.aload_n 0, 1)), (2, (.getfield 10, 3)), (5, (.getfield 110, 3)), (8, (.invokestatic 106, 3)), (11, (.aload_n 0, 1)), (12, (.getfield 10, 3)), (15, (.iload_n 1, 1)), (16, (.invokevirtual 113, 3)), (19, (.getfield 335, 3)), (22, (.ireturn, 1))]
theorem dt105_X11_landedBy_ok : ∀ q ∈ dt105_X11_landedBy, decode cX11_landedBy q.1 = .ok q.2 := by decide +kernel
theorem dX11_landedBy_0 : decode cX11_landedBy 0 = .ok (.iload_n 1, 1) := g_dec dt105_X11_landedBy_ok (k := 0) rfl
theorem dX11_landedBy_1 : decode cX11_landedBy 1 = .ok (.aload_n 0, 1) := g_dec dt105_X11_landedBy_ok (k := 1) rfl
theorem dX11_landedBy_2 : decode cX11_landedBy 2 = .ok (.getfield 10, 3) := g_dec dt105_X11_landedBy_ok (k := 2) rfl
theorem dX11_landedBy_5 : decode cX11_landedBy 5 = .ok (.getfield 110, 3) := g_dec dt105_X11_landedBy_ok (k := 3) rfl
theorem dX11_landedBy_8 : decode cX11_landedBy 8 = .ok (.invokestatic 106, 3) := g_dec dt105_X11_landedBy_ok (k := 4) rfl
theorem dX11_landedBy_11 : decode cX11_landedBy 11 = .ok (.aload_n 0, 1) := g_dec dt105_X11_landedBy_ok (k := 5) rfl
theorem dX11_landedBy_12 : decode cX11_landedBy 12 = .ok (.getfield 10, 3) := g_dec dt105_X11_landedBy_ok (k := 6) rfl
theorem dX11_landedBy_15 : decode cX11_landedBy 15 = .ok (.iload_n 1, 1) := g_dec dt105_X11_landedBy_ok (k := 7) rfl
theorem dX11_landedBy_16 : decode cX11_landedBy 16 = .ok (.invokevirtual 113, 3) := g_dec dt105_X11_landedBy_ok (k := 8) rfl
theorem dX11_landedBy_19 : decode cX11_landedBy 19 = .ok (.getfield 335, 3) := g_dec dt105_X11_landedBy_ok (k := 9) rfl
theorem dX11_landedBy_22 : decode cX11_landedBy 22 = .ok (.ireturn, 1) := g_dec dt105_X11_landedBy_ok (k := 10) rfl
def dt106_X11_verdict : List (Nat × Instr × Nat) := [(0, (.iload_n 1, 1)), (1, (.aload_n 0, 1)), (2, (.getfield 19, 3)), (5, (.getfield 229, 3)), (8, (.invokestatic 106, 3)), (11, (.iload_n 2, 1)), (12, (.aload_n 0, 1)), (13, (.getfield 76, 3)), (16, (.getfield 217, 3)), (19, (.invokestatic 106, 3)), (22, (.aload_n 0, 1)), (23, (.getfield 26, 3)), (26, (.aload_n 0, 1)), (27, (.getfield 19, 3)), (30, (.iload_n 1, 1)), (31, (.invokevirtual 237, 3)), (34, (.aload_n 0, 1)), (35, (.getfield 76, 3)), (38, (.iload_n 2, 1)), (39, (.invokevirtual 218, 3)), (42, (.invokevirtual 338, 3)), (45, (.ireturn, 1))]
theorem dt106_X11_verdict_ok : ∀ q ∈ dt106_X11_verdict, decode cX11_verdict q.1 = .ok q.2 := by decide +kernel
theorem dX11_verdict_0 : decode cX11_verdict 0 = .ok (.iload_n 1, 1) := g_dec dt106_X11_verdict_ok (k := 0) rfl
theorem dX11_verdict_1 : decode cX11_verdict 1 = .ok (.aload_n 0, 1) := g_dec dt106_X11_verdict_ok (k := 1) rfl
theorem dX11_verdict_2 : decode cX11_verdict 2 = .ok (.getfield 19, 3) := g_dec dt106_X11_verdict_ok (k := 2) rfl
theorem dX11_verdict_5 : decode cX11_verdict 5 = .ok (.getfield 229, 3) := g_dec dt106_X11_verdict_ok (k := 3) rfl
theorem dX11_verdict_8 : decode cX11_verdict 8 = .ok (.invokestatic 106, 3) := g_dec dt106_X11_verdict_ok (k := 4) rfl
theorem dX11_verdict_11 : decode cX11_verdict 11 = .ok (.iload_n 2, 1) := g_dec dt106_X11_verdict_ok (k := 5) rfl
theorem dX11_verdict_12 : decode cX11_verdict 12 = .ok (.aload_n 0, 1) := g_dec dt106_X11_verdict_ok (k := 6) rfl
theorem dX11_verdict_13 : decode cX11_verdict 13 = .ok (.getfield 76, 3) := g_dec dt106_X11_verdict_ok (k := 7) rfl
theorem dX11_verdict_16 : decode cX11_verdict 16 = .ok (.getfield 217, 3) := g_dec dt106_X11_verdict_ok (k := 8) rfl
theorem dX11_verdict_19 : decode cX11_verdict 19 = .ok (.invokestatic 106, 3) := g_dec dt106_X11_verdict_ok (k := 9) rfl
theorem dX11_verdict_22 : decode cX11_verdict 22 = .ok (.aload_n 0, 1) := g_dec dt106_X11_verdict_ok (k := 10) rfl
theorem dX11_verdict_23 : decode cX11_verdict 23 = .ok (.getfield 26, 3) := g_dec dt106_X11_verdict_ok (k := 11) rfl
theorem dX11_verdict_26 : decode cX11_verdict 26 = .ok (.aload_n 0, 1) := g_dec dt106_X11_verdict_ok (k := 12) rfl
theorem dX11_verdict_27 : decode cX11_verdict 27 = .ok (.getfield 19, 3) := g_dec dt106_X11_verdict_ok (k := 13) rfl
theorem dX11_verdict_30 : decode cX11_verdict 30 = .ok (.iload_n 1, 1) := g_dec dt106_X11_verdict_ok (k := 14) rfl
theorem dX11_verdict_31 : decode cX11_verdict 31 = .ok (.invokevirtual 237, 3) := g_dec dt106_X11_verdict_ok (k := 15) rfl
theorem dX11_verdict_34 : decode cX11_verdict 34 = .ok (.aload_n 0, 1) := g_dec dt106_X11_verdict_ok (k := 16) rfl
theorem dX11_verdict_35 : decode cX11_verdict 35 = .ok (.getfield 76, 3) := g_dec dt106_X11_verdict_ok (k := 17) rfl
theorem dX11_verdict_38 : decode cX11_verdict 38 = .ok (.iload_n 2, 1) := g_dec dt106_X11_verdict_ok (k := 18) rfl
theorem dX11_verdict_39 : decode cX11_verdict 39 = .ok (.invokevirtual 218, 3) := g_dec dt106_X11_verdict_ok (k := 19) rfl
theorem dX11_verdict_42 : decode cX11_verdict 42 = .ok (.invokevirtual 338, 3) := g_dec dt106_X11_verdict_ok (k := 20) rfl
theorem dX11_verdict_45 : decode cX11_verdict 45 = .ok (.ireturn, 1) := g_dec dt106_X11_verdict_ok (k := 21) rfl
def dt107_X11_runs : List (Nat × Instr × Nat) := [(0, (.iload_n 1, 1)), (1, (.aload_n 0, 1)), (2, (.getfield 19, 3)), (5, (.getfield 229, 3)), (8, (.invokestatic 106, 3)), (11, (.aload_n 0, 1)), (12, (.getfield 19, 3)), (15, (.iload_n 1, 1)), (16, (.invokevirtual 237, 3)), (19, (.getfield 342, 3)), (22, (.ireturn, 1))]
theorem dt107_X11_runs_ok : ∀ q ∈ dt107_X11_runs, decode cX11_runs q.1 = .ok q.2 := by decide +kernel
theorem dX11_runs_0 : decode cX11_runs 0 = .ok (.iload_n 1, 1) := g_dec dt107_X11_runs_ok (k := 0) rfl
theorem dX11_runs_1 : decode cX11_runs 1 = .ok (.aload_n 0, 1) := g_dec dt107_X11_runs_ok (k := 1) rfl
theorem dX11_runs_2 : decode cX11_runs 2 = .ok (.getfield 19, 3) := g_dec dt107_X11_runs_ok (k := 2) rfl
theorem dX11_runs_5 : decode cX11_runs 5 = .ok (.getfield 229, 3) := g_dec dt107_X11_runs_ok (k := 3) rfl
theorem dX11_runs_8 : decode cX11_runs 8 = .ok (.invokestatic 106, 3) := g_dec dt107_X11_runs_ok (k := 4) rfl
theorem dX11_runs_11 : decode cX11_runs 11 = .ok (.aload_n 0, 1) := g_dec dt107_X11_runs_ok (k := 5) rfl
theorem dX11_runs_12 : decode cX11_runs 12 = .ok (.getfield 19, 3) := g_dec dt107_X11_runs_ok (k := 6) rfl
theorem dX11_runs_15 : decode cX11_runs 15 = .ok (.iload_n 1, 1) := g_dec dt107_X11_runs_ok (k := 7) rfl
theorem dX11_runs_16 : decode cX11_runs 16 = .ok (.invokevirtual 237, 3) := g_dec dt107_X11_runs_ok (k := 8) rfl
theorem dX11_runs_19 : decode cX11_runs 19 = .ok (.getfield 342, 3) := g_dec dt107_X11_runs_ok (k := 9) rfl
theorem dX11_runs_22 : decode cX11_runs 22 = .ok (.ireturn, 1) := g_dec dt107_X11_runs_ok (k := 10) rfl
def dt108_X11_flaked : List (Nat × Instr × Nat) := [(0, (.iload_n 1, 1)), (1, (.aload_n 0, 1)), (2, (.getfield 19, 3)), (5, (.getfield 229, 3)), (8, (.invokestatic 106, 3)), (11, (.aload_n 0, 1)), (12, (.getfield 19, 3)), (15, (.iload_n 1, 1)), (16, (.invokevirtual 237, 3)), (19, (.getfield 264, 3)), (22, (.ireturn, 1))]
theorem dt108_X11_flaked_ok : ∀ q ∈ dt108_X11_flaked, decode cX11_flaked q.1 = .ok q.2 := by decide +kernel
theorem dX11_flaked_0 : decode cX11_flaked 0 = .ok (.iload_n 1, 1) := g_dec dt108_X11_flaked_ok (k := 0) rfl
theorem dX11_flaked_1 : decode cX11_flaked 1 = .ok (.aload_n 0, 1) := g_dec dt108_X11_flaked_ok (k := 1) rfl
theorem dX11_flaked_2 : decode cX11_flaked 2 = .ok (.getfield 19, 3) := g_dec dt108_X11_flaked_ok (k := 2) rfl
theorem dX11_flaked_5 : decode cX11_flaked 5 = .ok (.getfield 229, 3) := g_dec dt108_X11_flaked_ok (k := 3) rfl
theorem dX11_flaked_8 : decode cX11_flaked 8 = .ok (.invokestatic 106, 3) := g_dec dt108_X11_flaked_ok (k := 4) rfl
theorem dX11_flaked_11 : decode cX11_flaked 11 = .ok (.aload_n 0, 1) := g_dec dt108_X11_flaked_ok (k := 5) rfl
theorem dX11_flaked_12 : decode cX11_flaked 12 = .ok (.getfield 19, 3) := g_dec dt108_X11_flaked_ok (k := 6) rfl
theorem dX11_flaked_15 : decode cX11_flaked 15 = .ok (.iload_n 1, 1) := g_dec dt108_X11_flaked_ok (k := 7) rfl
theorem dX11_flaked_16 : decode cX11_flaked 16 = .ok (.invokevirtual 237, 3) := g_dec dt108_X11_flaked_ok (k := 8) rfl
theorem dX11_flaked_19 : decode cX11_flaked 19 = .ok (.getfield 264, 3) := g_dec dt108_X11_flaked_ok (k := 9) rfl
theorem dX11_flaked_22 : decode cX11_flaked 22 = .ok (.ireturn, 1) := g_dec dt108_X11_flaked_ok (k := 10) rfl
def dt109_X11_isQuarantined : List (Nat × Instr × Nat) := [(0, (.iload_n 1, 1)), (1, (.aload_n 0, 1)), (2, (.getfield 19, 3)), (5, (.getfield 229, 3)), (8, (.invokestatic 106, 3)), (11, (.aload_n 0, 1)), (12, (.getfield 19, 3)), (15, (.iload_n 1, 1)), (16, (.invokevirtual 237, 3)), (19, (.invokevirtual 261, 3)), (22, (.ireturn, 1))]
theorem dt109_X11_isQuarantined_ok : ∀ q ∈ dt109_X11_isQuarantined, decode cX11_isQuarantined q.1 = .ok q.2 := by decide +kernel
theorem dX11_isQuarantined_0 : decode cX11_isQuarantined 0 = .ok (.iload_n 1, 1) := g_dec dt109_X11_isQuarantined_ok (k := 0) rfl
theorem dX11_isQuarantined_1 : decode cX11_isQuarantined 1 = .ok (.aload_n 0, 1) := g_dec dt109_X11_isQuarantined_ok (k := 1) rfl
theorem dX11_isQuarantined_2 : decode cX11_isQuarantined 2 = .ok (.getfield 19, 3) := g_dec dt109_X11_isQuarantined_ok (k := 2) rfl
theorem dX11_isQuarantined_5 : decode cX11_isQuarantined 5 = .ok (.getfield 229, 3) := g_dec dt109_X11_isQuarantined_ok (k := 3) rfl
theorem dX11_isQuarantined_8 : decode cX11_isQuarantined 8 = .ok (.invokestatic 106, 3) := g_dec dt109_X11_isQuarantined_ok (k := 4) rfl
theorem dX11_isQuarantined_11 : decode cX11_isQuarantined 11 = .ok (.aload_n 0, 1) := g_dec dt109_X11_isQuarantined_ok (k := 5) rfl
theorem dX11_isQuarantined_12 : decode cX11_isQuarantined 12 = .ok (.getfield 19, 3) := g_dec dt109_X11_isQuarantined_ok (k := 6) rfl
theorem dX11_isQuarantined_15 : decode cX11_isQuarantined 15 = .ok (.iload_n 1, 1) := g_dec dt109_X11_isQuarantined_ok (k := 7) rfl
theorem dX11_isQuarantined_16 : decode cX11_isQuarantined 16 = .ok (.invokevirtual 237, 3) := g_dec dt109_X11_isQuarantined_ok (k := 8) rfl
theorem dX11_isQuarantined_19 : decode cX11_isQuarantined 19 = .ok (.invokevirtual 261, 3) := g_dec dt109_X11_isQuarantined_ok (k := 9) rfl
theorem dX11_isQuarantined_22 : decode cX11_isQuarantined 22 = .ok (.ireturn, 1) := g_dec dt109_X11_isQuarantined_ok (k := 10) rfl
def dt110_X11_blame : List (Nat × Instr × Nat) := [(0, (.iload_n 1, 1)), (1, (.bipush 8, 2)), (3, (.invokestatic 106, 3)), (6, (.aload_n 0, 1)), (7, (.getfield 99, 3)), (10, (.iload_n 1, 1)), (11, (.invokevirtual 187, 3)), (14, (.ireturn, 1))]
theorem dt110_X11_blame_ok : ∀ q ∈ dt110_X11_blame, decode cX11_blame q.1 = .ok q.2 := by decide +kernel
theorem dX11_blame_0 : decode cX11_blame 0 = .ok (.iload_n 1, 1) := g_dec dt110_X11_blame_ok (k := 0) rfl
theorem dX11_blame_1 : decode cX11_blame 1 = .ok (.bipush 8, 2) := g_dec dt110_X11_blame_ok (k := 1) rfl
theorem dX11_blame_3 : decode cX11_blame 3 = .ok (.invokestatic 106, 3) := g_dec dt110_X11_blame_ok (k := 2) rfl
theorem dX11_blame_6 : decode cX11_blame 6 = .ok (.aload_n 0, 1) := g_dec dt110_X11_blame_ok (k := 3) rfl
theorem dX11_blame_7 : decode cX11_blame 7 = .ok (.getfield 99, 3) := g_dec dt110_X11_blame_ok (k := 4) rfl
theorem dX11_blame_10 : decode cX11_blame 10 = .ok (.iload_n 1, 1) := g_dec dt110_X11_blame_ok (k := 5) rfl
theorem dX11_blame_11 : decode cX11_blame 11 = .ok (.invokevirtual 187, 3) := g_dec dt110_X11_blame_ok (k := 6) rfl
theorem dX11_blame_14 : decode cX11_blame 14 = .ok (.ireturn, 1) := g_dec dt110_X11_blame_ok (k := 7) rfl
def dt111_X11_running : List (Nat × Instr × Nat) := [(0, (.iload_n 1, 1)), (1, (.bipush 6, 2)), (3, (.invokestatic 106, 3)), (6, (.aload_n 0, 1)), (7, (.iload_n 1, 1)), (8, (.invokevirtual 273, 3)), (11, (.getfield 280, 3)), (14, (.ireturn, 1))]
theorem dt111_X11_running_ok : ∀ q ∈ dt111_X11_running, decode cX11_running q.1 = .ok q.2 := by decide +kernel
theorem dX11_running_0 : decode cX11_running 0 = .ok (.iload_n 1, 1) := g_dec dt111_X11_running_ok (k := 0) rfl
theorem dX11_running_1 : decode cX11_running 1 = .ok (.bipush 6, 2) := g_dec dt111_X11_running_ok (k := 1) rfl
theorem dX11_running_3 : decode cX11_running 3 = .ok (.invokestatic 106, 3) := g_dec dt111_X11_running_ok (k := 2) rfl
theorem dX11_running_6 : decode cX11_running 6 = .ok (.aload_n 0, 1) := g_dec dt111_X11_running_ok (k := 3) rfl
theorem dX11_running_7 : decode cX11_running 7 = .ok (.iload_n 1, 1) := g_dec dt111_X11_running_ok (k := 4) rfl
theorem dX11_running_8 : decode cX11_running 8 = .ok (.invokevirtual 273, 3) := g_dec dt111_X11_running_ok (k := 5) rfl
theorem dX11_running_11 : decode cX11_running 11 = .ok (.getfield 280, 3) := g_dec dt111_X11_running_ok (k := 6) rfl
theorem dX11_running_14 : decode cX11_running 14 = .ok (.ireturn, 1) := g_dec dt111_X11_running_ok (k := 7) rfl
def dt112_X11_use : List (Nat × Instr × Nat) := [(0, (.iload_n 1, 1)), (1, (.iconst 3, 1)), (2, (.invokestatic 106, 3)), (5, (.aload_n 0, 1)), (6, (.getfield 96, 3)), (9, (.iload_n 1, 1)), (10, (.invokevirtual 187, 3)), (13, (.ireturn, 1))]
theorem dt112_X11_use_ok : ∀ q ∈ dt112_X11_use, decode cX11_use q.1 = .ok q.2 := by decide +kernel
theorem dX11_use_0 : decode cX11_use 0 = .ok (.iload_n 1, 1) := g_dec dt112_X11_use_ok (k := 0) rfl
theorem dX11_use_1 : decode cX11_use 1 = .ok (.iconst 3, 1) := g_dec dt112_X11_use_ok (k := 1) rfl
theorem dX11_use_2 : decode cX11_use 2 = .ok (.invokestatic 106, 3) := g_dec dt112_X11_use_ok (k := 2) rfl
theorem dX11_use_5 : decode cX11_use 5 = .ok (.aload_n 0, 1) := g_dec dt112_X11_use_ok (k := 3) rfl
theorem dX11_use_6 : decode cX11_use 6 = .ok (.getfield 96, 3) := g_dec dt112_X11_use_ok (k := 4) rfl
theorem dX11_use_9 : decode cX11_use 9 = .ok (.iload_n 1, 1) := g_dec dt112_X11_use_ok (k := 5) rfl
theorem dX11_use_10 : decode cX11_use 10 = .ok (.invokevirtual 187, 3) := g_dec dt112_X11_use_ok (k := 6) rfl
theorem dX11_use_13 : decode cX11_use 13 = .ok (.ireturn, 1) := g_dec dt112_X11_use_ok (k := 7) rfl
def dt113_X11_fullFailed : List (Nat × Instr × Nat) := [(0, (.aload_n 0, 1)), (1, (.getfield 102, 3)), (4, (.ireturn, 1))]
theorem dt113_X11_fullFailed_ok : ∀ q ∈ dt113_X11_fullFailed, decode cX11_fullFailed q.1 = .ok q.2 := by decide +kernel
theorem dX11_fullFailed_0 : decode cX11_fullFailed 0 = .ok (.aload_n 0, 1) := g_dec dt113_X11_fullFailed_ok (k := 0) rfl
theorem dX11_fullFailed_1 : decode cX11_fullFailed 1 = .ok (.getfield 102, 3) := g_dec dt113_X11_fullFailed_ok (k := 1) rfl
theorem dX11_fullFailed_4 : decode cX11_fullFailed 4 = .ok (.ireturn, 1) := g_dec dt113_X11_fullFailed_ok (k := 2) rfl
def dt114_X11_landFirstBatch : List (Nat × Instr × Nat) := [(17, (.iload_n 2, 1)), (18, (.iload_n 1, 1)), (19, (.if_icmp .ge 44, 3)), (63, (.aload_n 0, 1)), (64, (.dup, 1)), (65, (.getfield 289, 3)), (68, (.iload_n 1, 1)), (69, (.iadd, 1)), (70, (.putfield 289, 3)), (73, (.aload_n 0, 1)), (74, (.getfield 76, 3)), (77, (.aload_n 0, 1)), (78, (.getfield 33, 3)), (81, (.getfield 434, 3)), (84, (.iconst 0, 1)), (85, (.invokevirtual 218, 3)), (88, (.invokevirtual 80, 3)), (91, (.aload_n 0, 1)), (92, (.invokevirtual 230, 3)), (95, (.iconst 1, 1)), (96, (.ireturn, 1)), (22, (.aload_n 0, 1)), (23, (.getfield 10, 3)), (26, (.aload_n 0, 1)), (27, (.getfield 33, 3)), (30, (.getfield 422, 3)), (33, (.iload_n 2, 1)), (34, (.invokevirtual 187, 3)), (37, (.invokevirtual 113, 3)), (40, (.astore_n 3, 1)), (41, (.aload_n 3, 1)), (42, (.iconst 2, 1)), (43, (.putfield 172, 3)), (46, (.aload_n 3, 1)), (47, (.aload_n 0, 1)), (48, (.getfield 76, 3)), (51, (.getfield 217, 3)), (54, (.putfield 335, 3)), (57, (.iinc 2 1, 3)), (60, (.goto (-43), 3)), (0, (.aload_n 0, 1)), (1, (.getfield 33, 3)), (4, (.iconst 0, 1)), (5, (.invokevirtual 431, 3)), (8, (.istore_n 1, 1)), (9, (.iload_n 1, 1)), (10, (.ifCond .ne 5, 3)), (15, (.iconst 0, 1)), (16, (.istore_n 2, 1)), (13, (.iconst 0, 1)), (14, (.ireturn, 1))]
theorem dt114_X11_landFirstBatch_ok : ∀ q ∈ dt114_X11_landFirstBatch, decode cX11_landFirstBatch q.1 = .ok q.2 := by decide +kernel
theorem dX11_landFirstBatch_17 : decode cX11_landFirstBatch 17 = .ok (.iload_n 2, 1) := g_dec dt114_X11_landFirstBatch_ok (k := 0) rfl
theorem dX11_landFirstBatch_18 : decode cX11_landFirstBatch 18 = .ok (.iload_n 1, 1) := g_dec dt114_X11_landFirstBatch_ok (k := 1) rfl
theorem dX11_landFirstBatch_19 : decode cX11_landFirstBatch 19 = .ok (.if_icmp .ge 44, 3) := g_dec dt114_X11_landFirstBatch_ok (k := 2) rfl
theorem dX11_landFirstBatch_63 : decode cX11_landFirstBatch 63 = .ok (.aload_n 0, 1) := g_dec dt114_X11_landFirstBatch_ok (k := 3) rfl
theorem dX11_landFirstBatch_64 : decode cX11_landFirstBatch 64 = .ok (.dup, 1) := g_dec dt114_X11_landFirstBatch_ok (k := 4) rfl
theorem dX11_landFirstBatch_65 : decode cX11_landFirstBatch 65 = .ok (.getfield 289, 3) := g_dec dt114_X11_landFirstBatch_ok (k := 5) rfl
theorem dX11_landFirstBatch_68 : decode cX11_landFirstBatch 68 = .ok (.iload_n 1, 1) := g_dec dt114_X11_landFirstBatch_ok (k := 6) rfl
theorem dX11_landFirstBatch_69 : decode cX11_landFirstBatch 69 = .ok (.iadd, 1) := g_dec dt114_X11_landFirstBatch_ok (k := 7) rfl
theorem dX11_landFirstBatch_70 : decode cX11_landFirstBatch 70 = .ok (.putfield 289, 3) := g_dec dt114_X11_landFirstBatch_ok (k := 8) rfl
theorem dX11_landFirstBatch_73 : decode cX11_landFirstBatch 73 = .ok (.aload_n 0, 1) := g_dec dt114_X11_landFirstBatch_ok (k := 9) rfl
theorem dX11_landFirstBatch_74 : decode cX11_landFirstBatch 74 = .ok (.getfield 76, 3) := g_dec dt114_X11_landFirstBatch_ok (k := 10) rfl
theorem dX11_landFirstBatch_77 : decode cX11_landFirstBatch 77 = .ok (.aload_n 0, 1) := g_dec dt114_X11_landFirstBatch_ok (k := 11) rfl
theorem dX11_landFirstBatch_78 : decode cX11_landFirstBatch 78 = .ok (.getfield 33, 3) := g_dec dt114_X11_landFirstBatch_ok (k := 12) rfl
theorem dX11_landFirstBatch_81 : decode cX11_landFirstBatch 81 = .ok (.getfield 434, 3) := g_dec dt114_X11_landFirstBatch_ok (k := 13) rfl
theorem dX11_landFirstBatch_84 : decode cX11_landFirstBatch 84 = .ok (.iconst 0, 1) := g_dec dt114_X11_landFirstBatch_ok (k := 14) rfl
theorem dX11_landFirstBatch_85 : decode cX11_landFirstBatch 85 = .ok (.invokevirtual 218, 3) := g_dec dt114_X11_landFirstBatch_ok (k := 15) rfl
theorem dX11_landFirstBatch_88 : decode cX11_landFirstBatch 88 = .ok (.invokevirtual 80, 3) := g_dec dt114_X11_landFirstBatch_ok (k := 16) rfl
theorem dX11_landFirstBatch_91 : decode cX11_landFirstBatch 91 = .ok (.aload_n 0, 1) := g_dec dt114_X11_landFirstBatch_ok (k := 17) rfl
theorem dX11_landFirstBatch_92 : decode cX11_landFirstBatch 92 = .ok (.invokevirtual 230, 3) := g_dec dt114_X11_landFirstBatch_ok (k := 18) rfl
theorem dX11_landFirstBatch_95 : decode cX11_landFirstBatch 95 = .ok (.iconst 1, 1) := g_dec dt114_X11_landFirstBatch_ok (k := 19) rfl
theorem dX11_landFirstBatch_96 : decode cX11_landFirstBatch 96 = .ok (.ireturn, 1) := g_dec dt114_X11_landFirstBatch_ok (k := 20) rfl
theorem dX11_landFirstBatch_22 : decode cX11_landFirstBatch 22 = .ok (.aload_n 0, 1) := g_dec dt114_X11_landFirstBatch_ok (k := 21) rfl
theorem dX11_landFirstBatch_23 : decode cX11_landFirstBatch 23 = .ok (.getfield 10, 3) := g_dec dt114_X11_landFirstBatch_ok (k := 22) rfl
theorem dX11_landFirstBatch_26 : decode cX11_landFirstBatch 26 = .ok (.aload_n 0, 1) := g_dec dt114_X11_landFirstBatch_ok (k := 23) rfl
theorem dX11_landFirstBatch_27 : decode cX11_landFirstBatch 27 = .ok (.getfield 33, 3) := g_dec dt114_X11_landFirstBatch_ok (k := 24) rfl
theorem dX11_landFirstBatch_30 : decode cX11_landFirstBatch 30 = .ok (.getfield 422, 3) := g_dec dt114_X11_landFirstBatch_ok (k := 25) rfl
theorem dX11_landFirstBatch_33 : decode cX11_landFirstBatch 33 = .ok (.iload_n 2, 1) := g_dec dt114_X11_landFirstBatch_ok (k := 26) rfl
theorem dX11_landFirstBatch_34 : decode cX11_landFirstBatch 34 = .ok (.invokevirtual 187, 3) := g_dec dt114_X11_landFirstBatch_ok (k := 27) rfl
theorem dX11_landFirstBatch_37 : decode cX11_landFirstBatch 37 = .ok (.invokevirtual 113, 3) := g_dec dt114_X11_landFirstBatch_ok (k := 28) rfl
theorem dX11_landFirstBatch_40 : decode cX11_landFirstBatch 40 = .ok (.astore_n 3, 1) := g_dec dt114_X11_landFirstBatch_ok (k := 29) rfl
theorem dX11_landFirstBatch_41 : decode cX11_landFirstBatch 41 = .ok (.aload_n 3, 1) := g_dec dt114_X11_landFirstBatch_ok (k := 30) rfl
theorem dX11_landFirstBatch_42 : decode cX11_landFirstBatch 42 = .ok (.iconst 2, 1) := g_dec dt114_X11_landFirstBatch_ok (k := 31) rfl
theorem dX11_landFirstBatch_43 : decode cX11_landFirstBatch 43 = .ok (.putfield 172, 3) := g_dec dt114_X11_landFirstBatch_ok (k := 32) rfl
theorem dX11_landFirstBatch_46 : decode cX11_landFirstBatch 46 = .ok (.aload_n 3, 1) := g_dec dt114_X11_landFirstBatch_ok (k := 33) rfl
theorem dX11_landFirstBatch_47 : decode cX11_landFirstBatch 47 = .ok (.aload_n 0, 1) := g_dec dt114_X11_landFirstBatch_ok (k := 34) rfl
theorem dX11_landFirstBatch_48 : decode cX11_landFirstBatch 48 = .ok (.getfield 76, 3) := g_dec dt114_X11_landFirstBatch_ok (k := 35) rfl
theorem dX11_landFirstBatch_51 : decode cX11_landFirstBatch 51 = .ok (.getfield 217, 3) := g_dec dt114_X11_landFirstBatch_ok (k := 36) rfl
theorem dX11_landFirstBatch_54 : decode cX11_landFirstBatch 54 = .ok (.putfield 335, 3) := g_dec dt114_X11_landFirstBatch_ok (k := 37) rfl
theorem dX11_landFirstBatch_57 : decode cX11_landFirstBatch 57 = .ok (.iinc 2 1, 3) := g_dec dt114_X11_landFirstBatch_ok (k := 38) rfl
theorem dX11_landFirstBatch_60 : decode cX11_landFirstBatch 60 = .ok (.goto (-43), 3) := g_dec dt114_X11_landFirstBatch_ok (k := 39) rfl
theorem dX11_landFirstBatch_0 : decode cX11_landFirstBatch 0 = .ok (.aload_n 0, 1) := g_dec dt114_X11_landFirstBatch_ok (k := 40) rfl
theorem dX11_landFirstBatch_1 : decode cX11_landFirstBatch 1 = .ok (.getfield 33, 3) := g_dec dt114_X11_landFirstBatch_ok (k := 41) rfl
theorem dX11_landFirstBatch_4 : decode cX11_landFirstBatch 4 = .ok (.iconst 0, 1) := g_dec dt114_X11_landFirstBatch_ok (k := 42) rfl
theorem dX11_landFirstBatch_5 : decode cX11_landFirstBatch 5 = .ok (.invokevirtual 431, 3) := g_dec dt114_X11_landFirstBatch_ok (k := 43) rfl
theorem dX11_landFirstBatch_8 : decode cX11_landFirstBatch 8 = .ok (.istore_n 1, 1) := g_dec dt114_X11_landFirstBatch_ok (k := 44) rfl
theorem dX11_landFirstBatch_9 : decode cX11_landFirstBatch 9 = .ok (.iload_n 1, 1) := g_dec dt114_X11_landFirstBatch_ok (k := 45) rfl
theorem dX11_landFirstBatch_10 : decode cX11_landFirstBatch 10 = .ok (.ifCond .ne 5, 3) := g_dec dt114_X11_landFirstBatch_ok (k := 46) rfl
theorem dX11_landFirstBatch_15 : decode cX11_landFirstBatch 15 = .ok (.iconst 0, 1) := g_dec dt114_X11_landFirstBatch_ok (k := 47) rfl
theorem dX11_landFirstBatch_16 : decode cX11_landFirstBatch 16 = .ok (.istore_n 2, 1) := g_dec dt114_X11_landFirstBatch_ok (k := 48) rfl
theorem dX11_landFirstBatch_13 : decode cX11_landFirstBatch 13 = .ok (.iconst 0, 1) := g_dec dt114_X11_landFirstBatch_ok (k := 49) rfl
theorem dX11_landFirstBatch_14 : decode cX11_landFirstBatch 14 = .ok (.ireturn, 1) := g_dec dt114_X11_landFirstBatch_ok (k := 50) rfl
def dt115_X11_decideOnce : List (Nat × Instr × Nat) := [(156, (.iconst 0, 1)), (157, (.ireturn, 1)), (0, (.aload_n 0, 1)), (1, (.invokevirtual 204, 3)), (4, (.aload_n 0, 1)), (5, (.getfield 33, 3)), (8, (.getfield 207, 3)), (11, (.getfield 217, 3)), (14, (.ifCond .ne 5, 3)), (19, (.aload_n 0, 1)), (20, (.getfield 10, 3)), (23, (.aload_n 0, 1)), (24, (.getfield 33, 3)), (27, (.getfield 207, 3)), (30, (.iconst 0, 1)), (31, (.invokevirtual 187, 3)), (34, (.invokevirtual 113, 3)), (37, (.astore_n 1, 1)), (38, (.aload_n 1, 1)), (39, (.aload_n 0, 1)), (40, (.invokevirtual 156, 3)), (43, (.invokevirtual 321, 3)), (46, (.ifCond .ne 12, 3)), (58, (.aload_n 0, 1)), (59, (.invokevirtual 305, 3)), (62, (.aload_n 0, 1)), (63, (.getfield 40, 3)), (66, (.getfield 416, 3)), (69, (.iconst 1, 1)), (70, (.if_icmp .ne 8, 3)), (78, (.aload_n 0, 1)), (79, (.getfield 40, 3)), (82, (.invokevirtual 308, 3)), (85, (.ifCond .eq 71, 3)), (88, (.aload_n 0, 1)), (89, (.invokevirtual 311, 3)), (92, (.iconst 1, 1)), (93, (.if_icmp .ne 63, 3)), (96, (.aload_n 0, 1)), (97, (.getfield 10, 3)), (100, (.aload_n 0, 1)), (101, (.getfield 33, 3)), (104, (.getfield 422, 3)), (107, (.aload_n 0, 1)), (108, (.getfield 40, 3)), (111, (.getfield 425, 3)), (114, (.iconst 1, 1)), (115, (.isub, 1)), (116, (.invokevirtual 187, 3)), (119, (.invokevirtual 113, 3)), (122, (.astore_n 2, 1)), (123, (.aload_n 0, 1)), (124, (.getfield 99, 3)), (127, (.aload_n 2, 1)), (128, (.getfield 428, 3)), (131, (.aload_n 0, 1)), (132, (.getfield 99, 3)), (135, (.aload_n 2, 1)), (136, (.getfield 428, 3)), (139, (.invokevirtual 218, 3))]
theorem dt115_X11_decideOnce_ok : ∀ q ∈ dt115_X11_decideOnce, decode cX11_decideOnce q.1 = .ok q.2 := by decide +kernel
theorem dX11_decideOnce_156 : decode cX11_decideOnce 156 = .ok (.iconst 0, 1) := g_dec dt115_X11_decideOnce_ok (k := 0) rfl
theorem dX11_decideOnce_157 : decode cX11_decideOnce 157 = .ok (.ireturn, 1) := g_dec dt115_X11_decideOnce_ok (k := 1) rfl
theorem dX11_decideOnce_0 : decode cX11_decideOnce 0 = .ok (.aload_n 0, 1) := g_dec dt115_X11_decideOnce_ok (k := 2) rfl
theorem dX11_decideOnce_1 : decode cX11_decideOnce 1 = .ok (.invokevirtual 204, 3) := g_dec dt115_X11_decideOnce_ok (k := 3) rfl
theorem dX11_decideOnce_4 : decode cX11_decideOnce 4 = .ok (.aload_n 0, 1) := g_dec dt115_X11_decideOnce_ok (k := 4) rfl
theorem dX11_decideOnce_5 : decode cX11_decideOnce 5 = .ok (.getfield 33, 3) := g_dec dt115_X11_decideOnce_ok (k := 5) rfl
theorem dX11_decideOnce_8 : decode cX11_decideOnce 8 = .ok (.getfield 207, 3) := g_dec dt115_X11_decideOnce_ok (k := 6) rfl
theorem dX11_decideOnce_11 : decode cX11_decideOnce 11 = .ok (.getfield 217, 3) := g_dec dt115_X11_decideOnce_ok (k := 7) rfl
theorem dX11_decideOnce_14 : decode cX11_decideOnce 14 = .ok (.ifCond .ne 5, 3) := g_dec dt115_X11_decideOnce_ok (k := 8) rfl
theorem dX11_decideOnce_19 : decode cX11_decideOnce 19 = .ok (.aload_n 0, 1) := g_dec dt115_X11_decideOnce_ok (k := 9) rfl
theorem dX11_decideOnce_20 : decode cX11_decideOnce 20 = .ok (.getfield 10, 3) := g_dec dt115_X11_decideOnce_ok (k := 10) rfl
theorem dX11_decideOnce_23 : decode cX11_decideOnce 23 = .ok (.aload_n 0, 1) := g_dec dt115_X11_decideOnce_ok (k := 11) rfl
theorem dX11_decideOnce_24 : decode cX11_decideOnce 24 = .ok (.getfield 33, 3) := g_dec dt115_X11_decideOnce_ok (k := 12) rfl
theorem dX11_decideOnce_27 : decode cX11_decideOnce 27 = .ok (.getfield 207, 3) := g_dec dt115_X11_decideOnce_ok (k := 13) rfl
theorem dX11_decideOnce_30 : decode cX11_decideOnce 30 = .ok (.iconst 0, 1) := g_dec dt115_X11_decideOnce_ok (k := 14) rfl
theorem dX11_decideOnce_31 : decode cX11_decideOnce 31 = .ok (.invokevirtual 187, 3) := g_dec dt115_X11_decideOnce_ok (k := 15) rfl
theorem dX11_decideOnce_34 : decode cX11_decideOnce 34 = .ok (.invokevirtual 113, 3) := g_dec dt115_X11_decideOnce_ok (k := 16) rfl
theorem dX11_decideOnce_37 : decode cX11_decideOnce 37 = .ok (.astore_n 1, 1) := g_dec dt115_X11_decideOnce_ok (k := 17) rfl
theorem dX11_decideOnce_38 : decode cX11_decideOnce 38 = .ok (.aload_n 1, 1) := g_dec dt115_X11_decideOnce_ok (k := 18) rfl
theorem dX11_decideOnce_39 : decode cX11_decideOnce 39 = .ok (.aload_n 0, 1) := g_dec dt115_X11_decideOnce_ok (k := 19) rfl
theorem dX11_decideOnce_40 : decode cX11_decideOnce 40 = .ok (.invokevirtual 156, 3) := g_dec dt115_X11_decideOnce_ok (k := 20) rfl
theorem dX11_decideOnce_43 : decode cX11_decideOnce 43 = .ok (.invokevirtual 321, 3) := g_dec dt115_X11_decideOnce_ok (k := 21) rfl
theorem dX11_decideOnce_46 : decode cX11_decideOnce 46 = .ok (.ifCond .ne 12, 3) := g_dec dt115_X11_decideOnce_ok (k := 22) rfl
theorem dX11_decideOnce_58 : decode cX11_decideOnce 58 = .ok (.aload_n 0, 1) := g_dec dt115_X11_decideOnce_ok (k := 23) rfl
theorem dX11_decideOnce_59 : decode cX11_decideOnce 59 = .ok (.invokevirtual 305, 3) := g_dec dt115_X11_decideOnce_ok (k := 24) rfl
theorem dX11_decideOnce_62 : decode cX11_decideOnce 62 = .ok (.aload_n 0, 1) := g_dec dt115_X11_decideOnce_ok (k := 25) rfl
theorem dX11_decideOnce_63 : decode cX11_decideOnce 63 = .ok (.getfield 40, 3) := g_dec dt115_X11_decideOnce_ok (k := 26) rfl
theorem dX11_decideOnce_66 : decode cX11_decideOnce 66 = .ok (.getfield 416, 3) := g_dec dt115_X11_decideOnce_ok (k := 27) rfl
theorem dX11_decideOnce_69 : decode cX11_decideOnce 69 = .ok (.iconst 1, 1) := g_dec dt115_X11_decideOnce_ok (k := 28) rfl
theorem dX11_decideOnce_70 : decode cX11_decideOnce 70 = .ok (.if_icmp .ne 8, 3) := g_dec dt115_X11_decideOnce_ok (k := 29) rfl
theorem dX11_decideOnce_78 : decode cX11_decideOnce 78 = .ok (.aload_n 0, 1) := g_dec dt115_X11_decideOnce_ok (k := 30) rfl
theorem dX11_decideOnce_79 : decode cX11_decideOnce 79 = .ok (.getfield 40, 3) := g_dec dt115_X11_decideOnce_ok (k := 31) rfl
theorem dX11_decideOnce_82 : decode cX11_decideOnce 82 = .ok (.invokevirtual 308, 3) := g_dec dt115_X11_decideOnce_ok (k := 32) rfl
theorem dX11_decideOnce_85 : decode cX11_decideOnce 85 = .ok (.ifCond .eq 71, 3) := g_dec dt115_X11_decideOnce_ok (k := 33) rfl
theorem dX11_decideOnce_88 : decode cX11_decideOnce 88 = .ok (.aload_n 0, 1) := g_dec dt115_X11_decideOnce_ok (k := 34) rfl
theorem dX11_decideOnce_89 : decode cX11_decideOnce 89 = .ok (.invokevirtual 311, 3) := g_dec dt115_X11_decideOnce_ok (k := 35) rfl
theorem dX11_decideOnce_92 : decode cX11_decideOnce 92 = .ok (.iconst 1, 1) := g_dec dt115_X11_decideOnce_ok (k := 36) rfl
theorem dX11_decideOnce_93 : decode cX11_decideOnce 93 = .ok (.if_icmp .ne 63, 3) := g_dec dt115_X11_decideOnce_ok (k := 37) rfl
theorem dX11_decideOnce_96 : decode cX11_decideOnce 96 = .ok (.aload_n 0, 1) := g_dec dt115_X11_decideOnce_ok (k := 38) rfl
theorem dX11_decideOnce_97 : decode cX11_decideOnce 97 = .ok (.getfield 10, 3) := g_dec dt115_X11_decideOnce_ok (k := 39) rfl
theorem dX11_decideOnce_100 : decode cX11_decideOnce 100 = .ok (.aload_n 0, 1) := g_dec dt115_X11_decideOnce_ok (k := 40) rfl
theorem dX11_decideOnce_101 : decode cX11_decideOnce 101 = .ok (.getfield 33, 3) := g_dec dt115_X11_decideOnce_ok (k := 41) rfl
theorem dX11_decideOnce_104 : decode cX11_decideOnce 104 = .ok (.getfield 422, 3) := g_dec dt115_X11_decideOnce_ok (k := 42) rfl
theorem dX11_decideOnce_107 : decode cX11_decideOnce 107 = .ok (.aload_n 0, 1) := g_dec dt115_X11_decideOnce_ok (k := 43) rfl
theorem dX11_decideOnce_108 : decode cX11_decideOnce 108 = .ok (.getfield 40, 3) := g_dec dt115_X11_decideOnce_ok (k := 44) rfl
theorem dX11_decideOnce_111 : decode cX11_decideOnce 111 = .ok (.getfield 425, 3) := g_dec dt115_X11_decideOnce_ok (k := 45) rfl
theorem dX11_decideOnce_114 : decode cX11_decideOnce 114 = .ok (.iconst 1, 1) := g_dec dt115_X11_decideOnce_ok (k := 46) rfl
theorem dX11_decideOnce_115 : decode cX11_decideOnce 115 = .ok (.isub, 1) := g_dec dt115_X11_decideOnce_ok (k := 47) rfl
theorem dX11_decideOnce_116 : decode cX11_decideOnce 116 = .ok (.invokevirtual 187, 3) := g_dec dt115_X11_decideOnce_ok (k := 48) rfl
theorem dX11_decideOnce_119 : decode cX11_decideOnce 119 = .ok (.invokevirtual 113, 3) := g_dec dt115_X11_decideOnce_ok (k := 49) rfl
theorem dX11_decideOnce_122 : decode cX11_decideOnce 122 = .ok (.astore_n 2, 1) := g_dec dt115_X11_decideOnce_ok (k := 50) rfl
theorem dX11_decideOnce_123 : decode cX11_decideOnce 123 = .ok (.aload_n 0, 1) := g_dec dt115_X11_decideOnce_ok (k := 51) rfl
theorem dX11_decideOnce_124 : decode cX11_decideOnce 124 = .ok (.getfield 99, 3) := g_dec dt115_X11_decideOnce_ok (k := 52) rfl
theorem dX11_decideOnce_127 : decode cX11_decideOnce 127 = .ok (.aload_n 2, 1) := g_dec dt115_X11_decideOnce_ok (k := 53) rfl
theorem dX11_decideOnce_128 : decode cX11_decideOnce 128 = .ok (.getfield 428, 3) := g_dec dt115_X11_decideOnce_ok (k := 54) rfl
theorem dX11_decideOnce_131 : decode cX11_decideOnce 131 = .ok (.aload_n 0, 1) := g_dec dt115_X11_decideOnce_ok (k := 55) rfl
theorem dX11_decideOnce_132 : decode cX11_decideOnce 132 = .ok (.getfield 99, 3) := g_dec dt115_X11_decideOnce_ok (k := 56) rfl
theorem dX11_decideOnce_135 : decode cX11_decideOnce 135 = .ok (.aload_n 2, 1) := g_dec dt115_X11_decideOnce_ok (k := 57) rfl
theorem dX11_decideOnce_136 : decode cX11_decideOnce 136 = .ok (.getfield 428, 3) := g_dec dt115_X11_decideOnce_ok (k := 58) rfl
theorem dX11_decideOnce_139 : decode cX11_decideOnce 139 = .ok (.invokevirtual 218, 3) := g_dec dt115_X11_decideOnce_ok (k := 59) rfl
def dt116_X11_decideOnce : List (Nat × Instr × Nat) := [(142, (.lconst 1, 1)), (143, (.ladd, 1)), (144, (.invokevirtual 190, 3)), (147, (.aload_n 0, 1)), (148, (.aload_n 2, 1)), (149, (.iconst 3, 1)), (150, (.invokevirtual 213, 3)), (153, (.pop, 1)), (154, (.iconst 1, 1)), (155, (.ireturn, 1)), (73, (.aload_n 0, 1)), (74, (.invokevirtual 419, 3)), (77, (.ireturn, 1)), (49, (.aload_n 0, 1)), (50, (.aload_n 1, 1)), (51, (.iconst 4, 1)), (52, (.invokevirtual 213, 3)), (55, (.pop, 1)), (56, (.iconst 1, 1)), (57, (.ireturn, 1)), (17, (.iconst 0, 1)), (18, (.ireturn, 1))]
theorem dt116_X11_decideOnce_ok : ∀ q ∈ dt116_X11_decideOnce, decode cX11_decideOnce q.1 = .ok q.2 := by decide +kernel
theorem dX11_decideOnce_142 : decode cX11_decideOnce 142 = .ok (.lconst 1, 1) := g_dec dt116_X11_decideOnce_ok (k := 0) rfl
theorem dX11_decideOnce_143 : decode cX11_decideOnce 143 = .ok (.ladd, 1) := g_dec dt116_X11_decideOnce_ok (k := 1) rfl
theorem dX11_decideOnce_144 : decode cX11_decideOnce 144 = .ok (.invokevirtual 190, 3) := g_dec dt116_X11_decideOnce_ok (k := 2) rfl
theorem dX11_decideOnce_147 : decode cX11_decideOnce 147 = .ok (.aload_n 0, 1) := g_dec dt116_X11_decideOnce_ok (k := 3) rfl
theorem dX11_decideOnce_148 : decode cX11_decideOnce 148 = .ok (.aload_n 2, 1) := g_dec dt116_X11_decideOnce_ok (k := 4) rfl
theorem dX11_decideOnce_149 : decode cX11_decideOnce 149 = .ok (.iconst 3, 1) := g_dec dt116_X11_decideOnce_ok (k := 5) rfl
theorem dX11_decideOnce_150 : decode cX11_decideOnce 150 = .ok (.invokevirtual 213, 3) := g_dec dt116_X11_decideOnce_ok (k := 6) rfl
theorem dX11_decideOnce_153 : decode cX11_decideOnce 153 = .ok (.pop, 1) := g_dec dt116_X11_decideOnce_ok (k := 7) rfl
theorem dX11_decideOnce_154 : decode cX11_decideOnce 154 = .ok (.iconst 1, 1) := g_dec dt116_X11_decideOnce_ok (k := 8) rfl
theorem dX11_decideOnce_155 : decode cX11_decideOnce 155 = .ok (.ireturn, 1) := g_dec dt116_X11_decideOnce_ok (k := 9) rfl
theorem dX11_decideOnce_73 : decode cX11_decideOnce 73 = .ok (.aload_n 0, 1) := g_dec dt116_X11_decideOnce_ok (k := 10) rfl
theorem dX11_decideOnce_74 : decode cX11_decideOnce 74 = .ok (.invokevirtual 419, 3) := g_dec dt116_X11_decideOnce_ok (k := 11) rfl
theorem dX11_decideOnce_77 : decode cX11_decideOnce 77 = .ok (.ireturn, 1) := g_dec dt116_X11_decideOnce_ok (k := 12) rfl
theorem dX11_decideOnce_49 : decode cX11_decideOnce 49 = .ok (.aload_n 0, 1) := g_dec dt116_X11_decideOnce_ok (k := 13) rfl
theorem dX11_decideOnce_50 : decode cX11_decideOnce 50 = .ok (.aload_n 1, 1) := g_dec dt116_X11_decideOnce_ok (k := 14) rfl
theorem dX11_decideOnce_51 : decode cX11_decideOnce 51 = .ok (.iconst 4, 1) := g_dec dt116_X11_decideOnce_ok (k := 15) rfl
theorem dX11_decideOnce_52 : decode cX11_decideOnce 52 = .ok (.invokevirtual 213, 3) := g_dec dt116_X11_decideOnce_ok (k := 16) rfl
theorem dX11_decideOnce_55 : decode cX11_decideOnce 55 = .ok (.pop, 1) := g_dec dt116_X11_decideOnce_ok (k := 17) rfl
theorem dX11_decideOnce_56 : decode cX11_decideOnce 56 = .ok (.iconst 1, 1) := g_dec dt116_X11_decideOnce_ok (k := 18) rfl
theorem dX11_decideOnce_57 : decode cX11_decideOnce 57 = .ok (.ireturn, 1) := g_dec dt116_X11_decideOnce_ok (k := 19) rfl
theorem dX11_decideOnce_17 : decode cX11_decideOnce 17 = .ok (.iconst 0, 1) := g_dec dt116_X11_decideOnce_ok (k := 20) rfl
theorem dX11_decideOnce_18 : decode cX11_decideOnce 18 = .ok (.ireturn, 1) := g_dec dt116_X11_decideOnce_ok (k := 21) rfl
def dt117_X11_endFullRun : List (Nat × Instr × Nat) := [(56, (.iinc 2 1, 3)), (59, (.goto (-47), 3)), (12, (.iload_n 2, 1)), (13, (.aload_n 0, 1)), (14, (.getfield 19, 3)), (17, (.getfield 229, 3)), (20, (.if_icmp .ge 42, 3)), (62, (.aload_n 0, 1)), (63, (.iload_n 1, 1)), (64, (.putfield 102, 3)), (67, (.aload_n 0, 1)), (68, (.iconst 0, 1)), (69, (.putfield 286, 3)), (72, (.return_, 1)), (23, (.aload_n 0, 1)), (24, (.getfield 26, 3)), (27, (.aload_n 0, 1)), (28, (.getfield 19, 3)), (31, (.iload_n 2, 1)), (32, (.invokevirtual 237, 3)), (35, (.aload_n 0, 1)), (36, (.invokevirtual 156, 3)), (39, (.invokevirtual 338, 3)), (42, (.istore_n 3, 1)), (43, (.iload_n 3, 1)), (44, (.ifCond .ne 4, 3)), (48, (.iload_n 3, 1)), (49, (.iconst 2, 1)), (50, (.if_icmp .ne 6, 3)), (53, (.iinc 1 1, 3)), (47, (.return_, 1)), (0, (.aload_n 0, 1)), (1, (.getfield 286, 3)), (4, (.ifCond .ne 4, 3)), (8, (.iconst 0, 1)), (9, (.istore_n 1, 1)), (10, (.iconst 0, 1)), (11, (.istore_n 2, 1)), (7, (.return_, 1))]
theorem dt117_X11_endFullRun_ok : ∀ q ∈ dt117_X11_endFullRun, decode cX11_endFullRun q.1 = .ok q.2 := by decide +kernel
theorem dX11_endFullRun_56 : decode cX11_endFullRun 56 = .ok (.iinc 2 1, 3) := g_dec dt117_X11_endFullRun_ok (k := 0) rfl
theorem dX11_endFullRun_59 : decode cX11_endFullRun 59 = .ok (.goto (-47), 3) := g_dec dt117_X11_endFullRun_ok (k := 1) rfl
theorem dX11_endFullRun_12 : decode cX11_endFullRun 12 = .ok (.iload_n 2, 1) := g_dec dt117_X11_endFullRun_ok (k := 2) rfl
theorem dX11_endFullRun_13 : decode cX11_endFullRun 13 = .ok (.aload_n 0, 1) := g_dec dt117_X11_endFullRun_ok (k := 3) rfl
theorem dX11_endFullRun_14 : decode cX11_endFullRun 14 = .ok (.getfield 19, 3) := g_dec dt117_X11_endFullRun_ok (k := 4) rfl
theorem dX11_endFullRun_17 : decode cX11_endFullRun 17 = .ok (.getfield 229, 3) := g_dec dt117_X11_endFullRun_ok (k := 5) rfl
theorem dX11_endFullRun_20 : decode cX11_endFullRun 20 = .ok (.if_icmp .ge 42, 3) := g_dec dt117_X11_endFullRun_ok (k := 6) rfl
theorem dX11_endFullRun_62 : decode cX11_endFullRun 62 = .ok (.aload_n 0, 1) := g_dec dt117_X11_endFullRun_ok (k := 7) rfl
theorem dX11_endFullRun_63 : decode cX11_endFullRun 63 = .ok (.iload_n 1, 1) := g_dec dt117_X11_endFullRun_ok (k := 8) rfl
theorem dX11_endFullRun_64 : decode cX11_endFullRun 64 = .ok (.putfield 102, 3) := g_dec dt117_X11_endFullRun_ok (k := 9) rfl
theorem dX11_endFullRun_67 : decode cX11_endFullRun 67 = .ok (.aload_n 0, 1) := g_dec dt117_X11_endFullRun_ok (k := 10) rfl
theorem dX11_endFullRun_68 : decode cX11_endFullRun 68 = .ok (.iconst 0, 1) := g_dec dt117_X11_endFullRun_ok (k := 11) rfl
theorem dX11_endFullRun_69 : decode cX11_endFullRun 69 = .ok (.putfield 286, 3) := g_dec dt117_X11_endFullRun_ok (k := 12) rfl
theorem dX11_endFullRun_72 : decode cX11_endFullRun 72 = .ok (.return_, 1) := g_dec dt117_X11_endFullRun_ok (k := 13) rfl
theorem dX11_endFullRun_23 : decode cX11_endFullRun 23 = .ok (.aload_n 0, 1) := g_dec dt117_X11_endFullRun_ok (k := 14) rfl
theorem dX11_endFullRun_24 : decode cX11_endFullRun 24 = .ok (.getfield 26, 3) := g_dec dt117_X11_endFullRun_ok (k := 15) rfl
theorem dX11_endFullRun_27 : decode cX11_endFullRun 27 = .ok (.aload_n 0, 1) := g_dec dt117_X11_endFullRun_ok (k := 16) rfl
theorem dX11_endFullRun_28 : decode cX11_endFullRun 28 = .ok (.getfield 19, 3) := g_dec dt117_X11_endFullRun_ok (k := 17) rfl
theorem dX11_endFullRun_31 : decode cX11_endFullRun 31 = .ok (.iload_n 2, 1) := g_dec dt117_X11_endFullRun_ok (k := 18) rfl
theorem dX11_endFullRun_32 : decode cX11_endFullRun 32 = .ok (.invokevirtual 237, 3) := g_dec dt117_X11_endFullRun_ok (k := 19) rfl
theorem dX11_endFullRun_35 : decode cX11_endFullRun 35 = .ok (.aload_n 0, 1) := g_dec dt117_X11_endFullRun_ok (k := 20) rfl
theorem dX11_endFullRun_36 : decode cX11_endFullRun 36 = .ok (.invokevirtual 156, 3) := g_dec dt117_X11_endFullRun_ok (k := 21) rfl
theorem dX11_endFullRun_39 : decode cX11_endFullRun 39 = .ok (.invokevirtual 338, 3) := g_dec dt117_X11_endFullRun_ok (k := 22) rfl
theorem dX11_endFullRun_42 : decode cX11_endFullRun 42 = .ok (.istore_n 3, 1) := g_dec dt117_X11_endFullRun_ok (k := 23) rfl
theorem dX11_endFullRun_43 : decode cX11_endFullRun 43 = .ok (.iload_n 3, 1) := g_dec dt117_X11_endFullRun_ok (k := 24) rfl
theorem dX11_endFullRun_44 : decode cX11_endFullRun 44 = .ok (.ifCond .ne 4, 3) := g_dec dt117_X11_endFullRun_ok (k := 25) rfl
theorem dX11_endFullRun_48 : decode cX11_endFullRun 48 = .ok (.iload_n 3, 1) := g_dec dt117_X11_endFullRun_ok (k := 26) rfl
theorem dX11_endFullRun_49 : decode cX11_endFullRun 49 = .ok (.iconst 2, 1) := g_dec dt117_X11_endFullRun_ok (k := 27) rfl
theorem dX11_endFullRun_50 : decode cX11_endFullRun 50 = .ok (.if_icmp .ne 6, 3) := g_dec dt117_X11_endFullRun_ok (k := 28) rfl
theorem dX11_endFullRun_53 : decode cX11_endFullRun 53 = .ok (.iinc 1 1, 3) := g_dec dt117_X11_endFullRun_ok (k := 29) rfl
theorem dX11_endFullRun_47 : decode cX11_endFullRun 47 = .ok (.return_, 1) := g_dec dt117_X11_endFullRun_ok (k := 30) rfl
theorem dX11_endFullRun_0 : decode cX11_endFullRun 0 = .ok (.aload_n 0, 1) := g_dec dt117_X11_endFullRun_ok (k := 31) rfl
theorem dX11_endFullRun_1 : decode cX11_endFullRun 1 = .ok (.getfield 286, 3) := g_dec dt117_X11_endFullRun_ok (k := 32) rfl
theorem dX11_endFullRun_4 : decode cX11_endFullRun 4 = .ok (.ifCond .ne 4, 3) := g_dec dt117_X11_endFullRun_ok (k := 33) rfl
theorem dX11_endFullRun_8 : decode cX11_endFullRun 8 = .ok (.iconst 0, 1) := g_dec dt117_X11_endFullRun_ok (k := 34) rfl
theorem dX11_endFullRun_9 : decode cX11_endFullRun 9 = .ok (.istore_n 1, 1) := g_dec dt117_X11_endFullRun_ok (k := 35) rfl
theorem dX11_endFullRun_10 : decode cX11_endFullRun 10 = .ok (.iconst 0, 1) := g_dec dt117_X11_endFullRun_ok (k := 36) rfl
theorem dX11_endFullRun_11 : decode cX11_endFullRun 11 = .ok (.istore_n 2, 1) := g_dec dt117_X11_endFullRun_ok (k := 37) rfl
theorem dX11_endFullRun_7 : decode cX11_endFullRun 7 = .ok (.return_, 1) := g_dec dt117_X11_endFullRun_ok (k := 38) rfl
def dt118_X11_isOn : List (Nat × Instr × Nat) := [(54, (.iinc 4 1, 3)), (57, (.goto (-54), 3)), (3, (.iload 4, 2)), (5, (.bipush 6, 2)), (7, (.if_icmp .ge 53, 3)), (60, (.iconst 0, 1)), (61, (.ireturn, 1)), (10, (.aload_n 0, 1)), (11, (.iload 4, 2)), (13, (.invokevirtual 273, 3)), (16, (.astore 5, 2)), (18, (.aload 5, 2)), (20, (.getfield 280, 3)), (23, (.aload_n 1, 1)), (24, (.getfield 526, 3)), (27, (.if_icmp .ne 27, 3)), (30, (.aload 5, 2)), (32, (.getfield 488, 3)), (35, (.lload_n 2, 1)), (36, (.lcmp, 1)), (37, (.ifCond .ne 17, 3)), (40, (.aload 5, 2)), (42, (.getfield 484, 3)), (45, (.aload_n 1, 1)), (46, (.getfield 487, 3)), (49, (.if_icmp .ne 5, 3)), (52, (.iconst 1, 1)), (53, (.ireturn, 1)), (0, (.iconst 0, 1)), (1, (.istore 4, 2))]
theorem dt118_X11_isOn_ok : ∀ q ∈ dt118_X11_isOn, decode cX11_isOn q.1 = .ok q.2 := by decide +kernel
theorem dX11_isOn_54 : decode cX11_isOn 54 = .ok (.iinc 4 1, 3) := g_dec dt118_X11_isOn_ok (k := 0) rfl
theorem dX11_isOn_57 : decode cX11_isOn 57 = .ok (.goto (-54), 3) := g_dec dt118_X11_isOn_ok (k := 1) rfl
theorem dX11_isOn_3 : decode cX11_isOn 3 = .ok (.iload 4, 2) := g_dec dt118_X11_isOn_ok (k := 2) rfl
theorem dX11_isOn_5 : decode cX11_isOn 5 = .ok (.bipush 6, 2) := g_dec dt118_X11_isOn_ok (k := 3) rfl
theorem dX11_isOn_7 : decode cX11_isOn 7 = .ok (.if_icmp .ge 53, 3) := g_dec dt118_X11_isOn_ok (k := 4) rfl
theorem dX11_isOn_60 : decode cX11_isOn 60 = .ok (.iconst 0, 1) := g_dec dt118_X11_isOn_ok (k := 5) rfl
theorem dX11_isOn_61 : decode cX11_isOn 61 = .ok (.ireturn, 1) := g_dec dt118_X11_isOn_ok (k := 6) rfl
theorem dX11_isOn_10 : decode cX11_isOn 10 = .ok (.aload_n 0, 1) := g_dec dt118_X11_isOn_ok (k := 7) rfl
theorem dX11_isOn_11 : decode cX11_isOn 11 = .ok (.iload 4, 2) := g_dec dt118_X11_isOn_ok (k := 8) rfl
theorem dX11_isOn_13 : decode cX11_isOn 13 = .ok (.invokevirtual 273, 3) := g_dec dt118_X11_isOn_ok (k := 9) rfl
theorem dX11_isOn_16 : decode cX11_isOn 16 = .ok (.astore 5, 2) := g_dec dt118_X11_isOn_ok (k := 10) rfl
theorem dX11_isOn_18 : decode cX11_isOn 18 = .ok (.aload 5, 2) := g_dec dt118_X11_isOn_ok (k := 11) rfl
theorem dX11_isOn_20 : decode cX11_isOn 20 = .ok (.getfield 280, 3) := g_dec dt118_X11_isOn_ok (k := 12) rfl
theorem dX11_isOn_23 : decode cX11_isOn 23 = .ok (.aload_n 1, 1) := g_dec dt118_X11_isOn_ok (k := 13) rfl
theorem dX11_isOn_24 : decode cX11_isOn 24 = .ok (.getfield 526, 3) := g_dec dt118_X11_isOn_ok (k := 14) rfl
theorem dX11_isOn_27 : decode cX11_isOn 27 = .ok (.if_icmp .ne 27, 3) := g_dec dt118_X11_isOn_ok (k := 15) rfl
theorem dX11_isOn_30 : decode cX11_isOn 30 = .ok (.aload 5, 2) := g_dec dt118_X11_isOn_ok (k := 16) rfl
theorem dX11_isOn_32 : decode cX11_isOn 32 = .ok (.getfield 488, 3) := g_dec dt118_X11_isOn_ok (k := 17) rfl
theorem dX11_isOn_35 : decode cX11_isOn 35 = .ok (.lload_n 2, 1) := g_dec dt118_X11_isOn_ok (k := 18) rfl
theorem dX11_isOn_36 : decode cX11_isOn 36 = .ok (.lcmp, 1) := g_dec dt118_X11_isOn_ok (k := 19) rfl
theorem dX11_isOn_37 : decode cX11_isOn 37 = .ok (.ifCond .ne 17, 3) := g_dec dt118_X11_isOn_ok (k := 20) rfl
theorem dX11_isOn_40 : decode cX11_isOn 40 = .ok (.aload 5, 2) := g_dec dt118_X11_isOn_ok (k := 21) rfl
theorem dX11_isOn_42 : decode cX11_isOn 42 = .ok (.getfield 484, 3) := g_dec dt118_X11_isOn_ok (k := 22) rfl
theorem dX11_isOn_45 : decode cX11_isOn 45 = .ok (.aload_n 1, 1) := g_dec dt118_X11_isOn_ok (k := 23) rfl
theorem dX11_isOn_46 : decode cX11_isOn 46 = .ok (.getfield 487, 3) := g_dec dt118_X11_isOn_ok (k := 24) rfl
theorem dX11_isOn_49 : decode cX11_isOn 49 = .ok (.if_icmp .ne 5, 3) := g_dec dt118_X11_isOn_ok (k := 25) rfl
theorem dX11_isOn_52 : decode cX11_isOn 52 = .ok (.iconst 1, 1) := g_dec dt118_X11_isOn_ok (k := 26) rfl
theorem dX11_isOn_53 : decode cX11_isOn 53 = .ok (.ireturn, 1) := g_dec dt118_X11_isOn_ok (k := 27) rfl
theorem dX11_isOn_0 : decode cX11_isOn 0 = .ok (.iconst 0, 1) := g_dec dt118_X11_isOn_ok (k := 28) rfl
theorem dX11_isOn_1 : decode cX11_isOn 1 = .ok (.istore 4, 2) := g_dec dt118_X11_isOn_ok (k := 29) rfl
def dt119_X11_want : List (Nat × Instr × Nat) := [(58, (.return_, 1)), (0, (.aload_n 0, 1)), (1, (.getfield 19, 3)), (4, (.iload_n 1, 1)), (5, (.invokevirtual 237, 3)), (8, (.astore 6, 2)), (10, (.lload_n 2, 1)), (11, (.aload 6, 2)), (13, (.getfield 518, 3)), (16, (.land, 1)), (17, (.lstore 7, 2)), (19, (.aload_n 0, 1)), (20, (.getfield 26, 3)), (23, (.aload 6, 2)), (25, (.lload 7, 2)), (27, (.invokevirtual 338, 3)), (30, (.ifCond .ne 28, 3)), (33, (.aload_n 0, 1)), (34, (.aload 6, 2)), (36, (.lload 7, 2)), (38, (.invokevirtual 521, 3)), (41, (.ifCond .ne 17, 3)), (44, (.aload_n 0, 1)), (45, (.getfield 47, 3)), (48, (.iload_n 1, 1)), (49, (.lload 7, 2)), (51, (.iload 4, 2)), (53, (.iload 5, 2)), (55, (.invokevirtual 524, 3))]
theorem dt119_X11_want_ok : ∀ q ∈ dt119_X11_want, decode cX11_want q.1 = .ok q.2 := by decide +kernel
theorem dX11_want_58 : decode cX11_want 58 = .ok (.return_, 1) := g_dec dt119_X11_want_ok (k := 0) rfl
theorem dX11_want_0 : decode cX11_want 0 = .ok (.aload_n 0, 1) := g_dec dt119_X11_want_ok (k := 1) rfl
theorem dX11_want_1 : decode cX11_want 1 = .ok (.getfield 19, 3) := g_dec dt119_X11_want_ok (k := 2) rfl
theorem dX11_want_4 : decode cX11_want 4 = .ok (.iload_n 1, 1) := g_dec dt119_X11_want_ok (k := 3) rfl
theorem dX11_want_5 : decode cX11_want 5 = .ok (.invokevirtual 237, 3) := g_dec dt119_X11_want_ok (k := 4) rfl
theorem dX11_want_8 : decode cX11_want 8 = .ok (.astore 6, 2) := g_dec dt119_X11_want_ok (k := 5) rfl
theorem dX11_want_10 : decode cX11_want 10 = .ok (.lload_n 2, 1) := g_dec dt119_X11_want_ok (k := 6) rfl
theorem dX11_want_11 : decode cX11_want 11 = .ok (.aload 6, 2) := g_dec dt119_X11_want_ok (k := 7) rfl
theorem dX11_want_13 : decode cX11_want 13 = .ok (.getfield 518, 3) := g_dec dt119_X11_want_ok (k := 8) rfl
theorem dX11_want_16 : decode cX11_want 16 = .ok (.land, 1) := g_dec dt119_X11_want_ok (k := 9) rfl
theorem dX11_want_17 : decode cX11_want 17 = .ok (.lstore 7, 2) := g_dec dt119_X11_want_ok (k := 10) rfl
theorem dX11_want_19 : decode cX11_want 19 = .ok (.aload_n 0, 1) := g_dec dt119_X11_want_ok (k := 11) rfl
theorem dX11_want_20 : decode cX11_want 20 = .ok (.getfield 26, 3) := g_dec dt119_X11_want_ok (k := 12) rfl
theorem dX11_want_23 : decode cX11_want 23 = .ok (.aload 6, 2) := g_dec dt119_X11_want_ok (k := 13) rfl
theorem dX11_want_25 : decode cX11_want 25 = .ok (.lload 7, 2) := g_dec dt119_X11_want_ok (k := 14) rfl
theorem dX11_want_27 : decode cX11_want 27 = .ok (.invokevirtual 338, 3) := g_dec dt119_X11_want_ok (k := 15) rfl
theorem dX11_want_30 : decode cX11_want 30 = .ok (.ifCond .ne 28, 3) := g_dec dt119_X11_want_ok (k := 16) rfl
theorem dX11_want_33 : decode cX11_want 33 = .ok (.aload_n 0, 1) := g_dec dt119_X11_want_ok (k := 17) rfl
theorem dX11_want_34 : decode cX11_want 34 = .ok (.aload 6, 2) := g_dec dt119_X11_want_ok (k := 18) rfl
theorem dX11_want_36 : decode cX11_want 36 = .ok (.lload 7, 2) := g_dec dt119_X11_want_ok (k := 19) rfl
theorem dX11_want_38 : decode cX11_want 38 = .ok (.invokevirtual 521, 3) := g_dec dt119_X11_want_ok (k := 20) rfl
theorem dX11_want_41 : decode cX11_want 41 = .ok (.ifCond .ne 17, 3) := g_dec dt119_X11_want_ok (k := 21) rfl
theorem dX11_want_44 : decode cX11_want 44 = .ok (.aload_n 0, 1) := g_dec dt119_X11_want_ok (k := 22) rfl
theorem dX11_want_45 : decode cX11_want 45 = .ok (.getfield 47, 3) := g_dec dt119_X11_want_ok (k := 23) rfl
theorem dX11_want_48 : decode cX11_want 48 = .ok (.iload_n 1, 1) := g_dec dt119_X11_want_ok (k := 24) rfl
theorem dX11_want_49 : decode cX11_want 49 = .ok (.lload 7, 2) := g_dec dt119_X11_want_ok (k := 25) rfl
theorem dX11_want_51 : decode cX11_want 51 = .ok (.iload 4, 2) := g_dec dt119_X11_want_ok (k := 26) rfl
theorem dX11_want_53 : decode cX11_want 53 = .ok (.iload 5, 2) := g_dec dt119_X11_want_ok (k := 27) rfl
theorem dX11_want_55 : decode cX11_want 55 = .ok (.invokevirtual 524, 3) := g_dec dt119_X11_want_ok (k := 28) rfl
def dt120_X11_listTests : List (Nat × Instr × Nat) := [(34, (.iinc 5 1, 3)), (37, (.goto (-34), 3)), (3, (.iload 5, 2)), (5, (.aload_n 0, 1)), (6, (.getfield 19, 3)), (9, (.getfield 229, 3)), (12, (.if_icmp .ge 28, 3)), (40, (.return_, 1)), (15, (.iload_n 1, 1)), (16, (.iload 5, 2)), (18, (.invokestatic 175, 3)), (21, (.ifCond .eq 13, 3)), (24, (.aload_n 0, 1)), (25, (.iload 5, 2)), (27, (.lload_n 2, 1)), (28, (.iconst (-1), 1)), (29, (.iload 4, 2)), (31, (.invokevirtual 511, 3)), (0, (.iconst 0, 1)), (1, (.istore 5, 2))]
theorem dt120_X11_listTests_ok : ∀ q ∈ dt120_X11_listTests, decode cX11_listTests q.1 = .ok q.2 := by decide +kernel
theorem dX11_listTests_34 : decode cX11_listTests 34 = .ok (.iinc 5 1, 3) := g_dec dt120_X11_listTests_ok (k := 0) rfl
theorem dX11_listTests_37 : decode cX11_listTests 37 = .ok (.goto (-34), 3) := g_dec dt120_X11_listTests_ok (k := 1) rfl
theorem dX11_listTests_3 : decode cX11_listTests 3 = .ok (.iload 5, 2) := g_dec dt120_X11_listTests_ok (k := 2) rfl
theorem dX11_listTests_5 : decode cX11_listTests 5 = .ok (.aload_n 0, 1) := g_dec dt120_X11_listTests_ok (k := 3) rfl
theorem dX11_listTests_6 : decode cX11_listTests 6 = .ok (.getfield 19, 3) := g_dec dt120_X11_listTests_ok (k := 4) rfl
theorem dX11_listTests_9 : decode cX11_listTests 9 = .ok (.getfield 229, 3) := g_dec dt120_X11_listTests_ok (k := 5) rfl
theorem dX11_listTests_12 : decode cX11_listTests 12 = .ok (.if_icmp .ge 28, 3) := g_dec dt120_X11_listTests_ok (k := 6) rfl
theorem dX11_listTests_40 : decode cX11_listTests 40 = .ok (.return_, 1) := g_dec dt120_X11_listTests_ok (k := 7) rfl
theorem dX11_listTests_15 : decode cX11_listTests 15 = .ok (.iload_n 1, 1) := g_dec dt120_X11_listTests_ok (k := 8) rfl
theorem dX11_listTests_16 : decode cX11_listTests 16 = .ok (.iload 5, 2) := g_dec dt120_X11_listTests_ok (k := 9) rfl
theorem dX11_listTests_18 : decode cX11_listTests 18 = .ok (.invokestatic 175, 3) := g_dec dt120_X11_listTests_ok (k := 10) rfl
theorem dX11_listTests_21 : decode cX11_listTests 21 = .ok (.ifCond .eq 13, 3) := g_dec dt120_X11_listTests_ok (k := 11) rfl
theorem dX11_listTests_24 : decode cX11_listTests 24 = .ok (.aload_n 0, 1) := g_dec dt120_X11_listTests_ok (k := 12) rfl
theorem dX11_listTests_25 : decode cX11_listTests 25 = .ok (.iload 5, 2) := g_dec dt120_X11_listTests_ok (k := 13) rfl
theorem dX11_listTests_27 : decode cX11_listTests 27 = .ok (.lload_n 2, 1) := g_dec dt120_X11_listTests_ok (k := 14) rfl
theorem dX11_listTests_28 : decode cX11_listTests 28 = .ok (.iconst (-1), 1) := g_dec dt120_X11_listTests_ok (k := 15) rfl
theorem dX11_listTests_29 : decode cX11_listTests 29 = .ok (.iload 4, 2) := g_dec dt120_X11_listTests_ok (k := 16) rfl
theorem dX11_listTests_31 : decode cX11_listTests 31 = .ok (.invokevirtual 511, 3) := g_dec dt120_X11_listTests_ok (k := 17) rfl
theorem dX11_listTests_0 : decode cX11_listTests 0 = .ok (.iconst 0, 1) := g_dec dt120_X11_listTests_ok (k := 18) rfl
theorem dX11_listTests_1 : decode cX11_listTests 1 = .ok (.istore 5, 2) := g_dec dt120_X11_listTests_ok (k := 19) rfl
def dt121_X11_listBatch : List (Nat × Instr × Nat) := [(116, (.iinc 4 1, 3)), (119, (.goto (-104), 3)), (104, (.invokevirtual 511, 3)), (107, (.goto 9, 3)), (39, (.iload 5, 2)), (41, (.aload_n 0, 1)), (42, (.getfield 33, 3)), (45, (.iload_n 1, 1)), (46, (.invokevirtual 431, 3)), (49, (.if_icmp .ge 67, 3)), (52, (.aload_n 0, 1)), (53, (.getfield 10, 3)), (56, (.aload_n 0, 1)), (57, (.getfield 33, 3)), (60, (.getfield 422, 3)), (63, (.iload 5, 2)), (65, (.invokevirtual 187, 3)), (68, (.invokevirtual 113, 3)), (71, (.astore 6, 2)), (73, (.aload 6, 2)), (75, (.getfield 324, 3)), (78, (.iload 4, 2)), (80, (.invokestatic 175, 3)), (83, (.ifCond .eq 27, 3)), (110, (.iinc 5 1, 3)), (113, (.goto (-74), 3)), (86, (.aload_n 0, 1)), (87, (.iload 4, 2)), (89, (.lload_n 2, 1)), (90, (.aload 6, 2)), (92, (.invokevirtual 515, 3)), (95, (.iload_n 1, 1)), (96, (.ifCond .ne 7, 3)), (103, (.iconst 1, 1)), (99, (.iconst 0, 1)), (100, (.goto 4, 3)), (15, (.iload 4, 2)), (17, (.aload_n 0, 1)), (18, (.getfield 19, 3)), (21, (.getfield 229, 3)), (24, (.if_icmp .ge 98, 3)), (122, (.return_, 1)), (27, (.aload_n 0, 1)), (28, (.getfield 33, 3)), (31, (.iload_n 1, 1)), (32, (.iconst 1, 1)), (33, (.isub, 1)), (34, (.invokevirtual 431, 3)), (37, (.istore 5, 2)), (0, (.aload_n 0, 1)), (1, (.getfield 33, 3)), (4, (.getfield 434, 3)), (7, (.iload_n 1, 1)), (8, (.invokevirtual 218, 3)), (11, (.lstore_n 2, 1)), (12, (.iconst 0, 1)), (13, (.istore 4, 2))]
theorem dt121_X11_listBatch_ok : ∀ q ∈ dt121_X11_listBatch, decode cX11_listBatch q.1 = .ok q.2 := by decide +kernel
theorem dX11_listBatch_116 : decode cX11_listBatch 116 = .ok (.iinc 4 1, 3) := g_dec dt121_X11_listBatch_ok (k := 0) rfl
theorem dX11_listBatch_119 : decode cX11_listBatch 119 = .ok (.goto (-104), 3) := g_dec dt121_X11_listBatch_ok (k := 1) rfl
theorem dX11_listBatch_104 : decode cX11_listBatch 104 = .ok (.invokevirtual 511, 3) := g_dec dt121_X11_listBatch_ok (k := 2) rfl
theorem dX11_listBatch_107 : decode cX11_listBatch 107 = .ok (.goto 9, 3) := g_dec dt121_X11_listBatch_ok (k := 3) rfl
theorem dX11_listBatch_39 : decode cX11_listBatch 39 = .ok (.iload 5, 2) := g_dec dt121_X11_listBatch_ok (k := 4) rfl
theorem dX11_listBatch_41 : decode cX11_listBatch 41 = .ok (.aload_n 0, 1) := g_dec dt121_X11_listBatch_ok (k := 5) rfl
theorem dX11_listBatch_42 : decode cX11_listBatch 42 = .ok (.getfield 33, 3) := g_dec dt121_X11_listBatch_ok (k := 6) rfl
theorem dX11_listBatch_45 : decode cX11_listBatch 45 = .ok (.iload_n 1, 1) := g_dec dt121_X11_listBatch_ok (k := 7) rfl
theorem dX11_listBatch_46 : decode cX11_listBatch 46 = .ok (.invokevirtual 431, 3) := g_dec dt121_X11_listBatch_ok (k := 8) rfl
theorem dX11_listBatch_49 : decode cX11_listBatch 49 = .ok (.if_icmp .ge 67, 3) := g_dec dt121_X11_listBatch_ok (k := 9) rfl
theorem dX11_listBatch_52 : decode cX11_listBatch 52 = .ok (.aload_n 0, 1) := g_dec dt121_X11_listBatch_ok (k := 10) rfl
theorem dX11_listBatch_53 : decode cX11_listBatch 53 = .ok (.getfield 10, 3) := g_dec dt121_X11_listBatch_ok (k := 11) rfl
theorem dX11_listBatch_56 : decode cX11_listBatch 56 = .ok (.aload_n 0, 1) := g_dec dt121_X11_listBatch_ok (k := 12) rfl
theorem dX11_listBatch_57 : decode cX11_listBatch 57 = .ok (.getfield 33, 3) := g_dec dt121_X11_listBatch_ok (k := 13) rfl
theorem dX11_listBatch_60 : decode cX11_listBatch 60 = .ok (.getfield 422, 3) := g_dec dt121_X11_listBatch_ok (k := 14) rfl
theorem dX11_listBatch_63 : decode cX11_listBatch 63 = .ok (.iload 5, 2) := g_dec dt121_X11_listBatch_ok (k := 15) rfl
theorem dX11_listBatch_65 : decode cX11_listBatch 65 = .ok (.invokevirtual 187, 3) := g_dec dt121_X11_listBatch_ok (k := 16) rfl
theorem dX11_listBatch_68 : decode cX11_listBatch 68 = .ok (.invokevirtual 113, 3) := g_dec dt121_X11_listBatch_ok (k := 17) rfl
theorem dX11_listBatch_71 : decode cX11_listBatch 71 = .ok (.astore 6, 2) := g_dec dt121_X11_listBatch_ok (k := 18) rfl
theorem dX11_listBatch_73 : decode cX11_listBatch 73 = .ok (.aload 6, 2) := g_dec dt121_X11_listBatch_ok (k := 19) rfl
theorem dX11_listBatch_75 : decode cX11_listBatch 75 = .ok (.getfield 324, 3) := g_dec dt121_X11_listBatch_ok (k := 20) rfl
theorem dX11_listBatch_78 : decode cX11_listBatch 78 = .ok (.iload 4, 2) := g_dec dt121_X11_listBatch_ok (k := 21) rfl
theorem dX11_listBatch_80 : decode cX11_listBatch 80 = .ok (.invokestatic 175, 3) := g_dec dt121_X11_listBatch_ok (k := 22) rfl
theorem dX11_listBatch_83 : decode cX11_listBatch 83 = .ok (.ifCond .eq 27, 3) := g_dec dt121_X11_listBatch_ok (k := 23) rfl
theorem dX11_listBatch_110 : decode cX11_listBatch 110 = .ok (.iinc 5 1, 3) := g_dec dt121_X11_listBatch_ok (k := 24) rfl
theorem dX11_listBatch_113 : decode cX11_listBatch 113 = .ok (.goto (-74), 3) := g_dec dt121_X11_listBatch_ok (k := 25) rfl
theorem dX11_listBatch_86 : decode cX11_listBatch 86 = .ok (.aload_n 0, 1) := g_dec dt121_X11_listBatch_ok (k := 26) rfl
theorem dX11_listBatch_87 : decode cX11_listBatch 87 = .ok (.iload 4, 2) := g_dec dt121_X11_listBatch_ok (k := 27) rfl
theorem dX11_listBatch_89 : decode cX11_listBatch 89 = .ok (.lload_n 2, 1) := g_dec dt121_X11_listBatch_ok (k := 28) rfl
theorem dX11_listBatch_90 : decode cX11_listBatch 90 = .ok (.aload 6, 2) := g_dec dt121_X11_listBatch_ok (k := 29) rfl
theorem dX11_listBatch_92 : decode cX11_listBatch 92 = .ok (.invokevirtual 515, 3) := g_dec dt121_X11_listBatch_ok (k := 30) rfl
theorem dX11_listBatch_95 : decode cX11_listBatch 95 = .ok (.iload_n 1, 1) := g_dec dt121_X11_listBatch_ok (k := 31) rfl
theorem dX11_listBatch_96 : decode cX11_listBatch 96 = .ok (.ifCond .ne 7, 3) := g_dec dt121_X11_listBatch_ok (k := 32) rfl
theorem dX11_listBatch_103 : decode cX11_listBatch 103 = .ok (.iconst 1, 1) := g_dec dt121_X11_listBatch_ok (k := 33) rfl
theorem dX11_listBatch_99 : decode cX11_listBatch 99 = .ok (.iconst 0, 1) := g_dec dt121_X11_listBatch_ok (k := 34) rfl
theorem dX11_listBatch_100 : decode cX11_listBatch 100 = .ok (.goto 4, 3) := g_dec dt121_X11_listBatch_ok (k := 35) rfl
theorem dX11_listBatch_15 : decode cX11_listBatch 15 = .ok (.iload 4, 2) := g_dec dt121_X11_listBatch_ok (k := 36) rfl
theorem dX11_listBatch_17 : decode cX11_listBatch 17 = .ok (.aload_n 0, 1) := g_dec dt121_X11_listBatch_ok (k := 37) rfl
theorem dX11_listBatch_18 : decode cX11_listBatch 18 = .ok (.getfield 19, 3) := g_dec dt121_X11_listBatch_ok (k := 38) rfl
theorem dX11_listBatch_21 : decode cX11_listBatch 21 = .ok (.getfield 229, 3) := g_dec dt121_X11_listBatch_ok (k := 39) rfl
theorem dX11_listBatch_24 : decode cX11_listBatch 24 = .ok (.if_icmp .ge 98, 3) := g_dec dt121_X11_listBatch_ok (k := 40) rfl
theorem dX11_listBatch_122 : decode cX11_listBatch 122 = .ok (.return_, 1) := g_dec dt121_X11_listBatch_ok (k := 41) rfl
theorem dX11_listBatch_27 : decode cX11_listBatch 27 = .ok (.aload_n 0, 1) := g_dec dt121_X11_listBatch_ok (k := 42) rfl
theorem dX11_listBatch_28 : decode cX11_listBatch 28 = .ok (.getfield 33, 3) := g_dec dt121_X11_listBatch_ok (k := 43) rfl
theorem dX11_listBatch_31 : decode cX11_listBatch 31 = .ok (.iload_n 1, 1) := g_dec dt121_X11_listBatch_ok (k := 44) rfl
theorem dX11_listBatch_32 : decode cX11_listBatch 32 = .ok (.iconst 1, 1) := g_dec dt121_X11_listBatch_ok (k := 45) rfl
theorem dX11_listBatch_33 : decode cX11_listBatch 33 = .ok (.isub, 1) := g_dec dt121_X11_listBatch_ok (k := 46) rfl
theorem dX11_listBatch_34 : decode cX11_listBatch 34 = .ok (.invokevirtual 431, 3) := g_dec dt121_X11_listBatch_ok (k := 47) rfl
theorem dX11_listBatch_37 : decode cX11_listBatch 37 = .ok (.istore 5, 2) := g_dec dt121_X11_listBatch_ok (k := 48) rfl
theorem dX11_listBatch_0 : decode cX11_listBatch 0 = .ok (.aload_n 0, 1) := g_dec dt121_X11_listBatch_ok (k := 49) rfl
theorem dX11_listBatch_1 : decode cX11_listBatch 1 = .ok (.getfield 33, 3) := g_dec dt121_X11_listBatch_ok (k := 50) rfl
theorem dX11_listBatch_4 : decode cX11_listBatch 4 = .ok (.getfield 434, 3) := g_dec dt121_X11_listBatch_ok (k := 51) rfl
theorem dX11_listBatch_7 : decode cX11_listBatch 7 = .ok (.iload_n 1, 1) := g_dec dt121_X11_listBatch_ok (k := 52) rfl
theorem dX11_listBatch_8 : decode cX11_listBatch 8 = .ok (.invokevirtual 218, 3) := g_dec dt121_X11_listBatch_ok (k := 53) rfl
theorem dX11_listBatch_11 : decode cX11_listBatch 11 = .ok (.lstore_n 2, 1) := g_dec dt121_X11_listBatch_ok (k := 54) rfl
theorem dX11_listBatch_12 : decode cX11_listBatch 12 = .ok (.iconst 0, 1) := g_dec dt121_X11_listBatch_ok (k := 55) rfl
theorem dX11_listBatch_13 : decode cX11_listBatch 13 = .ok (.istore 4, 2) := g_dec dt121_X11_listBatch_ok (k := 56) rfl
def dt122_X11_listWanted : List (Nat × Instr × Nat) := [(157, (.return_, 1)), (130, (.aload_n 0, 1)), (131, (.getfield 286, 3)), (134, (.ifCond .eq 23, 3)), (137, (.aload_n 0, 1)), (138, (.iconst 1, 1)), (139, (.aload_n 0, 1)), (140, (.getfield 19, 3)), (143, (.getfield 229, 3)), (146, (.ishl, 1)), (147, (.iconst 1, 1)), (148, (.isub, 1)), (149, (.aload_n 0, 1)), (150, (.invokevirtual 156, 3)), (153, (.iconst 2, 1)), (154, (.invokevirtual 501, 3)), (105, (.iload_n 1, 1)), (106, (.aload_n 0, 1)), (107, (.getfield 33, 3)), (110, (.getfield 505, 3)), (113, (.getfield 217, 3)), (116, (.if_icmp .ge 14, 3)), (119, (.aload_n 0, 1)), (120, (.iload_n 1, 1)), (121, (.invokevirtual 508, 3)), (124, (.iinc 1 1, 3)), (127, (.goto (-22), 3)), (0, (.aload_n 0, 1)), (1, (.invokevirtual 204, 3)), (4, (.aload_n 0, 1)), (5, (.invokevirtual 305, 3)), (8, (.aload_n 0, 1)), (9, (.getfield 47, 3)), (12, (.invokevirtual 498, 3)), (15, (.aload_n 0, 1)), (16, (.getfield 40, 3)), (19, (.invokevirtual 308, 3)), (22, (.ifCond .eq 32, 3)), (54, (.aload_n 0, 1)), (55, (.getfield 40, 3)), (58, (.getfield 416, 3)), (61, (.iconst 2, 1)), (62, (.if_icmp .ne 41, 3)), (103, (.iconst 0, 1)), (104, (.istore_n 1, 1)), (65, (.aload_n 0, 1)), (66, (.getfield 40, 3)), (69, (.getfield 451, 3)), (72, (.istore_n 1, 1)), (73, (.aload_n 0, 1)), (74, (.aload_n 0, 1)), (75, (.getfield 40, 3)), (78, (.getfield 454, 3)), (81, (.iload_n 1, 1)), (82, (.invokevirtual 187, 3)), (85, (.aload_n 0, 1)), (86, (.getfield 40, 3)), (89, (.getfield 456, 3)), (92, (.iload_n 1, 1)), (93, (.invokevirtual 218, 3))]
theorem dt122_X11_listWanted_ok : ∀ q ∈ dt122_X11_listWanted, decode cX11_listWanted q.1 = .ok q.2 := by decide +kernel
theorem dX11_listWanted_157 : decode cX11_listWanted 157 = .ok (.return_, 1) := g_dec dt122_X11_listWanted_ok (k := 0) rfl
theorem dX11_listWanted_130 : decode cX11_listWanted 130 = .ok (.aload_n 0, 1) := g_dec dt122_X11_listWanted_ok (k := 1) rfl
theorem dX11_listWanted_131 : decode cX11_listWanted 131 = .ok (.getfield 286, 3) := g_dec dt122_X11_listWanted_ok (k := 2) rfl
theorem dX11_listWanted_134 : decode cX11_listWanted 134 = .ok (.ifCond .eq 23, 3) := g_dec dt122_X11_listWanted_ok (k := 3) rfl
theorem dX11_listWanted_137 : decode cX11_listWanted 137 = .ok (.aload_n 0, 1) := g_dec dt122_X11_listWanted_ok (k := 4) rfl
theorem dX11_listWanted_138 : decode cX11_listWanted 138 = .ok (.iconst 1, 1) := g_dec dt122_X11_listWanted_ok (k := 5) rfl
theorem dX11_listWanted_139 : decode cX11_listWanted 139 = .ok (.aload_n 0, 1) := g_dec dt122_X11_listWanted_ok (k := 6) rfl
theorem dX11_listWanted_140 : decode cX11_listWanted 140 = .ok (.getfield 19, 3) := g_dec dt122_X11_listWanted_ok (k := 7) rfl
theorem dX11_listWanted_143 : decode cX11_listWanted 143 = .ok (.getfield 229, 3) := g_dec dt122_X11_listWanted_ok (k := 8) rfl
theorem dX11_listWanted_146 : decode cX11_listWanted 146 = .ok (.ishl, 1) := g_dec dt122_X11_listWanted_ok (k := 9) rfl
theorem dX11_listWanted_147 : decode cX11_listWanted 147 = .ok (.iconst 1, 1) := g_dec dt122_X11_listWanted_ok (k := 10) rfl
theorem dX11_listWanted_148 : decode cX11_listWanted 148 = .ok (.isub, 1) := g_dec dt122_X11_listWanted_ok (k := 11) rfl
theorem dX11_listWanted_149 : decode cX11_listWanted 149 = .ok (.aload_n 0, 1) := g_dec dt122_X11_listWanted_ok (k := 12) rfl
theorem dX11_listWanted_150 : decode cX11_listWanted 150 = .ok (.invokevirtual 156, 3) := g_dec dt122_X11_listWanted_ok (k := 13) rfl
theorem dX11_listWanted_153 : decode cX11_listWanted 153 = .ok (.iconst 2, 1) := g_dec dt122_X11_listWanted_ok (k := 14) rfl
theorem dX11_listWanted_154 : decode cX11_listWanted 154 = .ok (.invokevirtual 501, 3) := g_dec dt122_X11_listWanted_ok (k := 15) rfl
theorem dX11_listWanted_105 : decode cX11_listWanted 105 = .ok (.iload_n 1, 1) := g_dec dt122_X11_listWanted_ok (k := 16) rfl
theorem dX11_listWanted_106 : decode cX11_listWanted 106 = .ok (.aload_n 0, 1) := g_dec dt122_X11_listWanted_ok (k := 17) rfl
theorem dX11_listWanted_107 : decode cX11_listWanted 107 = .ok (.getfield 33, 3) := g_dec dt122_X11_listWanted_ok (k := 18) rfl
theorem dX11_listWanted_110 : decode cX11_listWanted 110 = .ok (.getfield 505, 3) := g_dec dt122_X11_listWanted_ok (k := 19) rfl
theorem dX11_listWanted_113 : decode cX11_listWanted 113 = .ok (.getfield 217, 3) := g_dec dt122_X11_listWanted_ok (k := 20) rfl
theorem dX11_listWanted_116 : decode cX11_listWanted 116 = .ok (.if_icmp .ge 14, 3) := g_dec dt122_X11_listWanted_ok (k := 21) rfl
theorem dX11_listWanted_119 : decode cX11_listWanted 119 = .ok (.aload_n 0, 1) := g_dec dt122_X11_listWanted_ok (k := 22) rfl
theorem dX11_listWanted_120 : decode cX11_listWanted 120 = .ok (.iload_n 1, 1) := g_dec dt122_X11_listWanted_ok (k := 23) rfl
theorem dX11_listWanted_121 : decode cX11_listWanted 121 = .ok (.invokevirtual 508, 3) := g_dec dt122_X11_listWanted_ok (k := 24) rfl
theorem dX11_listWanted_124 : decode cX11_listWanted 124 = .ok (.iinc 1 1, 3) := g_dec dt122_X11_listWanted_ok (k := 25) rfl
theorem dX11_listWanted_127 : decode cX11_listWanted 127 = .ok (.goto (-22), 3) := g_dec dt122_X11_listWanted_ok (k := 26) rfl
theorem dX11_listWanted_0 : decode cX11_listWanted 0 = .ok (.aload_n 0, 1) := g_dec dt122_X11_listWanted_ok (k := 27) rfl
theorem dX11_listWanted_1 : decode cX11_listWanted 1 = .ok (.invokevirtual 204, 3) := g_dec dt122_X11_listWanted_ok (k := 28) rfl
theorem dX11_listWanted_4 : decode cX11_listWanted 4 = .ok (.aload_n 0, 1) := g_dec dt122_X11_listWanted_ok (k := 29) rfl
theorem dX11_listWanted_5 : decode cX11_listWanted 5 = .ok (.invokevirtual 305, 3) := g_dec dt122_X11_listWanted_ok (k := 30) rfl
theorem dX11_listWanted_8 : decode cX11_listWanted 8 = .ok (.aload_n 0, 1) := g_dec dt122_X11_listWanted_ok (k := 31) rfl
theorem dX11_listWanted_9 : decode cX11_listWanted 9 = .ok (.getfield 47, 3) := g_dec dt122_X11_listWanted_ok (k := 32) rfl
theorem dX11_listWanted_12 : decode cX11_listWanted 12 = .ok (.invokevirtual 498, 3) := g_dec dt122_X11_listWanted_ok (k := 33) rfl
theorem dX11_listWanted_15 : decode cX11_listWanted 15 = .ok (.aload_n 0, 1) := g_dec dt122_X11_listWanted_ok (k := 34) rfl
theorem dX11_listWanted_16 : decode cX11_listWanted 16 = .ok (.getfield 40, 3) := g_dec dt122_X11_listWanted_ok (k := 35) rfl
theorem dX11_listWanted_19 : decode cX11_listWanted 19 = .ok (.invokevirtual 308, 3) := g_dec dt122_X11_listWanted_ok (k := 36) rfl
theorem dX11_listWanted_22 : decode cX11_listWanted 22 = .ok (.ifCond .eq 32, 3) := g_dec dt122_X11_listWanted_ok (k := 37) rfl
theorem dX11_listWanted_54 : decode cX11_listWanted 54 = .ok (.aload_n 0, 1) := g_dec dt122_X11_listWanted_ok (k := 38) rfl
theorem dX11_listWanted_55 : decode cX11_listWanted 55 = .ok (.getfield 40, 3) := g_dec dt122_X11_listWanted_ok (k := 39) rfl
theorem dX11_listWanted_58 : decode cX11_listWanted 58 = .ok (.getfield 416, 3) := g_dec dt122_X11_listWanted_ok (k := 40) rfl
theorem dX11_listWanted_61 : decode cX11_listWanted 61 = .ok (.iconst 2, 1) := g_dec dt122_X11_listWanted_ok (k := 41) rfl
theorem dX11_listWanted_62 : decode cX11_listWanted 62 = .ok (.if_icmp .ne 41, 3) := g_dec dt122_X11_listWanted_ok (k := 42) rfl
theorem dX11_listWanted_103 : decode cX11_listWanted 103 = .ok (.iconst 0, 1) := g_dec dt122_X11_listWanted_ok (k := 43) rfl
theorem dX11_listWanted_104 : decode cX11_listWanted 104 = .ok (.istore_n 1, 1) := g_dec dt122_X11_listWanted_ok (k := 44) rfl
theorem dX11_listWanted_65 : decode cX11_listWanted 65 = .ok (.aload_n 0, 1) := g_dec dt122_X11_listWanted_ok (k := 45) rfl
theorem dX11_listWanted_66 : decode cX11_listWanted 66 = .ok (.getfield 40, 3) := g_dec dt122_X11_listWanted_ok (k := 46) rfl
theorem dX11_listWanted_69 : decode cX11_listWanted 69 = .ok (.getfield 451, 3) := g_dec dt122_X11_listWanted_ok (k := 47) rfl
theorem dX11_listWanted_72 : decode cX11_listWanted 72 = .ok (.istore_n 1, 1) := g_dec dt122_X11_listWanted_ok (k := 48) rfl
theorem dX11_listWanted_73 : decode cX11_listWanted 73 = .ok (.aload_n 0, 1) := g_dec dt122_X11_listWanted_ok (k := 49) rfl
theorem dX11_listWanted_74 : decode cX11_listWanted 74 = .ok (.aload_n 0, 1) := g_dec dt122_X11_listWanted_ok (k := 50) rfl
theorem dX11_listWanted_75 : decode cX11_listWanted 75 = .ok (.getfield 40, 3) := g_dec dt122_X11_listWanted_ok (k := 51) rfl
theorem dX11_listWanted_78 : decode cX11_listWanted 78 = .ok (.getfield 454, 3) := g_dec dt122_X11_listWanted_ok (k := 52) rfl
theorem dX11_listWanted_81 : decode cX11_listWanted 81 = .ok (.iload_n 1, 1) := g_dec dt122_X11_listWanted_ok (k := 53) rfl
theorem dX11_listWanted_82 : decode cX11_listWanted 82 = .ok (.invokevirtual 187, 3) := g_dec dt122_X11_listWanted_ok (k := 54) rfl
theorem dX11_listWanted_85 : decode cX11_listWanted 85 = .ok (.aload_n 0, 1) := g_dec dt122_X11_listWanted_ok (k := 55) rfl
theorem dX11_listWanted_86 : decode cX11_listWanted 86 = .ok (.getfield 40, 3) := g_dec dt122_X11_listWanted_ok (k := 56) rfl
theorem dX11_listWanted_89 : decode cX11_listWanted 89 = .ok (.getfield 456, 3) := g_dec dt122_X11_listWanted_ok (k := 57) rfl
theorem dX11_listWanted_92 : decode cX11_listWanted 92 = .ok (.iload_n 1, 1) := g_dec dt122_X11_listWanted_ok (k := 58) rfl
theorem dX11_listWanted_93 : decode cX11_listWanted 93 = .ok (.invokevirtual 218, 3) := g_dec dt122_X11_listWanted_ok (k := 59) rfl
def dt123_X11_listWanted : List (Nat × Instr × Nat) := [(96, (.iconst 0, 1)), (97, (.invokevirtual 501, 3)), (100, (.goto 30, 3)), (25, (.aload_n 0, 1)), (26, (.aload_n 0, 1)), (27, (.invokevirtual 459, 3)), (30, (.aload_n 0, 1)), (31, (.getfield 40, 3)), (34, (.getfield 456, 3)), (37, (.aload_n 0, 1)), (38, (.getfield 40, 3)), (41, (.getfield 445, 3)), (44, (.invokevirtual 218, 3)), (47, (.iconst 0, 1)), (48, (.invokevirtual 501, 3)), (51, (.goto 79, 3))]
theorem dt123_X11_listWanted_ok : ∀ q ∈ dt123_X11_listWanted, decode cX11_listWanted q.1 = .ok q.2 := by decide +kernel
theorem dX11_listWanted_96 : decode cX11_listWanted 96 = .ok (.iconst 0, 1) := g_dec dt123_X11_listWanted_ok (k := 0) rfl
theorem dX11_listWanted_97 : decode cX11_listWanted 97 = .ok (.invokevirtual 501, 3) := g_dec dt123_X11_listWanted_ok (k := 1) rfl
theorem dX11_listWanted_100 : decode cX11_listWanted 100 = .ok (.goto 30, 3) := g_dec dt123_X11_listWanted_ok (k := 2) rfl
theorem dX11_listWanted_25 : decode cX11_listWanted 25 = .ok (.aload_n 0, 1) := g_dec dt123_X11_listWanted_ok (k := 3) rfl
theorem dX11_listWanted_26 : decode cX11_listWanted 26 = .ok (.aload_n 0, 1) := g_dec dt123_X11_listWanted_ok (k := 4) rfl
theorem dX11_listWanted_27 : decode cX11_listWanted 27 = .ok (.invokevirtual 459, 3) := g_dec dt123_X11_listWanted_ok (k := 5) rfl
theorem dX11_listWanted_30 : decode cX11_listWanted 30 = .ok (.aload_n 0, 1) := g_dec dt123_X11_listWanted_ok (k := 6) rfl
theorem dX11_listWanted_31 : decode cX11_listWanted 31 = .ok (.getfield 40, 3) := g_dec dt123_X11_listWanted_ok (k := 7) rfl
theorem dX11_listWanted_34 : decode cX11_listWanted 34 = .ok (.getfield 456, 3) := g_dec dt123_X11_listWanted_ok (k := 8) rfl
theorem dX11_listWanted_37 : decode cX11_listWanted 37 = .ok (.aload_n 0, 1) := g_dec dt123_X11_listWanted_ok (k := 9) rfl
theorem dX11_listWanted_38 : decode cX11_listWanted 38 = .ok (.getfield 40, 3) := g_dec dt123_X11_listWanted_ok (k := 10) rfl
theorem dX11_listWanted_41 : decode cX11_listWanted 41 = .ok (.getfield 445, 3) := g_dec dt123_X11_listWanted_ok (k := 11) rfl
theorem dX11_listWanted_44 : decode cX11_listWanted 44 = .ok (.invokevirtual 218, 3) := g_dec dt123_X11_listWanted_ok (k := 12) rfl
theorem dX11_listWanted_47 : decode cX11_listWanted 47 = .ok (.iconst 0, 1) := g_dec dt123_X11_listWanted_ok (k := 13) rfl
theorem dX11_listWanted_48 : decode cX11_listWanted 48 = .ok (.invokevirtual 501, 3) := g_dec dt123_X11_listWanted_ok (k := 14) rfl
theorem dX11_listWanted_51 : decode cX11_listWanted 51 = .ok (.goto 79, 3) := g_dec dt123_X11_listWanted_ok (k := 15) rfl
def dt124_X11_teamInTurn : List (Nat × Instr × Nat) := [(67, (.iinc 2 1, 3)), (70, (.goto (-66), 3)), (65, (.iload_n 2, 1)), (66, (.istore_n 1, 1)), (4, (.iload_n 2, 1)), (5, (.iconst 3, 1)), (6, (.if_icmp .ge 67, 3)), (73, (.iload_n 1, 1)), (74, (.ireturn, 1)), (9, (.aload_n 0, 1)), (10, (.getfield 47, 3)), (13, (.iconst 1, 1)), (14, (.iload_n 2, 1)), (15, (.invokevirtual 527, 3)), (18, (.iconst (-1), 1)), (19, (.if_icmp .eq 48, 3)), (22, (.iload_n 1, 1)), (23, (.iconst (-1), 1)), (24, (.if_icmp .eq 41, 3)), (27, (.aload_n 0, 1)), (28, (.getfield 96, 3)), (31, (.iload_n 2, 1)), (32, (.invokevirtual 218, 3)), (35, (.aload_n 0, 1)), (36, (.getfield 93, 3)), (39, (.iload_n 1, 1)), (40, (.invokevirtual 218, 3)), (43, (.lmul, 1)), (44, (.aload_n 0, 1)), (45, (.getfield 96, 3)), (48, (.iload_n 1, 1)), (49, (.invokevirtual 218, 3)), (52, (.aload_n 0, 1)), (53, (.getfield 93, 3)), (56, (.iload_n 2, 1)), (57, (.invokevirtual 218, 3)), (60, (.lmul, 1)), (61, (.lcmp, 1)), (62, (.ifCond .ge 5, 3)), (0, (.iconst (-1), 1)), (1, (.istore_n 1, 1)), (2, (.iconst 0, 1)), (3, (.istore_n 2, 1))]
theorem dt124_X11_teamInTurn_ok : ∀ q ∈ dt124_X11_teamInTurn, decode cX11_teamInTurn q.1 = .ok q.2 := by decide +kernel
theorem dX11_teamInTurn_67 : decode cX11_teamInTurn 67 = .ok (.iinc 2 1, 3) := g_dec dt124_X11_teamInTurn_ok (k := 0) rfl
theorem dX11_teamInTurn_70 : decode cX11_teamInTurn 70 = .ok (.goto (-66), 3) := g_dec dt124_X11_teamInTurn_ok (k := 1) rfl
theorem dX11_teamInTurn_65 : decode cX11_teamInTurn 65 = .ok (.iload_n 2, 1) := g_dec dt124_X11_teamInTurn_ok (k := 2) rfl
theorem dX11_teamInTurn_66 : decode cX11_teamInTurn 66 = .ok (.istore_n 1, 1) := g_dec dt124_X11_teamInTurn_ok (k := 3) rfl
theorem dX11_teamInTurn_4 : decode cX11_teamInTurn 4 = .ok (.iload_n 2, 1) := g_dec dt124_X11_teamInTurn_ok (k := 4) rfl
theorem dX11_teamInTurn_5 : decode cX11_teamInTurn 5 = .ok (.iconst 3, 1) := g_dec dt124_X11_teamInTurn_ok (k := 5) rfl
theorem dX11_teamInTurn_6 : decode cX11_teamInTurn 6 = .ok (.if_icmp .ge 67, 3) := g_dec dt124_X11_teamInTurn_ok (k := 6) rfl
theorem dX11_teamInTurn_73 : decode cX11_teamInTurn 73 = .ok (.iload_n 1, 1) := g_dec dt124_X11_teamInTurn_ok (k := 7) rfl
theorem dX11_teamInTurn_74 : decode cX11_teamInTurn 74 = .ok (.ireturn, 1) := g_dec dt124_X11_teamInTurn_ok (k := 8) rfl
theorem dX11_teamInTurn_9 : decode cX11_teamInTurn 9 = .ok (.aload_n 0, 1) := g_dec dt124_X11_teamInTurn_ok (k := 9) rfl
theorem dX11_teamInTurn_10 : decode cX11_teamInTurn 10 = .ok (.getfield 47, 3) := g_dec dt124_X11_teamInTurn_ok (k := 10) rfl
theorem dX11_teamInTurn_13 : decode cX11_teamInTurn 13 = .ok (.iconst 1, 1) := g_dec dt124_X11_teamInTurn_ok (k := 11) rfl
theorem dX11_teamInTurn_14 : decode cX11_teamInTurn 14 = .ok (.iload_n 2, 1) := g_dec dt124_X11_teamInTurn_ok (k := 12) rfl
theorem dX11_teamInTurn_15 : decode cX11_teamInTurn 15 = .ok (.invokevirtual 527, 3) := g_dec dt124_X11_teamInTurn_ok (k := 13) rfl
theorem dX11_teamInTurn_18 : decode cX11_teamInTurn 18 = .ok (.iconst (-1), 1) := g_dec dt124_X11_teamInTurn_ok (k := 14) rfl
theorem dX11_teamInTurn_19 : decode cX11_teamInTurn 19 = .ok (.if_icmp .eq 48, 3) := g_dec dt124_X11_teamInTurn_ok (k := 15) rfl
theorem dX11_teamInTurn_22 : decode cX11_teamInTurn 22 = .ok (.iload_n 1, 1) := g_dec dt124_X11_teamInTurn_ok (k := 16) rfl
theorem dX11_teamInTurn_23 : decode cX11_teamInTurn 23 = .ok (.iconst (-1), 1) := g_dec dt124_X11_teamInTurn_ok (k := 17) rfl
theorem dX11_teamInTurn_24 : decode cX11_teamInTurn 24 = .ok (.if_icmp .eq 41, 3) := g_dec dt124_X11_teamInTurn_ok (k := 18) rfl
theorem dX11_teamInTurn_27 : decode cX11_teamInTurn 27 = .ok (.aload_n 0, 1) := g_dec dt124_X11_teamInTurn_ok (k := 19) rfl
theorem dX11_teamInTurn_28 : decode cX11_teamInTurn 28 = .ok (.getfield 96, 3) := g_dec dt124_X11_teamInTurn_ok (k := 20) rfl
theorem dX11_teamInTurn_31 : decode cX11_teamInTurn 31 = .ok (.iload_n 2, 1) := g_dec dt124_X11_teamInTurn_ok (k := 21) rfl
theorem dX11_teamInTurn_32 : decode cX11_teamInTurn 32 = .ok (.invokevirtual 218, 3) := g_dec dt124_X11_teamInTurn_ok (k := 22) rfl
theorem dX11_teamInTurn_35 : decode cX11_teamInTurn 35 = .ok (.aload_n 0, 1) := g_dec dt124_X11_teamInTurn_ok (k := 23) rfl
theorem dX11_teamInTurn_36 : decode cX11_teamInTurn 36 = .ok (.getfield 93, 3) := g_dec dt124_X11_teamInTurn_ok (k := 24) rfl
theorem dX11_teamInTurn_39 : decode cX11_teamInTurn 39 = .ok (.iload_n 1, 1) := g_dec dt124_X11_teamInTurn_ok (k := 25) rfl
theorem dX11_teamInTurn_40 : decode cX11_teamInTurn 40 = .ok (.invokevirtual 218, 3) := g_dec dt124_X11_teamInTurn_ok (k := 26) rfl
theorem dX11_teamInTurn_43 : decode cX11_teamInTurn 43 = .ok (.lmul, 1) := g_dec dt124_X11_teamInTurn_ok (k := 27) rfl
theorem dX11_teamInTurn_44 : decode cX11_teamInTurn 44 = .ok (.aload_n 0, 1) := g_dec dt124_X11_teamInTurn_ok (k := 28) rfl
theorem dX11_teamInTurn_45 : decode cX11_teamInTurn 45 = .ok (.getfield 96, 3) := g_dec dt124_X11_teamInTurn_ok (k := 29) rfl
theorem dX11_teamInTurn_48 : decode cX11_teamInTurn 48 = .ok (.iload_n 1, 1) := g_dec dt124_X11_teamInTurn_ok (k := 30) rfl
theorem dX11_teamInTurn_49 : decode cX11_teamInTurn 49 = .ok (.invokevirtual 218, 3) := g_dec dt124_X11_teamInTurn_ok (k := 31) rfl
theorem dX11_teamInTurn_52 : decode cX11_teamInTurn 52 = .ok (.aload_n 0, 1) := g_dec dt124_X11_teamInTurn_ok (k := 32) rfl
theorem dX11_teamInTurn_53 : decode cX11_teamInTurn 53 = .ok (.getfield 93, 3) := g_dec dt124_X11_teamInTurn_ok (k := 33) rfl
theorem dX11_teamInTurn_56 : decode cX11_teamInTurn 56 = .ok (.iload_n 2, 1) := g_dec dt124_X11_teamInTurn_ok (k := 34) rfl
theorem dX11_teamInTurn_57 : decode cX11_teamInTurn 57 = .ok (.invokevirtual 218, 3) := g_dec dt124_X11_teamInTurn_ok (k := 35) rfl
theorem dX11_teamInTurn_60 : decode cX11_teamInTurn 60 = .ok (.lmul, 1) := g_dec dt124_X11_teamInTurn_ok (k := 36) rfl
theorem dX11_teamInTurn_61 : decode cX11_teamInTurn 61 = .ok (.lcmp, 1) := g_dec dt124_X11_teamInTurn_ok (k := 37) rfl
theorem dX11_teamInTurn_62 : decode cX11_teamInTurn 62 = .ok (.ifCond .ge 5, 3) := g_dec dt124_X11_teamInTurn_ok (k := 38) rfl
theorem dX11_teamInTurn_0 : decode cX11_teamInTurn 0 = .ok (.iconst (-1), 1) := g_dec dt124_X11_teamInTurn_ok (k := 39) rfl
theorem dX11_teamInTurn_1 : decode cX11_teamInTurn 1 = .ok (.istore_n 1, 1) := g_dec dt124_X11_teamInTurn_ok (k := 40) rfl
theorem dX11_teamInTurn_2 : decode cX11_teamInTurn 2 = .ok (.iconst 0, 1) := g_dec dt124_X11_teamInTurn_ok (k := 41) rfl
theorem dX11_teamInTurn_3 : decode cX11_teamInTurn 3 = .ok (.istore_n 2, 1) := g_dec dt124_X11_teamInTurn_ok (k := 42) rfl
def dt125_X11_takeWanted : List (Nat × Instr × Nat) := [(125, (.aload_n 0, 1)), (126, (.getfield 47, 3)), (129, (.getfield 544, 3)), (132, (.iload_n 2, 1)), (133, (.ldc2_w 547, 3)), (136, (.invokevirtual 190, 3)), (139, (.return_, 1)), (47, (.iload_n 2, 1)), (48, (.iconst (-1), 1)), (49, (.if_icmp .ne 4, 3)), (53, (.aload_n 0, 1)), (54, (.getfield 47, 3)), (57, (.getfield 533, 3)), (60, (.iload_n 2, 1)), (61, (.invokevirtual 187, 3)), (64, (.istore_n 3, 1)), (65, (.aload_n 1, 1)), (66, (.aload_n 0, 1)), (67, (.getfield 19, 3)), (70, (.aload_n 0, 1)), (71, (.getfield 47, 3)), (74, (.getfield 536, 3)), (77, (.iload_n 2, 1)), (78, (.invokevirtual 187, 3)), (81, (.invokevirtual 237, 3)), (84, (.aload_n 0, 1)), (85, (.getfield 47, 3)), (88, (.getfield 539, 3)), (91, (.iload_n 2, 1)), (92, (.invokevirtual 218, 3)), (95, (.invokevirtual 541, 3)), (98, (.istore 4, 2)), (100, (.iload_n 3, 1)), (101, (.iconst (-1), 1)), (102, (.if_icmp .eq 23, 3)), (105, (.aload_n 0, 1)), (106, (.getfield 96, 3)), (109, (.iload_n 3, 1)), (110, (.aload_n 0, 1)), (111, (.getfield 96, 3)), (114, (.iload_n 3, 1)), (115, (.invokevirtual 218, 3)), (118, (.iload 4, 2)), (120, (.i2l, 1)), (121, (.ladd, 1)), (122, (.invokevirtual 190, 3)), (52, (.return_, 1)), (46, (.istore_n 2, 1)), (0, (.aload_n 0, 1)), (1, (.getfield 47, 3)), (4, (.iconst 0, 1)), (5, (.iconst (-1), 1)), (6, (.invokevirtual 527, 3)), (9, (.istore_n 2, 1)), (10, (.iload_n 2, 1)), (11, (.iconst (-1), 1)), (12, (.if_icmp .ne 35, 3)), (15, (.aload_n 0, 1)), (16, (.invokevirtual 530, 3)), (19, (.istore_n 3, 1))]
theorem dt125_X11_takeWanted_ok : ∀ q ∈ dt125_X11_takeWanted, decode cX11_takeWanted q.1 = .ok q.2 := by decide +kernel
theorem dX11_takeWanted_125 : decode cX11_takeWanted 125 = .ok (.aload_n 0, 1) := g_dec dt125_X11_takeWanted_ok (k := 0) rfl
theorem dX11_takeWanted_126 : decode cX11_takeWanted 126 = .ok (.getfield 47, 3) := g_dec dt125_X11_takeWanted_ok (k := 1) rfl
theorem dX11_takeWanted_129 : decode cX11_takeWanted 129 = .ok (.getfield 544, 3) := g_dec dt125_X11_takeWanted_ok (k := 2) rfl
theorem dX11_takeWanted_132 : decode cX11_takeWanted 132 = .ok (.iload_n 2, 1) := g_dec dt125_X11_takeWanted_ok (k := 3) rfl
theorem dX11_takeWanted_133 : decode cX11_takeWanted 133 = .ok (.ldc2_w 547, 3) := g_dec dt125_X11_takeWanted_ok (k := 4) rfl
theorem dX11_takeWanted_136 : decode cX11_takeWanted 136 = .ok (.invokevirtual 190, 3) := g_dec dt125_X11_takeWanted_ok (k := 5) rfl
theorem dX11_takeWanted_139 : decode cX11_takeWanted 139 = .ok (.return_, 1) := g_dec dt125_X11_takeWanted_ok (k := 6) rfl
theorem dX11_takeWanted_47 : decode cX11_takeWanted 47 = .ok (.iload_n 2, 1) := g_dec dt125_X11_takeWanted_ok (k := 7) rfl
theorem dX11_takeWanted_48 : decode cX11_takeWanted 48 = .ok (.iconst (-1), 1) := g_dec dt125_X11_takeWanted_ok (k := 8) rfl
theorem dX11_takeWanted_49 : decode cX11_takeWanted 49 = .ok (.if_icmp .ne 4, 3) := g_dec dt125_X11_takeWanted_ok (k := 9) rfl
theorem dX11_takeWanted_53 : decode cX11_takeWanted 53 = .ok (.aload_n 0, 1) := g_dec dt125_X11_takeWanted_ok (k := 10) rfl
theorem dX11_takeWanted_54 : decode cX11_takeWanted 54 = .ok (.getfield 47, 3) := g_dec dt125_X11_takeWanted_ok (k := 11) rfl
theorem dX11_takeWanted_57 : decode cX11_takeWanted 57 = .ok (.getfield 533, 3) := g_dec dt125_X11_takeWanted_ok (k := 12) rfl
theorem dX11_takeWanted_60 : decode cX11_takeWanted 60 = .ok (.iload_n 2, 1) := g_dec dt125_X11_takeWanted_ok (k := 13) rfl
theorem dX11_takeWanted_61 : decode cX11_takeWanted 61 = .ok (.invokevirtual 187, 3) := g_dec dt125_X11_takeWanted_ok (k := 14) rfl
theorem dX11_takeWanted_64 : decode cX11_takeWanted 64 = .ok (.istore_n 3, 1) := g_dec dt125_X11_takeWanted_ok (k := 15) rfl
theorem dX11_takeWanted_65 : decode cX11_takeWanted 65 = .ok (.aload_n 1, 1) := g_dec dt125_X11_takeWanted_ok (k := 16) rfl
theorem dX11_takeWanted_66 : decode cX11_takeWanted 66 = .ok (.aload_n 0, 1) := g_dec dt125_X11_takeWanted_ok (k := 17) rfl
theorem dX11_takeWanted_67 : decode cX11_takeWanted 67 = .ok (.getfield 19, 3) := g_dec dt125_X11_takeWanted_ok (k := 18) rfl
theorem dX11_takeWanted_70 : decode cX11_takeWanted 70 = .ok (.aload_n 0, 1) := g_dec dt125_X11_takeWanted_ok (k := 19) rfl
theorem dX11_takeWanted_71 : decode cX11_takeWanted 71 = .ok (.getfield 47, 3) := g_dec dt125_X11_takeWanted_ok (k := 20) rfl
theorem dX11_takeWanted_74 : decode cX11_takeWanted 74 = .ok (.getfield 536, 3) := g_dec dt125_X11_takeWanted_ok (k := 21) rfl
theorem dX11_takeWanted_77 : decode cX11_takeWanted 77 = .ok (.iload_n 2, 1) := g_dec dt125_X11_takeWanted_ok (k := 22) rfl
theorem dX11_takeWanted_78 : decode cX11_takeWanted 78 = .ok (.invokevirtual 187, 3) := g_dec dt125_X11_takeWanted_ok (k := 23) rfl
theorem dX11_takeWanted_81 : decode cX11_takeWanted 81 = .ok (.invokevirtual 237, 3) := g_dec dt125_X11_takeWanted_ok (k := 24) rfl
theorem dX11_takeWanted_84 : decode cX11_takeWanted 84 = .ok (.aload_n 0, 1) := g_dec dt125_X11_takeWanted_ok (k := 25) rfl
theorem dX11_takeWanted_85 : decode cX11_takeWanted 85 = .ok (.getfield 47, 3) := g_dec dt125_X11_takeWanted_ok (k := 26) rfl
theorem dX11_takeWanted_88 : decode cX11_takeWanted 88 = .ok (.getfield 539, 3) := g_dec dt125_X11_takeWanted_ok (k := 27) rfl
theorem dX11_takeWanted_91 : decode cX11_takeWanted 91 = .ok (.iload_n 2, 1) := g_dec dt125_X11_takeWanted_ok (k := 28) rfl
theorem dX11_takeWanted_92 : decode cX11_takeWanted 92 = .ok (.invokevirtual 218, 3) := g_dec dt125_X11_takeWanted_ok (k := 29) rfl
theorem dX11_takeWanted_95 : decode cX11_takeWanted 95 = .ok (.invokevirtual 541, 3) := g_dec dt125_X11_takeWanted_ok (k := 30) rfl
theorem dX11_takeWanted_98 : decode cX11_takeWanted 98 = .ok (.istore 4, 2) := g_dec dt125_X11_takeWanted_ok (k := 31) rfl
theorem dX11_takeWanted_100 : decode cX11_takeWanted 100 = .ok (.iload_n 3, 1) := g_dec dt125_X11_takeWanted_ok (k := 32) rfl
theorem dX11_takeWanted_101 : decode cX11_takeWanted 101 = .ok (.iconst (-1), 1) := g_dec dt125_X11_takeWanted_ok (k := 33) rfl
theorem dX11_takeWanted_102 : decode cX11_takeWanted 102 = .ok (.if_icmp .eq 23, 3) := g_dec dt125_X11_takeWanted_ok (k := 34) rfl
theorem dX11_takeWanted_105 : decode cX11_takeWanted 105 = .ok (.aload_n 0, 1) := g_dec dt125_X11_takeWanted_ok (k := 35) rfl
theorem dX11_takeWanted_106 : decode cX11_takeWanted 106 = .ok (.getfield 96, 3) := g_dec dt125_X11_takeWanted_ok (k := 36) rfl
theorem dX11_takeWanted_109 : decode cX11_takeWanted 109 = .ok (.iload_n 3, 1) := g_dec dt125_X11_takeWanted_ok (k := 37) rfl
theorem dX11_takeWanted_110 : decode cX11_takeWanted 110 = .ok (.aload_n 0, 1) := g_dec dt125_X11_takeWanted_ok (k := 38) rfl
theorem dX11_takeWanted_111 : decode cX11_takeWanted 111 = .ok (.getfield 96, 3) := g_dec dt125_X11_takeWanted_ok (k := 39) rfl
theorem dX11_takeWanted_114 : decode cX11_takeWanted 114 = .ok (.iload_n 3, 1) := g_dec dt125_X11_takeWanted_ok (k := 40) rfl
theorem dX11_takeWanted_115 : decode cX11_takeWanted 115 = .ok (.invokevirtual 218, 3) := g_dec dt125_X11_takeWanted_ok (k := 41) rfl
theorem dX11_takeWanted_118 : decode cX11_takeWanted 118 = .ok (.iload 4, 2) := g_dec dt125_X11_takeWanted_ok (k := 42) rfl
theorem dX11_takeWanted_120 : decode cX11_takeWanted 120 = .ok (.i2l, 1) := g_dec dt125_X11_takeWanted_ok (k := 43) rfl
theorem dX11_takeWanted_121 : decode cX11_takeWanted 121 = .ok (.ladd, 1) := g_dec dt125_X11_takeWanted_ok (k := 44) rfl
theorem dX11_takeWanted_122 : decode cX11_takeWanted 122 = .ok (.invokevirtual 190, 3) := g_dec dt125_X11_takeWanted_ok (k := 45) rfl
theorem dX11_takeWanted_52 : decode cX11_takeWanted 52 = .ok (.return_, 1) := g_dec dt125_X11_takeWanted_ok (k := 46) rfl
theorem dX11_takeWanted_46 : decode cX11_takeWanted 46 = .ok (.istore_n 2, 1) := g_dec dt125_X11_takeWanted_ok (k := 47) rfl
theorem dX11_takeWanted_0 : decode cX11_takeWanted 0 = .ok (.aload_n 0, 1) := g_dec dt125_X11_takeWanted_ok (k := 48) rfl
theorem dX11_takeWanted_1 : decode cX11_takeWanted 1 = .ok (.getfield 47, 3) := g_dec dt125_X11_takeWanted_ok (k := 49) rfl
theorem dX11_takeWanted_4 : decode cX11_takeWanted 4 = .ok (.iconst 0, 1) := g_dec dt125_X11_takeWanted_ok (k := 50) rfl
theorem dX11_takeWanted_5 : decode cX11_takeWanted 5 = .ok (.iconst (-1), 1) := g_dec dt125_X11_takeWanted_ok (k := 51) rfl
theorem dX11_takeWanted_6 : decode cX11_takeWanted 6 = .ok (.invokevirtual 527, 3) := g_dec dt125_X11_takeWanted_ok (k := 52) rfl
theorem dX11_takeWanted_9 : decode cX11_takeWanted 9 = .ok (.istore_n 2, 1) := g_dec dt125_X11_takeWanted_ok (k := 53) rfl
theorem dX11_takeWanted_10 : decode cX11_takeWanted 10 = .ok (.iload_n 2, 1) := g_dec dt125_X11_takeWanted_ok (k := 54) rfl
theorem dX11_takeWanted_11 : decode cX11_takeWanted 11 = .ok (.iconst (-1), 1) := g_dec dt125_X11_takeWanted_ok (k := 55) rfl
theorem dX11_takeWanted_12 : decode cX11_takeWanted 12 = .ok (.if_icmp .ne 35, 3) := g_dec dt125_X11_takeWanted_ok (k := 56) rfl
theorem dX11_takeWanted_15 : decode cX11_takeWanted 15 = .ok (.aload_n 0, 1) := g_dec dt125_X11_takeWanted_ok (k := 57) rfl
theorem dX11_takeWanted_16 : decode cX11_takeWanted 16 = .ok (.invokevirtual 530, 3) := g_dec dt125_X11_takeWanted_ok (k := 58) rfl
theorem dX11_takeWanted_19 : decode cX11_takeWanted 19 = .ok (.istore_n 3, 1) := g_dec dt125_X11_takeWanted_ok (k := 59) rfl
def dt126_X11_takeWanted : List (Nat × Instr × Nat) := [(20, (.iload_n 3, 1)), (21, (.iconst (-1), 1)), (22, (.if_icmp .ne 15, 3)), (37, (.aload_n 0, 1)), (38, (.getfield 47, 3)), (41, (.iconst 1, 1)), (42, (.iload_n 3, 1)), (43, (.invokevirtual 527, 3)), (25, (.aload_n 0, 1)), (26, (.getfield 47, 3)), (29, (.iconst 2, 1)), (30, (.iconst (-1), 1)), (31, (.invokevirtual 527, 3)), (34, (.goto 12, 3))]
theorem dt126_X11_takeWanted_ok : ∀ q ∈ dt126_X11_takeWanted, decode cX11_takeWanted q.1 = .ok q.2 := by decide +kernel
theorem dX11_takeWanted_20 : decode cX11_takeWanted 20 = .ok (.iload_n 3, 1) := g_dec dt126_X11_takeWanted_ok (k := 0) rfl
theorem dX11_takeWanted_21 : decode cX11_takeWanted 21 = .ok (.iconst (-1), 1) := g_dec dt126_X11_takeWanted_ok (k := 1) rfl
theorem dX11_takeWanted_22 : decode cX11_takeWanted 22 = .ok (.if_icmp .ne 15, 3) := g_dec dt126_X11_takeWanted_ok (k := 2) rfl
theorem dX11_takeWanted_37 : decode cX11_takeWanted 37 = .ok (.aload_n 0, 1) := g_dec dt126_X11_takeWanted_ok (k := 3) rfl
theorem dX11_takeWanted_38 : decode cX11_takeWanted 38 = .ok (.getfield 47, 3) := g_dec dt126_X11_takeWanted_ok (k := 4) rfl
theorem dX11_takeWanted_41 : decode cX11_takeWanted 41 = .ok (.iconst 1, 1) := g_dec dt126_X11_takeWanted_ok (k := 5) rfl
theorem dX11_takeWanted_42 : decode cX11_takeWanted 42 = .ok (.iload_n 3, 1) := g_dec dt126_X11_takeWanted_ok (k := 6) rfl
theorem dX11_takeWanted_43 : decode cX11_takeWanted 43 = .ok (.invokevirtual 527, 3) := g_dec dt126_X11_takeWanted_ok (k := 7) rfl
theorem dX11_takeWanted_25 : decode cX11_takeWanted 25 = .ok (.aload_n 0, 1) := g_dec dt126_X11_takeWanted_ok (k := 8) rfl
theorem dX11_takeWanted_26 : decode cX11_takeWanted 26 = .ok (.getfield 47, 3) := g_dec dt126_X11_takeWanted_ok (k := 9) rfl
theorem dX11_takeWanted_29 : decode cX11_takeWanted 29 = .ok (.iconst 2, 1) := g_dec dt126_X11_takeWanted_ok (k := 10) rfl
theorem dX11_takeWanted_30 : decode cX11_takeWanted 30 = .ok (.iconst (-1), 1) := g_dec dt126_X11_takeWanted_ok (k := 11) rfl
theorem dX11_takeWanted_31 : decode cX11_takeWanted 31 = .ok (.invokevirtual 527, 3) := g_dec dt126_X11_takeWanted_ok (k := 12) rfl
theorem dX11_takeWanted_34 : decode cX11_takeWanted 34 = .ok (.goto 12, 3) := g_dec dt126_X11_takeWanted_ok (k := 13) rfl
theorem ggV_RX11_130_X2_beginOne : GoodIn wsL_law (wsV RX11 130 RX2 yX2_beginOne (Cond.code yX2_beginOne cX2_beginOne 3 none :: wsL_law)) := g_gi (fun _ h => h) gW_good (List.forall_mem_cons.mpr ⟨⟨gw_318, rfl⟩, List.forall_mem_cons.mpr ⟨⟨gw_319, rfl⟩, List.forall_mem_cons.mpr ⟨⟨gw_320, rfl⟩, List.forall_mem_cons.mpr ⟨⟨gw_15, rfl⟩, fun _ h => nomatch h⟩⟩⟩⟩) ⟨gw_321, rfl⟩
theorem ggS_RX11_106_X11_needPlace : GoodIn wsL_law (va_wsS RX11 106 yX11_needPlace (Cond.code yX11_needPlace cX11_needPlace 2 none :: wsL_law)) := g_gi (fun _ h => h) gW_good (List.forall_mem_cons.mpr ⟨⟨gw_288, rfl⟩, List.forall_mem_cons.mpr ⟨⟨gw_289, rfl⟩, List.forall_mem_cons.mpr ⟨⟨gw_2, rfl⟩, fun _ h => nomatch h⟩⟩⟩) ⟨gw_290, rfl⟩
theorem ggV_RX11_113_X2_at : GoodIn wsL_law (wsV RX11 113 RX2 yX2_at (Cond.code yX2_at cX2_at 3 (some (.object "Greentrunk$Change")) :: wsL_law)) := g_gi (fun _ h => h) gW_good (List.forall_mem_cons.mpr ⟨⟨gw_197, rfl⟩, List.forall_mem_cons.mpr ⟨⟨gw_198, rfl⟩, List.forall_mem_cons.mpr ⟨⟨gw_199, rfl⟩, List.forall_mem_cons.mpr ⟨⟨gw_15, rfl⟩, fun _ h => nomatch h⟩⟩⟩⟩) ⟨gw_200, rfl⟩
theorem ggV_RX11_117_X1_isToCome : GoodIn wsL_law (wsV RX11 117 RX1 yX1_isToCome (Cond.code yX1_isToCome cX1_isToCome 1 (some .boolean) :: wsL_law)) := g_gi (fun _ h => h) gW_good (List.forall_mem_cons.mpr ⟨⟨gw_309, rfl⟩, List.forall_mem_cons.mpr ⟨⟨gw_310, rfl⟩, List.forall_mem_cons.mpr ⟨⟨gw_311, rfl⟩, List.forall_mem_cons.mpr ⟨⟨gw_63, rfl⟩, fun _ h => nomatch h⟩⟩⟩⟩) ⟨gw_312, rfl⟩
theorem ggS_RX11_123_X11_needState : GoodIn wsL_law (va_wsS RX11 123 yX11_needState (Cond.code yX11_needState cX11_needState 1 none :: wsL_law)) := g_gi (fun _ h => h) gW_good (List.forall_mem_cons.mpr ⟨⟨gw_313, rfl⟩, List.forall_mem_cons.mpr ⟨⟨gw_314, rfl⟩, List.forall_mem_cons.mpr ⟨⟨gw_2, rfl⟩, fun _ h => nomatch h⟩⟩⟩) ⟨gw_315, rfl⟩
section
variable {p : Program} {l : Launch} {e : Env} {s : State} {m : MethodId} {args : Array Value} {below : List Frame} {meth : Method} {c : Code} {D : va_G} {y : Nat → ClassId} {aS : Nat → Nat} {A : Nat → Prop} {L : List Nat} {ad : Nat → Nat} {N : Nat} {res : (Int32 × gS)}
def fX11_begin_36 (N : Nat) (σ : gS) (x1 : Int32) (x2 : Int32) : Option (Int32 × gS) := (fX2_beginOne N σ x1 x2).bind fun r_1 => if ¬ ((σ.1 1 3) = 0 ∨ (σ.1 1 3) = 1) then none else (some ((σ.1 1 3), r_1))
set_option maxRecDepth 100000 in
set_option maxHeartbeats 4000000 in
theorem wX11_begin_36 {σ : gS} {x1 : Int32} {x2 : Int32} (hx : p.tables.exec = Jvm.exec) (hb : c.code = cX11_begin) (hr : meth.sig.returnType = (some .boolean)) (hml : c.maxLocals = 4) (hown : s.vm.findClass RX11 = some m.cls) (hg : ∀ w ∈ wsL_law, w.before args s = true) (hlocks : meth.locks = false) (hK : gK D y aS s) (hA : ∀ q, s.heap.size ≤ q → A q) (hL : ∀ k, k < 179 → k ∈ L) {H : Heap} {locs : List Loc} {ls : Array Slot} (hY : gY D y A s L ad σ H locs) (hl : lv_has ls 4 [(0, .ref (ad 0)), (1, .int x1), (2, .int x2)]) (h : fX11_begin_36 N σ x1 x2 = some res) : W p l e ({ frames := 1, cells := 0, slots := 0, locals := 22 } : Room) s m args below meth c H locs 0 0 (MQ below (va_Qi (fun (r : Int32) (_ : Unit) => r = res.1) (fun _ => gO D A (GW L y ad res.2)) A) args s 0 0 A) (F0 m 36 ls []) := by
  unfold fX11_begin_36 at h
  refine lv_aload_n hx hb dX11_begin_36 rfl (lv_at hl 0 rfl) ?_
  refine G_get (ci := 11) (j := 0) (C := RX11) (T := TX11) (N := 19) (v := .ref (ad 1)) hx hb hg inlX11 hown hK hY (hL 0 (by decide)) gk_0 (by decide) rfl (by decide) tX11_0 (hg _ gw_16) rfl dX11_begin_37 ?_
  refine G_get (ci := 2) (j := 3) (C := RX2) (T := TX2) (N := 5) (v := .int (σ.1 1 3)) hx hb hg inlX2 hown hK hY (hL 1 (by decide)) gk_1 (by decide) rfl (by decide) tX2_3 (hg _ gw_308) rfl dX11_begin_40 ?_
  refine lv_istore_n (lv' := [(3, .int (σ.1 1 3)), (0, .ref (ad 0)), (1, .int x1), (2, .int x2)]) hx hb dX11_begin_43 rfl hl (by decide) rfl ?_
  clear hl
  intro ls hl
  refine lv_aload_n hx hb dX11_begin_44 rfl (lv_at hl 1 rfl) ?_
  refine G_get (ci := 11) (j := 0) (C := RX11) (T := TX11) (N := 19) (v := .ref (ad 1)) hx hb hg inlX11 hown hK hY (hL 0 (by decide)) gk_0 (by decide) rfl (by decide) tX11_0 (hg _ gw_16) rfl dX11_begin_45 ?_
  refine lv_iload_n hx hb dX11_begin_48 rfl (lv_at hl 2 rfl) ?_
  refine lv_iload_n hx hb dX11_begin_49 rfl (lv_at hl 3 rfl) ?_
  obtain ⟨r_1, e_2, h⟩ := g_bind h
  refine G_av hY hA (va_runV (As := [.int x1, .int x2]) (rest := []) ⟨hx, hb, hml, hown, hg⟩ (kX2_beginOne l D y aS H.size L hL ad N σ x1 x2 _ e_2) (cwV 2 hg ggV_RX11_130_X2_beginOne rfl rfl rfl (by decide +kernel) ⟨Nat.le_of_ble_eq_true rfl, Nat.le_of_ble_eq_true rfl⟩) (G_pV (q := (RX2, TX2, 5)) hK hY (hL 1 (by decide)) gk_1 (by decide) rfl) rfl rfl hl.1 rfl (lv_room (Nat.le_of_ble_eq_true rfl)) dX11_begin_50 ⟨Nat.le_of_ble_eq_true rfl, Nat.le_of_ble_eq_true rfl⟩) ?_
  clear hY
  rintro H locs hY
  refine lv_iload_n hx hb dX11_begin_53 rfl (lv_at hl 0 rfl) ?_
  obtain ⟨z_3, h⟩ := g_guard h
  cases h
  exact g_iret hx hb hr hlocks () hY.1 hY.2.1 hY.2.2 (g_nz (Classical.not_not.mp z_3)) rfl (Nat.le_of_ble_eq_true rfl) (Nat.le_of_ble_eq_true rfl) dX11_begin_54
end
def fX11_begin (N : Nat) (σ : gS) (x1 : Int32) (x2 : Int32) : Option (Int32 × gS) := (fX11_needPlace N σ x1 (8 : Int32)).bind fun r_1 => if x2 = (-1) then (fX11_begin_36 N σ x1 x2) else ((fX11_needPlace N σ x2 (σ.1 1 4)).bind fun r_4 => (fX2_at N σ x2).bind fun r_6 => (fX1_isToCome N σ r_6).bind fun r_9 => (fX11_needState N σ r_9).bind fun r_11 => fX11_begin_36 N σ x1 x2)
set_option maxRecDepth 100000 in
set_option maxHeartbeats 4000000 in
theorem kX11_begin (l : Launch) (D : va_G) (y : Nat → ClassId) (aS : Nat → Nat) (sz : Nat) (L : List Nat) (hL : ∀ k, k < 179 → k ∈ L) (ad : Nat → Nat) (N : Nat) (σ : gS) (x1 : Int32) (x2 : Int32) (res : (Int32 × gS)) (h : fX11_begin N σ x1 x2 = some res) : Met l yX11_begin (Cond.code yX11_begin cX11_begin 4 (some .boolean) :: wsL_law) ({ frames := 1, cells := 0, slots := 0, locals := 22 } : Room) (va_Pc [.ref (ad 0), .int x1, .int x2] (gI D y aS (GW L y ad σ) sz)) (va_Qi (fun (r : Int32) (_ : Unit) => r = res.1) (fun _ => gO D (va_A (GW L y ad σ) sz) (GW L y ad res.2)) (va_A (GW L y ad σ) sz)) 0 0 (va_A (GW L y ad σ) sz) := by
  refine g_of (by decide) (Nat.le_of_ble_eq_true rfl) ?_
  intro p e s m below meth c ls A hx hb hr hml hown hg hlocks hin hsz hK hP hD hS hA hAe hl
  rw [← hAe]
  replace hown : s.vm.findClass RX11 = some m.cls := hown
  have hY : gY D y A s L ad σ s.heap [] := ⟨hP, hD, hS⟩
  clear hP hD hS
  replace hl : lv_has ls 4 [(0, .ref (ad 0)), (1, .int x1), (2, .int x2)] := hl
  unfold fX11_begin at h
  refine lv_iload_n hx hb dX11_begin_0 rfl (lv_at hl 1 rfl) ?_
  refine lv_bipush (v := 8) hx hb dX11_begin_1 (by decide +kernel) ?_
  obtain ⟨r_1, e_2, h⟩ := g_bind h
  refine G_av hY hA (va_runS (As := [.int x1, .int 8]) (rest := []) ⟨hx, hb, hml, hown, hg⟩ (kX11_needPlace l D y aS s.heap.size L hL ad N σ x1 (8 : Int32) _ e_2) (va_cwS 2 hg ggS_RX11_106_X11_needPlace rfl rfl rfl (by decide +kernel) ⟨Nat.le_of_ble_eq_true rfl, Nat.le_of_ble_eq_true rfl⟩) (G_pS hK hY) rfl rfl hl.1 rfl (lv_room (Nat.le_of_ble_eq_true rfl)) dX11_begin_3 ⟨Nat.le_of_ble_eq_true rfl, Nat.le_of_ble_eq_true rfl⟩) ?_
  clear hY
  rintro H locs hY
  refine lv_iload_n hx hb dX11_begin_6 rfl (lv_at hl 2 rfl) ?_
  refine lv_iconst (v := (-1)) hx hb dX11_begin_7 (by decide) ?_
  refine lv_icmp_eq (tgt := 36) hx hb dX11_begin_8 (by decide) (fun z_3 => ?_) (fun z_3 => ?_)
  ·
    rw [if_pos z_3] at h
    exact wX11_begin_36 hx hb hr hml hown hg hlocks hK hA hL hY (lv_sub hl [0, 1, 2] rfl) h
  ·
    rw [if_neg z_3] at h
    refine lv_iload_n hx hb dX11_begin_11 rfl (lv_at hl 2 rfl) ?_
    refine lv_aload_n hx hb dX11_begin_12 rfl (lv_at hl 0 rfl) ?_
    refine G_get (ci := 11) (j := 0) (C := RX11) (T := TX11) (N := 19) (v := .ref (ad 1)) hx hb hg inlX11 hown hK hY (hL 0 (by decide)) gk_0 (by decide) rfl (by decide) tX11_0 (hg _ gw_16) rfl dX11_begin_13 ?_
    refine G_get (ci := 2) (j := 4) (C := RX2) (T := TX2) (N := 5) (v := .int (σ.1 1 4)) hx hb hg inlX2 hown hK hY (hL 1 (by decide)) gk_1 (by decide) rfl (by decide) tX2_4 (hg _ gw_173) rfl dX11_begin_16 ?_
    obtain ⟨r_4, e_5, h⟩ := g_bind h
    refine G_av hY hA (va_runS (As := [.int x2, .int (σ.1 1 4)]) (rest := []) ⟨hx, hb, hml, hown, hg⟩ (kX11_needPlace l D y aS H.size L hL ad N σ x2 (σ.1 1 4) _ e_5) (va_cwS 2 hg ggS_RX11_106_X11_needPlace rfl rfl rfl (by decide +kernel) ⟨Nat.le_of_ble_eq_true rfl, Nat.le_of_ble_eq_true rfl⟩) (G_pS hK hY) rfl rfl hl.1 rfl (lv_room (Nat.le_of_ble_eq_true rfl)) dX11_begin_19 ⟨Nat.le_of_ble_eq_true rfl, Nat.le_of_ble_eq_true rfl⟩) ?_
    clear hY
    rintro H locs hY
    refine lv_aload_n hx hb dX11_begin_22 rfl (lv_at hl 0 rfl) ?_
    refine G_get (ci := 11) (j := 0) (C := RX11) (T := TX11) (N := 19) (v := .ref (ad 1)) hx hb hg inlX11 hown hK hY (hL 0 (by decide)) gk_0 (by decide) rfl (by decide) tX11_0 (hg _ gw_16) rfl dX11_begin_23 ?_
    refine lv_iload_n hx hb dX11_begin_26 rfl (lv_at hl 2 rfl) ?_
    obtain ⟨r_6, e_7, h⟩ := g_bind h
    refine G_ar hY hA (va_runV (As := [.int x2]) (rest := []) ⟨hx, hb, hml, hown, hg⟩ (kX2_at l D y aS H.size L hL ad N σ x2 _ e_7) (cwV 1 hg ggV_RX11_113_X2_at rfl rfl rfl (by decide +kernel) ⟨Nat.le_of_ble_eq_true rfl, Nat.le_of_ble_eq_true rfl⟩) (G_pV (q := (RX2, TX2, 5)) hK hY (hL 1 (by decide)) gk_1 (by decide) rfl) rfl rfl hl.1 rfl (lv_room (Nat.le_of_ble_eq_true rfl)) dX11_begin_27 ⟨Nat.le_of_ble_eq_true rfl, Nat.le_of_ble_eq_true rfl⟩) ?_
    clear hY
    rintro H locs k_8 hY
    obtain ⟨r_9, e_10, h⟩ := g_bind h
    refine G_ai hY hA (va_runV (As := []) (rest := []) ⟨hx, hb, hml, hown, hg⟩ (kX1_isToCome l D y aS H.size L hL ad N σ r_6 _ k_8 e_10) (cwV 0 hg ggV_RX11_117_X1_isToCome rfl rfl rfl (by decide +kernel) ⟨Nat.le_of_ble_eq_true rfl, Nat.le_of_ble_eq_true rfl⟩) (G_pV (q := (RX1, TX1, 14)) hK hY (hL _ (gcl_lt k_8 (by decide))) k_8 (by decide) rfl) rfl rfl hl.1 rfl (lv_room (Nat.le_of_ble_eq_true rfl)) dX11_begin_30 ⟨Nat.le_of_ble_eq_true rfl, Nat.le_of_ble_eq_true rfl⟩) ?_
    clear hY
    rintro _ H locs rfl hY
    obtain ⟨r_11, e_12, h⟩ := g_bind h
    refine G_av hY hA (va_runS (As := [.int r_9]) (rest := []) ⟨hx, hb, hml, hown, hg⟩ (kX11_needState l D y aS H.size L hL ad N σ r_9 _ e_12) (va_cwS 1 hg ggS_RX11_123_X11_needState rfl rfl rfl (by decide +kernel) ⟨Nat.le_of_ble_eq_true rfl, Nat.le_of_ble_eq_true rfl⟩) (G_pS hK hY) rfl rfl hl.1 rfl (lv_room (Nat.le_of_ble_eq_true rfl)) dX11_begin_33 ⟨Nat.le_of_ble_eq_true rfl, Nat.le_of_ble_eq_true rfl⟩) ?_
    clear hY
    rintro H locs hY
    exact wX11_begin_36 hx hb hr hml hown hg hlocks hK hA hL hY (lv_sub hl [0, 1, 2] rfl) h
theorem ggV_RX11_150_X1_setEdit : GoodIn wsL_law (wsV RX11 150 RX1 yX1_setEdit (Cond.code yX1_setEdit cX1_setEdit 5 none :: wsL_law)) := g_gi (fun _ h => h) gW_good (List.forall_mem_cons.mpr ⟨⟨gw_346, rfl⟩, List.forall_mem_cons.mpr ⟨⟨gw_347, rfl⟩, List.forall_mem_cons.mpr ⟨⟨gw_348, rfl⟩, List.forall_mem_cons.mpr ⟨⟨gw_63, rfl⟩, fun _ h => nomatch h⟩⟩⟩⟩) ⟨gw_349, rfl⟩
theorem ggS_RX11_144_J6_bitCount_0f7a4 : GoodIn wsL_law (va_wsS RX11 144 yJ6_bitCount_0f7a4 (Cond.code yJ6_bitCount_0f7a4 cJ6_bitCount_0f7a4 1 (some .int) :: wsL_law)) := g_gi (fun _ h => h) gW_good (List.forall_mem_cons.mpr ⟨⟨gw_339, rfl⟩, List.forall_mem_cons.mpr ⟨⟨gw_340, rfl⟩, List.forall_mem_cons.mpr ⟨⟨gw_341, rfl⟩, fun _ h => nomatch h⟩⟩⟩) ⟨gw_342, rfl⟩
theorem ggS_RX11_133_X11_needRange : GoodIn wsL_law (va_wsS RX11 133 yX11_needRange (Cond.code yX11_needRange cX11_needRange 3 none :: wsL_law)) := g_gi (fun _ h => h) gW_good (List.forall_mem_cons.mpr ⟨⟨gw_334, rfl⟩, List.forall_mem_cons.mpr ⟨⟨gw_335, rfl⟩, List.forall_mem_cons.mpr ⟨⟨gw_2, rfl⟩, fun _ h => nomatch h⟩⟩⟩) ⟨gw_336, rfl⟩
section
variable {p : Program} {l : Launch} {e : Env} {s : State} {m : MethodId} {args : Array Value} {below : List Frame} {meth : Method} {c : Code} {D : va_G} {y : Nat → ClassId} {aS : Nat → Nat} {A : Nat → Prop} {L : List Nat} {ad : Nat → Nat} {N : Nat} {res : (Int32 × gS)}
def fX11_edit_51 (N : Nat) (σ : gS) (x1 : Int32) (x2 : Int32) (xs0 : Int32) : Option (Int32 × gS) := (fX11_needState N σ xs0).bind fun r_1 => (fX1_setEdit N σ 4 x1 x2).bind fun r_3 => (fJ6_bitCount_0f7a4 N r_3 (r_3.1 4 5)).bind fun r_5 => some (r_5, r_3)
set_option maxRecDepth 100000 in
set_option maxHeartbeats 4000000 in
theorem wX11_edit_51 {σ : gS} {x1 : Int32} {x2 : Int32} {xs0 : Int32} (hx : p.tables.exec = Jvm.exec) (hb : c.code = cX11_edit) (hr : meth.sig.returnType = (some .int)) (hml : c.maxLocals = 4) (hown : s.vm.findClass RX11 = some m.cls) (hg : ∀ w ∈ wsL_law, w.before args s = true) (hlocks : meth.locks = false) (hK : gK D y aS s) (hA : ∀ q, s.heap.size ≤ q → A q) (hL : ∀ k, k < 179 → k ∈ L) {H : Heap} {locs : List Loc} {ls : Array Slot} (hY : gY D y A s L ad σ H locs) (hl : lv_has ls 4 [(1, .int x1), (2, .int x2), (3, .ref (ad 4))]) (h : fX11_edit_51 N σ x1 x2 xs0 = some res) : W p l e ({ frames := 1, cells := 0, slots := 0, locals := 24 } : Room) s m args below meth c H locs 0 0 (MQ below (va_Qi (fun (r : Int32) (_ : Unit) => r = res.1) (fun _ => gO D A (GW L y ad res.2)) A) args s 0 0 A) (F0 m 51 ls [.int xs0]) := by
  unfold fX11_edit_51 at h
  obtain ⟨r_1, e_2, h⟩ := g_bind h
  refine G_av hY hA (va_runS (As := [.int xs0]) (rest := []) ⟨hx, hb, hml, hown, hg⟩ (kX11_needState l D y aS H.size L hL ad N σ xs0 _ e_2) (va_cwS 1 hg ggS_RX11_123_X11_needState rfl rfl rfl (by decide +kernel) ⟨Nat.le_of_ble_eq_true rfl, Nat.le_of_ble_eq_true rfl⟩) (G_pS hK hY) rfl rfl hl.1 rfl (lv_room (Nat.le_of_ble_eq_true rfl)) dX11_edit_51 ⟨Nat.le_of_ble_eq_true rfl, Nat.le_of_ble_eq_true rfl⟩) ?_
  clear hY
  rintro H locs hY
  refine lv_aload_n hx hb dX11_edit_54 rfl (lv_at hl 2 rfl) ?_
  refine lv_iload_n hx hb dX11_edit_55 rfl (lv_at hl 0 rfl) ?_
  refine lv_iload_n hx hb dX11_edit_56 rfl (lv_at hl 1 rfl) ?_
  obtain ⟨r_3, e_4, h⟩ := g_bind h
  refine G_av hY hA (va_runV (As := [.int x1, .int x2]) (rest := []) ⟨hx, hb, hml, hown, hg⟩ (kX1_setEdit l D y aS H.size L hL ad N σ 4 x1 x2 _ gk_4 e_4) (cwV 2 hg ggV_RX11_150_X1_setEdit rfl rfl rfl (by decide +kernel) ⟨Nat.le_of_ble_eq_true rfl, Nat.le_of_ble_eq_true rfl⟩) (G_pV (q := (RX1, TX1, 14)) hK hY (hL 4 (by decide)) gk_4 (by decide) rfl) rfl rfl hl.1 rfl (lv_room (Nat.le_of_ble_eq_true rfl)) dX11_edit_57 ⟨Nat.le_of_ble_eq_true rfl, Nat.le_of_ble_eq_true rfl⟩) ?_
  clear hY
  rintro H locs hY
  refine lv_aload_n hx hb dX11_edit_60 rfl (lv_at hl 2 rfl) ?_
  refine G_get (ci := 1) (j := 5) (C := RX1) (T := TX1) (N := 14) (v := .int (r_3.1 4 5)) hx hb hg inlX1 hown hK hY (hL 4 (by decide)) gk_4 (by decide) rfl (by decide) tX1_5 (hg _ gw_333) rfl dX11_edit_61 ?_
  obtain ⟨r_5, e_6, h⟩ := g_bind h
  refine G_ai hY hA (va_runS (As := [.int (r_3.1 4 5)]) (rest := []) ⟨hx, hb, hml, hown, hg⟩ (kJ6_bitCount_0f7a4 l D y aS H.size L hL ad N r_3 (r_3.1 4 5) _ e_6) (va_cwS 1 hg ggS_RX11_144_J6_bitCount_0f7a4 rfl rfl rfl (by decide +kernel) ⟨Nat.le_of_ble_eq_true rfl, Nat.le_of_ble_eq_true rfl⟩) (G_pS hK hY) rfl rfl hl.1 rfl (lv_room (Nat.le_of_ble_eq_true rfl)) dX11_edit_64 ⟨Nat.le_of_ble_eq_true rfl, Nat.le_of_ble_eq_true rfl⟩) ?_
  clear hY
  rintro _ H locs rfl hY
  cases h
  exact g_iret hx hb hr hlocks () hY.1 hY.2.1 hY.2.2 rfl rfl (Nat.le_of_ble_eq_true rfl) (Nat.le_of_ble_eq_true rfl) dX11_edit_67
end
def fX11_edit (N : Nat) (σ : gS) (x1 : Int32) (x2 : Int32) : Option (Int32 × gS) := (fX11_needPlace N σ x1 (12 : Int32)).bind fun r_1 => (fX11_needRange N σ x2 (0 : Int32) (9 : Int32)).bind fun r_3 => (fX11_needState N σ (σ.1 1 3)).bind fun r_5 => (fJ6_bitCount_0f7a4 N σ ((σ.1 4 5) ||| ((1 : Int32) <<< (x1 &&& 31)))).bind fun r_7 => if 4 < r_7 then (fX11_edit_51 N σ x1 x2 0) else (fX11_edit_51 N σ x1 x2 1)
set_option maxRecDepth 100000 in
set_option maxHeartbeats 4000000 in
theorem kX11_edit (l : Launch) (D : va_G) (y : Nat → ClassId) (aS : Nat → Nat) (sz : Nat) (L : List Nat) (hL : ∀ k, k < 179 → k ∈ L) (ad : Nat → Nat) (N : Nat) (σ : gS) (x1 : Int32) (x2 : Int32) (res : (Int32 × gS)) (h : fX11_edit N σ x1 x2 = some res) : Met l yX11_edit (Cond.code yX11_edit cX11_edit 4 (some .int) :: wsL_law) ({ frames := 1, cells := 0, slots := 0, locals := 24 } : Room) (va_Pc [.ref (ad 0), .int x1, .int x2] (gI D y aS (GW L y ad σ) sz)) (va_Qi (fun (r : Int32) (_ : Unit) => r = res.1) (fun _ => gO D (va_A (GW L y ad σ) sz) (GW L y ad res.2)) (va_A (GW L y ad σ) sz)) 0 0 (va_A (GW L y ad σ) sz) := by
  refine g_of (by decide) (Nat.le_of_ble_eq_true rfl) ?_
  intro p e s m below meth c ls A hx hb hr hml hown hg hlocks hin hsz hK hP hD hS hA hAe hl
  rw [← hAe]
  replace hown : s.vm.findClass RX11 = some m.cls := hown
  have hY : gY D y A s L ad σ s.heap [] := ⟨hP, hD, hS⟩
  clear hP hD hS
  replace hl : lv_has ls 4 [(0, .ref (ad 0)), (1, .int x1), (2, .int x2)] := hl
  unfold fX11_edit at h
  refine lv_iload_n hx hb dX11_edit_0 rfl (lv_at hl 1 rfl) ?_
  refine lv_bipush (v := 12) hx hb dX11_edit_1 (by decide +kernel) ?_
  obtain ⟨r_1, e_2, h⟩ := g_bind h
  refine G_av hY hA (va_runS (As := [.int x1, .int 12]) (rest := []) ⟨hx, hb, hml, hown, hg⟩ (kX11_needPlace l D y aS s.heap.size L hL ad N σ x1 (12 : Int32) _ e_2) (va_cwS 2 hg ggS_RX11_106_X11_needPlace rfl rfl rfl (by decide +kernel) ⟨Nat.le_of_ble_eq_true rfl, Nat.le_of_ble_eq_true rfl⟩) (G_pS hK hY) rfl rfl hl.1 rfl (lv_room (Nat.le_of_ble_eq_true rfl)) dX11_edit_3 ⟨Nat.le_of_ble_eq_true rfl, Nat.le_of_ble_eq_true rfl⟩) ?_
  clear hY
  rintro H locs hY
  refine lv_iload_n hx hb dX11_edit_6 rfl (lv_at hl 2 rfl) ?_
  refine lv_iconst (v := 0) hx hb dX11_edit_7 (by decide) ?_
  refine lv_bipush (v := 9) hx hb dX11_edit_8 (by decide +kernel) ?_
  obtain ⟨r_3, e_4, h⟩ := g_bind h
  refine G_av hY hA (va_runS (As := [.int x2, .int 0, .int 9]) (rest := []) ⟨hx, hb, hml, hown, hg⟩ (kX11_needRange l D y aS H.size L hL ad N σ x2 (0 : Int32) (9 : Int32) _ e_4) (va_cwS 3 hg ggS_RX11_133_X11_needRange rfl rfl rfl (by decide +kernel) ⟨Nat.le_of_ble_eq_true rfl, Nat.le_of_ble_eq_true rfl⟩) (G_pS hK hY) rfl rfl hl.1 rfl (lv_room (Nat.le_of_ble_eq_true rfl)) dX11_edit_10 ⟨Nat.le_of_ble_eq_true rfl, Nat.le_of_ble_eq_true rfl⟩) ?_
  clear hY
  rintro H locs hY
  refine lv_aload_n hx hb dX11_edit_13 rfl (lv_at hl 0 rfl) ?_
  refine G_get (ci := 11) (j := 0) (C := RX11) (T := TX11) (N := 19) (v := .ref (ad 1)) hx hb hg inlX11 hown hK hY (hL 0 (by decide)) gk_0 (by decide) rfl (by decide) tX11_0 (hg _ gw_16) rfl dX11_edit_14 ?_
  refine G_get (ci := 2) (j := 3) (C := RX2) (T := TX2) (N := 5) (v := .int (σ.1 1 3)) hx hb hg inlX2 hown hK hY (hL 1 (by decide)) gk_1 (by decide) rfl (by decide) tX2_3 (hg _ gw_308) rfl dX11_edit_17 ?_
  obtain ⟨r_5, e_6, h⟩ := g_bind h
  refine G_av hY hA (va_runS (As := [.int (σ.1 1 3)]) (rest := []) ⟨hx, hb, hml, hown, hg⟩ (kX11_needState l D y aS H.size L hL ad N σ (σ.1 1 3) _ e_6) (va_cwS 1 hg ggS_RX11_123_X11_needState rfl rfl rfl (by decide +kernel) ⟨Nat.le_of_ble_eq_true rfl, Nat.le_of_ble_eq_true rfl⟩) (G_pS hK hY) rfl rfl hl.1 rfl (lv_room (Nat.le_of_ble_eq_true rfl)) dX11_edit_20 ⟨Nat.le_of_ble_eq_true rfl, Nat.le_of_ble_eq_true rfl⟩) ?_
  clear hY
  rintro H locs hY
  refine lv_aload_n hx hb dX11_edit_23 rfl (lv_at hl 0 rfl) ?_
  refine G_get (ci := 11) (j := 0) (C := RX11) (T := TX11) (N := 19) (v := .ref (ad 1)) hx hb hg inlX11 hown hK hY (hL 0 (by decide)) gk_0 (by decide) rfl (by decide) tX11_0 (hg _ gw_16) rfl dX11_edit_24 ?_
  refine G_get (ci := 2) (j := 2) (C := RX2) (T := TX2) (N := 5) (v := .ref (ad 4)) hx hb hg inlX2 hown hK hY (hL 1 (by decide)) gk_1 (by decide) rfl (by decide) tX2_2 (hg _ gw_332) rfl dX11_edit_27 ?_
  refine lv_astore_n (lv' := [(3, .ref (ad 4)), (0, .ref (ad 0)), (1, .int x1), (2, .int x2)]) hx hb dX11_edit_30 rfl hl (by decide) rfl ?_
  clear hl
  intro ls hl
  refine lv_aload_n hx hb dX11_edit_31 rfl (lv_at hl 0 rfl) ?_
  refine G_get (ci := 1) (j := 5) (C := RX1) (T := TX1) (N := 14) (v := .int (σ.1 4 5)) hx hb hg inlX1 hown hK hY (hL 4 (by decide)) gk_4 (by decide) rfl (by decide) tX1_5 (hg _ gw_333) rfl dX11_edit_32 ?_
  refine lv_iconst (v := 1) hx hb dX11_edit_35 (by decide) ?_
  refine lv_iload_n hx hb dX11_edit_36 rfl (lv_at hl 2 rfl) ?_
  refine lv_ishl hx hb dX11_edit_37 ?_
  refine lv_ior hx hb dX11_edit_38 ?_
  obtain ⟨r_7, e_8, h⟩ := g_bind h
  refine G_ai hY hA (va_runS (As := [.int ((σ.1 4 5) ||| ((1 : Int32) <<< (x1 &&& 31)))]) (rest := []) ⟨hx, hb, hml, hown, hg⟩ (kJ6_bitCount_0f7a4 l D y aS H.size L hL ad N σ ((σ.1 4 5) ||| ((1 : Int32) <<< (x1 &&& 31))) _ e_8) (va_cwS 1 hg ggS_RX11_144_J6_bitCount_0f7a4 rfl rfl rfl (by decide +kernel) ⟨Nat.le_of_ble_eq_true rfl, Nat.le_of_ble_eq_true rfl⟩) (G_pS hK hY) rfl rfl hl.1 rfl (lv_room (Nat.le_of_ble_eq_true rfl)) dX11_edit_39 ⟨Nat.le_of_ble_eq_true rfl, Nat.le_of_ble_eq_true rfl⟩) ?_
  clear hY
  rintro _ H locs rfl hY
  refine lv_iconst (v := 4) hx hb dX11_edit_42 (by decide) ?_
  refine lv_icmp_gt (tgt := 50) hx hb dX11_edit_43 (by decide) (fun z_9 => ?_) (fun z_9 => ?_)
  ·
    rw [if_pos z_9] at h
    refine lv_iconst (v := 0) hx hb dX11_edit_50 (by decide) ?_
    exact wX11_edit_51 hx hb hr hml hown hg hlocks hK hA hL hY (lv_sub hl [2, 3, 0] rfl) h
  ·
    rw [if_neg z_9] at h
    refine lv_iconst (v := 1) hx hb dX11_edit_46 (by decide) ?_
    refine lv_goto (tgt := 51) hx hb dX11_edit_47 (by decide) ?_
    exact wX11_edit_51 hx hb hr hml hown hg hlocks hK hA hL hY (lv_sub hl [2, 3, 0] rfl) h
theorem ggV_RX11_168_X2_addBegun : GoodIn wsL_law (wsV RX11 168 RX2 yX2_addBegun (Cond.code yX2_addBegun cX2_addBegun 4 (some .int) :: wsL_law)) := g_gi (fun _ h => h) gW_good (List.forall_mem_cons.mpr ⟨⟨gw_371, rfl⟩, List.forall_mem_cons.mpr ⟨⟨gw_372, rfl⟩, List.forall_mem_cons.mpr ⟨⟨gw_373, rfl⟩, List.forall_mem_cons.mpr ⟨⟨gw_15, rfl⟩, fun _ h => nomatch h⟩⟩⟩⟩) ⟨gw_374, rfl⟩
theorem ggV_RX11_218_X8_get : GoodIn wsL_law (wsV RX11 218 RX8 yX8_get (Cond.code yX8_get cX8_get 2 (some .long) :: wsL_law)) := g_gi (fun _ h => h) gW_good (List.forall_mem_cons.mpr ⟨⟨gw_258, rfl⟩, List.forall_mem_cons.mpr ⟨⟨gw_259, rfl⟩, List.forall_mem_cons.mpr ⟨⟨gw_260, rfl⟩, List.forall_mem_cons.mpr ⟨⟨gw_48, rfl⟩, fun _ h => nomatch h⟩⟩⟩⟩) ⟨gw_261, rfl⟩
section
variable {p : Program} {l : Launch} {e : Env} {s : State} {m : MethodId} {args : Array Value} {below : List Frame} {meth : Method} {c : Code} {D : va_G} {y : Nat → ClassId} {aS : Nat → Nat} {A : Nat → Prop} {L : List Nat} {ad : Nat → Nat} {N : Nat} {res : Int64}
end
def fX11_trunkTree (N : Nat) (σ : gS) : Option Int64 := (fX8_get N σ 151 ((σ.1 151 1) - 1)).bind fun r_1 => some r_1
set_option maxRecDepth 100000 in
set_option maxHeartbeats 4000000 in
theorem kX11_trunkTree (l : Launch) (D : va_G) (y : Nat → ClassId) (aS : Nat → Nat) (sz : Nat) (L : List Nat) (hL : ∀ k, k < 179 → k ∈ L) (ad : Nat → Nat) (N : Nat) (σ : gS) (res : Int64) (h : fX11_trunkTree N σ = some res) : Met l yX11_trunkTree (Cond.code yX11_trunkTree cX11_trunkTree 1 (some .long) :: wsL_law) ({ frames := 1, cells := 0, slots := 0, locals := 21 } : Room) (va_Pc [.ref (ad 0)] (gI D y aS (GW L y ad σ) sz)) (va_Ql (fun (r : Int64) (_ : Unit) => r = res) (fun _ => gO D (va_A (GW L y ad σ) sz) (GW L y ad σ)) (va_A (GW L y ad σ) sz)) 0 0 (va_A (GW L y ad σ) sz) := by
  refine g_of (by decide) (Nat.le_of_ble_eq_true rfl) ?_
  intro p e s m below meth c ls A hx hb hr hml hown hg hlocks hin hsz hK hP hD hS hA hAe hl
  rw [← hAe]
  replace hown : s.vm.findClass RX11 = some m.cls := hown
  have hY : gY D y A s L ad σ s.heap [] := ⟨hP, hD, hS⟩
  clear hP hD hS
  replace hl : lv_has ls 1 [(0, .ref (ad 0))] := hl
  unfold fX11_trunkTree at h
  refine lv_aload_n hx hb dX11_trunkTree_0 rfl (lv_at hl 0 rfl) ?_
  refine G_get (ci := 11) (j := 9) (C := RX11) (T := TX11) (N := 19) (v := .ref (ad 151)) hx hb hg inlX11 hown hK hY (hL 0 (by decide)) gk_0 (by decide) rfl (by decide) tX11_9 (hg _ gw_49) rfl dX11_trunkTree_1 ?_
  refine lv_aload_n hx hb dX11_trunkTree_4 rfl (lv_at hl 0 rfl) ?_
  refine G_get (ci := 11) (j := 9) (C := RX11) (T := TX11) (N := 19) (v := .ref (ad 151)) hx hb hg inlX11 hown hK hY (hL 0 (by decide)) gk_0 (by decide) rfl (by decide) tX11_9 (hg _ gw_49) rfl dX11_trunkTree_5 ?_
  refine G_get (ci := 8) (j := 1) (C := RX8) (T := TX8) (N := 2) (v := .int (σ.1 151 1)) hx hb hg inlX8 hown hK hY (hL 151 (by decide)) gk_151 (by decide) rfl (by decide) tX8_1 (hg _ gw_178) rfl dX11_trunkTree_8 ?_
  refine lv_iconst (v := 1) hx hb dX11_trunkTree_11 (by decide) ?_
  refine lv_isub hx hb dX11_trunkTree_12 ?_
  obtain ⟨r_1, e_2, h⟩ := g_bind h
  refine G_al hY hA (va_runV (As := [.int ((σ.1 151 1) - 1)]) (rest := []) ⟨hx, hb, hml, hown, hg⟩ (kX8_get l D y aS s.heap.size L hL ad N σ 151 ((σ.1 151 1) - 1) _ gk_151 e_2) (cwV 1 hg ggV_RX11_218_X8_get rfl rfl rfl (by decide +kernel) ⟨Nat.le_of_ble_eq_true rfl, Nat.le_of_ble_eq_true rfl⟩) (G_pV (q := (RX8, TX8, 2)) hK hY (hL 151 (by decide)) gk_151 (by decide) rfl) rfl rfl hl.1 rfl (lv_room (Nat.le_of_ble_eq_true rfl)) dX11_trunkTree_13 ⟨Nat.le_of_ble_eq_true rfl, Nat.le_of_ble_eq_true rfl⟩) ?_
  clear hY
  rintro _ H locs rfl hY
  cases h
  exact g_lret hx hb hr hlocks () hY.1 hY.2.1 hY.2.2 rfl (Nat.le_of_ble_eq_true rfl) (Nat.le_of_ble_eq_true rfl) dX11_trunkTree_16
theorem ggV_RX11_156_X11_trunkTree : GoodIn wsL_law (wsV RX11 156 RX11 yX11_trunkTree (Cond.code yX11_trunkTree cX11_trunkTree 1 (some .long) :: wsL_law)) := g_gi (fun _ h => h) gW_good (List.forall_mem_cons.mpr ⟨⟨gw_254, rfl⟩, List.forall_mem_cons.mpr ⟨⟨gw_255, rfl⟩, List.forall_mem_cons.mpr ⟨⟨gw_256, rfl⟩, List.forall_mem_cons.mpr ⟨⟨gw_2, rfl⟩, fun _ h => nomatch h⟩⟩⟩⟩) ⟨gw_257, rfl⟩
theorem ggV_RX11_160_X2_baseFor : GoodIn wsL_law (wsV RX11 160 RX2 yX2_baseFor (Cond.code yX2_baseFor cX2_baseFor 5 (some .long) :: wsL_law)) := g_gi (fun _ h => h) gW_good (List.forall_mem_cons.mpr ⟨⟨gw_357, rfl⟩, List.forall_mem_cons.mpr ⟨⟨gw_358, rfl⟩, List.forall_mem_cons.mpr ⟨⟨gw_359, rfl⟩, List.forall_mem_cons.mpr ⟨⟨gw_15, rfl⟩, fun _ h => nomatch h⟩⟩⟩⟩) ⟨gw_360, rfl⟩
theorem ggV_RX11_164_X1_hasIdleEditOn : GoodIn wsL_law (wsV RX11 164 RX1 yX1_hasIdleEditOn (Cond.code yX1_hasIdleEditOn cX1_hasIdleEditOn 4 (some .boolean) :: wsL_law)) := g_gi (fun _ h => h) gW_good (List.forall_mem_cons.mpr ⟨⟨gw_364, rfl⟩, List.forall_mem_cons.mpr ⟨⟨gw_365, rfl⟩, List.forall_mem_cons.mpr ⟨⟨gw_366, rfl⟩, List.forall_mem_cons.mpr ⟨⟨gw_63, rfl⟩, fun _ h => nomatch h⟩⟩⟩⟩) ⟨gw_367, rfl⟩
section
variable {p : Program} {l : Launch} {e : Env} {s : State} {m : MethodId} {args : Array Value} {below : List Frame} {meth : Method} {c : Code} {D : va_G} {y : Nat → ClassId} {aS : Nat → Nat} {A : Nat → Prop} {L : List Nat} {ad : Nat → Nat} {N : Nat} {res : (Int32 × gS)}
def fX11_make_104 (N : Nat) (σ : gS) (x2 : Int64) (xs0 : Int32) : Option (Int32 × gS) := (fX11_needState N σ xs0).bind fun r_1 => (fX2_addBegun N σ x2).bind fun r_3 => some (r_3.1, r_3.2)
set_option maxRecDepth 100000 in
set_option maxHeartbeats 4000000 in
theorem wX11_make_104 {σ : gS} {x2 : Int64} {xs0 : Int32} (hx : p.tables.exec = Jvm.exec) (hb : c.code = cX11_make) (hr : meth.sig.returnType = (some .int)) (hml : c.maxLocals = 4) (hown : s.vm.findClass RX11 = some m.cls) (hg : ∀ w ∈ wsL_law, w.before args s = true) (hlocks : meth.locks = false) (hK : gK D y aS s) (hA : ∀ q, s.heap.size ≤ q → A q) (hL : ∀ k, k < 179 → k ∈ L) {H : Heap} {locs : List Loc} {ls : Array Slot} (hY : gY D y A s L ad σ H locs) (hl : lv_has ls 4 [(0, .ref (ad 0)), (2, .long x2)]) (h : fX11_make_104 N σ x2 xs0 = some res) : W p l e ({ frames := 2, cells := 0, slots := 0, locals := 46 } : Room) s m args below meth c H locs 0 0 (MQ below (va_Qi (fun (r : Int32) (_ : Unit) => r = res.1) (fun _ => gO D A (GW L y ad res.2)) A) args s 0 0 A) (F0 m 104 ls [.int xs0]) := by
  unfold fX11_make_104 at h
  obtain ⟨r_1, e_2, h⟩ := g_bind h
  refine G_av hY hA (va_runS (As := [.int xs0]) (rest := []) ⟨hx, hb, hml, hown, hg⟩ (kX11_needState l D y aS H.size L hL ad N σ xs0 _ e_2) (va_cwS 1 hg ggS_RX11_123_X11_needState rfl rfl rfl (by decide +kernel) ⟨Nat.le_of_ble_eq_true rfl, Nat.le_of_ble_eq_true rfl⟩) (G_pS hK hY) rfl rfl hl.1 rfl (lv_room (Nat.le_of_ble_eq_true rfl)) dX11_make_104 ⟨Nat.le_of_ble_eq_true rfl, Nat.le_of_ble_eq_true rfl⟩) ?_
  clear hY
  rintro H locs hY
  refine lv_aload_n hx hb dX11_make_107 rfl (lv_at hl 0 rfl) ?_
  refine G_get (ci := 11) (j := 0) (C := RX11) (T := TX11) (N := 19) (v := .ref (ad 1)) hx hb hg inlX11 hown hK hY (hL 0 (by decide)) gk_0 (by decide) rfl (by decide) tX11_0 (hg _ gw_16) rfl dX11_make_108 ?_
  refine lv_lload_n hx hb dX11_make_111 rfl (lv_at hl 1 rfl) ?_
  obtain ⟨r_3, e_4, h⟩ := g_bind h
  refine G_ai hY hA (va_runV (As := [.long x2]) (rest := []) ⟨hx, hb, hml, hown, hg⟩ (kX2_addBegun l D y aS H.size L hL ad N σ x2 _ e_4) (cwV 1 hg ggV_RX11_168_X2_addBegun rfl rfl rfl (by decide +kernel) ⟨Nat.le_of_ble_eq_true rfl, Nat.le_of_ble_eq_true rfl⟩) (G_pV (q := (RX2, TX2, 5)) hK hY (hL 1 (by decide)) gk_1 (by decide) rfl) rfl rfl hl.1 rfl (lv_room (Nat.le_of_ble_eq_true rfl)) dX11_make_112 ⟨Nat.le_of_ble_eq_true rfl, Nat.le_of_ble_eq_true rfl⟩) ?_
  clear hY
  rintro _ H locs rfl hY
  cases h
  exact g_iret hx hb hr hlocks () hY.1 hY.2.1 hY.2.2 rfl rfl (Nat.le_of_ble_eq_true rfl) (Nat.le_of_ble_eq_true rfl) dX11_make_115
def fX11_make_75 (N : Nat) (σ : gS) (xs0 : Int32) : Option (Int32 × gS) := (fX11_needState N σ xs0).bind fun r_1 => (fX11_trunkTree N σ).bind fun r_3 => (fX2_baseFor N σ 4 r_3).bind fun r_5 => (fX1_hasIdleEditOn N σ 4 r_5).bind fun r_7 => if r_7 = 0 then (fX11_make_104 N σ r_5 1) else (fX11_make_104 N σ r_5 0)
set_option maxRecDepth 100000 in
set_option maxHeartbeats 4000000 in
theorem wX11_make_75 {σ : gS} {xs0 : Int32} (hx : p.tables.exec = Jvm.exec) (hb : c.code = cX11_make) (hr : meth.sig.returnType = (some .int)) (hml : c.maxLocals = 4) (hown : s.vm.findClass RX11 = some m.cls) (hg : ∀ w ∈ wsL_law, w.before args s = true) (hlocks : meth.locks = false) (hK : gK D y aS s) (hA : ∀ q, s.heap.size ≤ q → A q) (hL : ∀ k, k < 179 → k ∈ L) {H : Heap} {locs : List Loc} {ls : Array Slot} (hY : gY D y A s L ad σ H locs) (hl : lv_has ls 4 [(0, .ref (ad 0)), (1, .ref (ad 4))]) (h : fX11_make_75 N σ xs0 = some res) : W p l e ({ frames := 2, cells := 0, slots := 0, locals := 46 } : Room) s m args below meth c H locs 0 0 (MQ below (va_Qi (fun (r : Int32) (_ : Unit) => r = res.1) (fun _ => gO D A (GW L y ad res.2)) A) args s 0 0 A) (F0 m 75 ls [.int xs0]) := by
  unfold fX11_make_75 at h
  obtain ⟨r_1, e_2, h⟩ := g_bind h
  refine G_av hY hA (va_runS (As := [.int xs0]) (rest := []) ⟨hx, hb, hml, hown, hg⟩ (kX11_needState l D y aS H.size L hL ad N σ xs0 _ e_2) (va_cwS 1 hg ggS_RX11_123_X11_needState rfl rfl rfl (by decide +kernel) ⟨Nat.le_of_ble_eq_true rfl, Nat.le_of_ble_eq_true rfl⟩) (G_pS hK hY) rfl rfl hl.1 rfl (lv_room (Nat.le_of_ble_eq_true rfl)) dX11_make_75 ⟨Nat.le_of_ble_eq_true rfl, Nat.le_of_ble_eq_true rfl⟩) ?_
  clear hY
  rintro H locs hY
  refine lv_aload_n hx hb dX11_make_78 rfl (lv_at hl 0 rfl) ?_
  refine G_get (ci := 11) (j := 0) (C := RX11) (T := TX11) (N := 19) (v := .ref (ad 1)) hx hb hg inlX11 hown hK hY (hL 0 (by decide)) gk_0 (by decide) rfl (by decide) tX11_0 (hg _ gw_16) rfl dX11_make_79 ?_
  refine lv_aload_n hx hb dX11_make_82 rfl (lv_at hl 1 rfl) ?_
  refine lv_aload_n hx hb dX11_make_83 rfl (lv_at hl 0 rfl) ?_
  obtain ⟨r_3, e_4, h⟩ := g_bind h
  refine G_al hY hA (va_runV (As := []) (rest := [.ref (ad 4), .ref (ad 1)]) ⟨hx, hb, hml, hown, hg⟩ (kX11_trunkTree l D y aS H.size L hL ad N σ _ e_4) (cwV 0 hg ggV_RX11_156_X11_trunkTree rfl rfl rfl (by decide +kernel) ⟨Nat.le_of_ble_eq_true rfl, Nat.le_of_ble_eq_true rfl⟩) (G_pV (q := (RX11, TX11, 19)) hK hY (hL 0 (by decide)) gk_0 (by decide) rfl) rfl rfl hl.1 rfl (lv_room (Nat.le_of_ble_eq_true rfl)) dX11_make_84 ⟨Nat.le_of_ble_eq_true rfl, Nat.le_of_ble_eq_true rfl⟩) ?_
  clear hY
  rintro _ H locs rfl hY
  obtain ⟨r_5, e_6, h⟩ := g_bind h
  refine G_al hY hA (va_runV (As := [.ref (ad 4), .long r_3]) (rest := []) ⟨hx, hb, hml, hown, hg⟩ (kX2_baseFor l D y aS H.size L hL ad N σ 4 r_3 _ gk_4 e_6) (cwV 2 hg ggV_RX11_160_X2_baseFor rfl rfl rfl (by decide +kernel) ⟨Nat.le_of_ble_eq_true rfl, Nat.le_of_ble_eq_true rfl⟩) (G_pV (q := (RX2, TX2, 5)) hK hY (hL 1 (by decide)) gk_1 (by decide) rfl) rfl rfl hl.1 rfl (lv_room (Nat.le_of_ble_eq_true rfl)) dX11_make_87 ⟨Nat.le_of_ble_eq_true rfl, Nat.le_of_ble_eq_true rfl⟩) ?_
  clear hY
  rintro _ H locs rfl hY
  refine lv_lstore_n (lv' := [(2, .long r_5), (0, .ref (ad 0)), (1, .ref (ad 4))]) hx hb dX11_make_90 rfl hl (by decide) rfl ?_
  clear hl
  intro ls hl
  refine lv_aload_n hx hb dX11_make_91 rfl (lv_at hl 2 rfl) ?_
  refine lv_lload_n hx hb dX11_make_92 rfl (lv_at hl 0 rfl) ?_
  obtain ⟨r_7, e_8, h⟩ := g_bind h
  refine G_ai hY hA (va_runV (As := [.long r_5]) (rest := []) ⟨hx, hb, hml, hown, hg⟩ (kX1_hasIdleEditOn l D y aS H.size L hL ad N σ 4 r_5 _ gk_4 e_8) (cwV 1 hg ggV_RX11_164_X1_hasIdleEditOn rfl rfl rfl (by decide +kernel) ⟨Nat.le_of_ble_eq_true rfl, Nat.le_of_ble_eq_true rfl⟩) (G_pV (q := (RX1, TX1, 14)) hK hY (hL 4 (by decide)) gk_4 (by decide) rfl) rfl rfl hl.1 rfl (lv_room (Nat.le_of_ble_eq_true rfl)) dX11_make_93 ⟨Nat.le_of_ble_eq_true rfl, Nat.le_of_ble_eq_true rfl⟩) ?_
  clear hY
  rintro _ H locs rfl hY
  refine lv_if_ne (tgt := 103) hx hb dX11_make_96 (by decide) (fun z_9 => ?_) (fun z_9 => ?_)
  ·
    rw [if_neg z_9] at h
    refine lv_iconst (v := 0) hx hb dX11_make_103 (by decide) ?_
    exact wX11_make_104 hx hb hr hml hown hg hlocks hK hA hL hY (lv_sub hl [1, 0] rfl) h
  ·
    rw [if_pos z_9] at h
    refine lv_iconst (v := 1) hx hb dX11_make_99 (by decide) ?_
    refine lv_goto (tgt := 104) hx hb dX11_make_100 (by decide) ?_
    exact wX11_make_104 hx hb hr hml hown hg hlocks hK hA hL hY (lv_sub hl [1, 0] rfl) h
def fX11_make_70 (N : Nat) (σ : gS) : Option (Int32 × gS) := fX11_make_75 N σ 1
set_option maxRecDepth 100000 in
set_option maxHeartbeats 4000000 in
theorem wX11_make_70 {σ : gS} (hx : p.tables.exec = Jvm.exec) (hb : c.code = cX11_make) (hr : meth.sig.returnType = (some .int)) (hml : c.maxLocals = 4) (hown : s.vm.findClass RX11 = some m.cls) (hg : ∀ w ∈ wsL_law, w.before args s = true) (hlocks : meth.locks = false) (hK : gK D y aS s) (hA : ∀ q, s.heap.size ≤ q → A q) (hL : ∀ k, k < 179 → k ∈ L) {H : Heap} {locs : List Loc} {ls : Array Slot} (hY : gY D y A s L ad σ H locs) (hl : lv_has ls 4 [(0, .ref (ad 0)), (1, .ref (ad 4))]) (h : fX11_make_70 N σ = some res) : W p l e ({ frames := 2, cells := 0, slots := 0, locals := 46 } : Room) s m args below meth c H locs 0 0 (MQ below (va_Qi (fun (r : Int32) (_ : Unit) => r = res.1) (fun _ => gO D A (GW L y ad res.2)) A) args s 0 0 A) (F0 m 70 ls []) := by
  unfold fX11_make_70 at h
  refine lv_iconst (v := 1) hx hb dX11_make_70 (by decide) ?_
  refine lv_goto (tgt := 75) hx hb dX11_make_71 (by decide) ?_
  exact wX11_make_75 hx hb hr hml hown hg hlocks hK hA hL hY (lv_sub hl [0, 1] rfl) h
def fX11_make_42 (N : Nat) (σ : gS) (xs0 : Int32) : Option (Int32 × gS) := (fX11_needState N σ xs0).bind fun r_1 => if (σ.1 4 2) = (-1) then (fX11_make_70 N σ) else ((fX2_at N σ (σ.1 4 2)).bind fun r_4 => (fX1_isToCome N σ r_4).bind fun r_7 => if r_7 = 0 then (fX11_make_75 N σ 0) else (fX11_make_70 N σ))
set_option maxRecDepth 100000 in
set_option maxHeartbeats 4000000 in
theorem wX11_make_42 {σ : gS} {xs0 : Int32} (hx : p.tables.exec = Jvm.exec) (hb : c.code = cX11_make) (hr : meth.sig.returnType = (some .int)) (hml : c.maxLocals = 4) (hown : s.vm.findClass RX11 = some m.cls) (hg : ∀ w ∈ wsL_law, w.before args s = true) (hlocks : meth.locks = false) (hK : gK D y aS s) (hA : ∀ q, s.heap.size ≤ q → A q) (hL : ∀ k, k < 179 → k ∈ L) {H : Heap} {locs : List Loc} {ls : Array Slot} (hY : gY D y A s L ad σ H locs) (hl : lv_has ls 4 [(0, .ref (ad 0)), (1, .ref (ad 4))]) (h : fX11_make_42 N σ xs0 = some res) : W p l e ({ frames := 2, cells := 0, slots := 0, locals := 46 } : Room) s m args below meth c H locs 0 0 (MQ below (va_Qi (fun (r : Int32) (_ : Unit) => r = res.1) (fun _ => gO D A (GW L y ad res.2)) A) args s 0 0 A) (F0 m 42 ls [.int xs0]) := by
  unfold fX11_make_42 at h
  obtain ⟨r_1, e_2, h⟩ := g_bind h
  refine G_av hY hA (va_runS (As := [.int xs0]) (rest := []) ⟨hx, hb, hml, hown, hg⟩ (kX11_needState l D y aS H.size L hL ad N σ xs0 _ e_2) (va_cwS 1 hg ggS_RX11_123_X11_needState rfl rfl rfl (by decide +kernel) ⟨Nat.le_of_ble_eq_true rfl, Nat.le_of_ble_eq_true rfl⟩) (G_pS hK hY) rfl rfl hl.1 rfl (lv_room (Nat.le_of_ble_eq_true rfl)) dX11_make_42 ⟨Nat.le_of_ble_eq_true rfl, Nat.le_of_ble_eq_true rfl⟩) ?_
  clear hY
  rintro H locs hY
  refine lv_aload_n hx hb dX11_make_45 rfl (lv_at hl 1 rfl) ?_
  refine G_get (ci := 1) (j := 2) (C := RX1) (T := TX1) (N := 14) (v := .int (σ.1 4 2)) hx hb hg inlX1 hown hK hY (hL 4 (by decide)) gk_4 (by decide) rfl (by decide) tX1_2 (hg _ gw_356) rfl dX11_make_46 ?_
  refine lv_iconst (v := (-1)) hx hb dX11_make_49 (by decide) ?_
  refine lv_icmp_eq (tgt := 70) hx hb dX11_make_50 (by decide) (fun z_3 => ?_) (fun z_3 => ?_)
  ·
    rw [if_pos z_3] at h
    exact wX11_make_70 hx hb hr hml hown hg hlocks hK hA hL hY (lv_sub hl [0, 1] rfl) h
  ·
    rw [if_neg z_3] at h
    refine lv_aload_n hx hb dX11_make_53 rfl (lv_at hl 0 rfl) ?_
    refine G_get (ci := 11) (j := 0) (C := RX11) (T := TX11) (N := 19) (v := .ref (ad 1)) hx hb hg inlX11 hown hK hY (hL 0 (by decide)) gk_0 (by decide) rfl (by decide) tX11_0 (hg _ gw_16) rfl dX11_make_54 ?_
    refine lv_aload_n hx hb dX11_make_57 rfl (lv_at hl 1 rfl) ?_
    refine G_get (ci := 1) (j := 2) (C := RX1) (T := TX1) (N := 14) (v := .int (σ.1 4 2)) hx hb hg inlX1 hown hK hY (hL 4 (by decide)) gk_4 (by decide) rfl (by decide) tX1_2 (hg _ gw_356) rfl dX11_make_58 ?_
    obtain ⟨r_4, e_5, h⟩ := g_bind h
    refine G_ar hY hA (va_runV (As := [.int (σ.1 4 2)]) (rest := []) ⟨hx, hb, hml, hown, hg⟩ (kX2_at l D y aS H.size L hL ad N σ (σ.1 4 2) _ e_5) (cwV 1 hg ggV_RX11_113_X2_at rfl rfl rfl (by decide +kernel) ⟨Nat.le_of_ble_eq_true rfl, Nat.le_of_ble_eq_true rfl⟩) (G_pV (q := (RX2, TX2, 5)) hK hY (hL 1 (by decide)) gk_1 (by decide) rfl) rfl rfl hl.1 rfl (lv_room (Nat.le_of_ble_eq_true rfl)) dX11_make_61 ⟨Nat.le_of_ble_eq_true rfl, Nat.le_of_ble_eq_true rfl⟩) ?_
    clear hY
    rintro H locs k_6 hY
    obtain ⟨r_7, e_8, h⟩ := g_bind h
    refine G_ai hY hA (va_runV (As := []) (rest := []) ⟨hx, hb, hml, hown, hg⟩ (kX1_isToCome l D y aS H.size L hL ad N σ r_4 _ k_6 e_8) (cwV 0 hg ggV_RX11_117_X1_isToCome rfl rfl rfl (by decide +kernel) ⟨Nat.le_of_ble_eq_true rfl, Nat.le_of_ble_eq_true rfl⟩) (G_pV (q := (RX1, TX1, 14)) hK hY (hL _ (gcl_lt k_6 (by decide))) k_6 (by decide) rfl) rfl rfl hl.1 rfl (lv_room (Nat.le_of_ble_eq_true rfl)) dX11_make_64 ⟨Nat.le_of_ble_eq_true rfl, Nat.le_of_ble_eq_true rfl⟩) ?_
    clear hY
    rintro _ H locs rfl hY
    refine lv_if_eq (tgt := 74) hx hb dX11_make_67 (by decide) (fun z_9 => ?_) (fun z_9 => ?_)
    ·
      rw [if_pos z_9] at h
      refine lv_iconst (v := 0) hx hb dX11_make_74 (by decide) ?_
      exact wX11_make_75 hx hb hr hml hown hg hlocks hK hA hL hY (lv_sub hl [0, 1] rfl) h
    ·
      rw [if_neg z_9] at h
      exact wX11_make_70 hx hb hr hml hown hg hlocks hK hA hL hY (lv_sub hl [0, 1] rfl) h
def fX11_make_41 (N : Nat) (σ : gS) : Option (Int32 × gS) := fX11_make_42 N σ 0
set_option maxRecDepth 100000 in
set_option maxHeartbeats 4000000 in
theorem wX11_make_41 {σ : gS} (hx : p.tables.exec = Jvm.exec) (hb : c.code = cX11_make) (hr : meth.sig.returnType = (some .int)) (hml : c.maxLocals = 4) (hown : s.vm.findClass RX11 = some m.cls) (hg : ∀ w ∈ wsL_law, w.before args s = true) (hlocks : meth.locks = false) (hK : gK D y aS s) (hA : ∀ q, s.heap.size ≤ q → A q) (hL : ∀ k, k < 179 → k ∈ L) {H : Heap} {locs : List Loc} {ls : Array Slot} (hY : gY D y A s L ad σ H locs) (hl : lv_has ls 4 [(0, .ref (ad 0)), (1, .ref (ad 4))]) (h : fX11_make_41 N σ = some res) : W p l e ({ frames := 2, cells := 0, slots := 0, locals := 46 } : Room) s m args below meth c H locs 0 0 (MQ below (va_Qi (fun (r : Int32) (_ : Unit) => r = res.1) (fun _ => gO D A (GW L y ad res.2)) A) args s 0 0 A) (F0 m 41 ls []) := by
  unfold fX11_make_41 at h
  refine lv_iconst (v := 0) hx hb dX11_make_41 (by decide) ?_
  exact wX11_make_42 hx hb hr hml hown hg hlocks hK hA hL hY (lv_sub hl [0, 1] rfl) h
end
def fX11_make (N : Nat) (σ : gS) : Option (Int32 × gS) := if (σ.1 1 3) = 0 then (fX11_make_41 N σ) else (if (σ.1 4 5) = 0 then (fX11_make_41 N σ) else (if 60 ≤ (σ.1 1 4) then (fX11_make_41 N σ) else (fX11_make_42 N σ 1)))
set_option maxRecDepth 100000 in
set_option maxHeartbeats 4000000 in
theorem kX11_make (l : Launch) (D : va_G) (y : Nat → ClassId) (aS : Nat → Nat) (sz : Nat) (L : List Nat) (hL : ∀ k, k < 179 → k ∈ L) (ad : Nat → Nat) (N : Nat) (σ : gS) (res : (Int32 × gS)) (h : fX11_make N σ = some res) : Met l yX11_make (Cond.code yX11_make cX11_make 4 (some .int) :: wsL_law) ({ frames := 2, cells := 0, slots := 0, locals := 46 } : Room) (va_Pc [.ref (ad 0)] (gI D y aS (GW L y ad σ) sz)) (va_Qi (fun (r : Int32) (_ : Unit) => r = res.1) (fun _ => gO D (va_A (GW L y ad σ) sz) (GW L y ad res.2)) (va_A (GW L y ad σ) sz)) 0 0 (va_A (GW L y ad σ) sz) := by
  refine g_of (by decide) (Nat.le_of_ble_eq_true rfl) ?_
  intro p e s m below meth c ls A hx hb hr hml hown hg hlocks hin hsz hK hP hD hS hA hAe hl
  rw [← hAe]
  replace hown : s.vm.findClass RX11 = some m.cls := hown
  have hY : gY D y A s L ad σ s.heap [] := ⟨hP, hD, hS⟩
  clear hP hD hS
  replace hl : lv_has ls 4 [(0, .ref (ad 0))] := hl
  unfold fX11_make at h
  refine lv_aload_n hx hb dX11_make_0 rfl (lv_at hl 0 rfl) ?_
  refine G_get (ci := 11) (j := 0) (C := RX11) (T := TX11) (N := 19) (v := .ref (ad 1)) hx hb hg inlX11 hown hK hY (hL 0 (by decide)) gk_0 (by decide) rfl (by decide) tX11_0 (hg _ gw_16) rfl dX11_make_1 ?_
  refine G_get (ci := 2) (j := 2) (C := RX2) (T := TX2) (N := 5) (v := .ref (ad 4)) hx hb hg inlX2 hown hK hY (hL 1 (by decide)) gk_1 (by decide) rfl (by decide) tX2_2 (hg _ gw_332) rfl dX11_make_4 ?_
  refine lv_astore_n (lv' := [(1, .ref (ad 4)), (0, .ref (ad 0))]) hx hb dX11_make_7 rfl hl (by decide) rfl ?_
  clear hl
  intro ls hl
  refine lv_aload_n hx hb dX11_make_8 rfl (lv_at hl 1 rfl) ?_
  refine G_get (ci := 11) (j := 0) (C := RX11) (T := TX11) (N := 19) (v := .ref (ad 1)) hx hb hg inlX11 hown hK hY (hL 0 (by decide)) gk_0 (by decide) rfl (by decide) tX11_0 (hg _ gw_16) rfl dX11_make_9 ?_
  refine G_get (ci := 2) (j := 3) (C := RX2) (T := TX2) (N := 5) (v := .int (σ.1 1 3)) hx hb hg inlX2 hown hK hY (hL 1 (by decide)) gk_1 (by decide) rfl (by decide) tX2_3 (hg _ gw_308) rfl dX11_make_12 ?_
  refine lv_if_eq (tgt := 41) hx hb dX11_make_15 (by decide) (fun z_1 => ?_) (fun z_1 => ?_)
  ·
    rw [if_pos z_1] at h
    exact wX11_make_41 hx hb hr hml hown hg hlocks hK hA hL hY (lv_sub hl [1, 0] rfl) h
  ·
    rw [if_neg z_1] at h
    refine lv_aload_n hx hb dX11_make_18 rfl (lv_at hl 0 rfl) ?_
    refine G_get (ci := 1) (j := 5) (C := RX1) (T := TX1) (N := 14) (v := .int (σ.1 4 5)) hx hb hg inlX1 hown hK hY (hL 4 (by decide)) gk_4 (by decide) rfl (by decide) tX1_5 (hg _ gw_333) rfl dX11_make_19 ?_
    refine lv_if_eq (tgt := 41) hx hb dX11_make_22 (by decide) (fun z_2 => ?_) (fun z_2 => ?_)
    ·
      rw [if_pos z_2] at h
      exact wX11_make_41 hx hb hr hml hown hg hlocks hK hA hL hY (lv_sub hl [1, 0] rfl) h
    ·
      rw [if_neg z_2] at h
      refine lv_aload_n hx hb dX11_make_25 rfl (lv_at hl 1 rfl) ?_
      refine G_get (ci := 11) (j := 0) (C := RX11) (T := TX11) (N := 19) (v := .ref (ad 1)) hx hb hg inlX11 hown hK hY (hL 0 (by decide)) gk_0 (by decide) rfl (by decide) tX11_0 (hg _ gw_16) rfl dX11_make_26 ?_
      refine G_get (ci := 2) (j := 4) (C := RX2) (T := TX2) (N := 5) (v := .int (σ.1 1 4)) hx hb hg inlX2 hown hK hY (hL 1 (by decide)) gk_1 (by decide) rfl (by decide) tX2_4 (hg _ gw_173) rfl dX11_make_29 ?_
      refine lv_bipush (v := 60) hx hb dX11_make_32 (by decide +kernel) ?_
      refine lv_icmp_ge (tgt := 41) hx hb dX11_make_34 (by decide) (fun z_3 => ?_) (fun z_3 => ?_)
      ·
        rw [if_pos z_3] at h
        exact wX11_make_41 hx hb hr hml hown hg hlocks hK hA hL hY (lv_sub hl [1, 0] rfl) h
      ·
        rw [if_neg z_3] at h
        refine lv_iconst (v := 1) hx hb dX11_make_37 (by decide) ?_
        refine lv_goto (tgt := 42) hx hb dX11_make_38 (by decide) ?_
        exact wX11_make_42 hx hb hr hml hown hg hlocks hK hA hL hY (lv_sub hl [1, 0] rfl) h
theorem ggS_RX11_179_X11_contentIn : GoodIn wsL_law (va_wsS RX11 179 yX11_contentIn (Cond.code yX11_contentIn cX11_contentIn 3 (some .int) :: wsL_law)) := g_gi (fun _ h => h) gW_good (List.forall_mem_cons.mpr ⟨⟨gw_382, rfl⟩, List.forall_mem_cons.mpr ⟨⟨gw_368, rfl⟩, List.forall_mem_cons.mpr ⟨⟨gw_2, rfl⟩, fun _ h => nomatch h⟩⟩⟩) ⟨gw_369, rfl⟩
section
variable {p : Program} {l : Launch} {e : Env} {s : State} {m : MethodId} {args : Array Value} {below : List Frame} {meth : Method} {c : Code} {D : va_G} {y : Nat → ClassId} {aS : Nat → Nat} {A : Nat → Prop} {L : List Nat} {ad : Nat → Nat} {N : Nat} {res : (Int32 × gS)}
def fX11_rebase_151 (N : Nat) (σ : gS) (x5 : Int32) : Option (Int32 × gS) := some (x5, σ)
set_option maxRecDepth 100000 in
set_option maxHeartbeats 4000000 in
theorem wX11_rebase_151 {σ : gS} {x5 : Int32} (hx : p.tables.exec = Jvm.exec) (hb : c.code = cX11_rebase) (hr : meth.sig.returnType = (some .int)) (hml : c.maxLocals = 7) (hown : s.vm.findClass RX11 = some m.cls) (hg : ∀ w ∈ wsL_law, w.before args s = true) (hlocks : meth.locks = false) (hK : gK D y aS s) (hA : ∀ q, s.heap.size ≤ q → A q) (hL : ∀ k, k < 179 → k ∈ L) {H : Heap} {locs : List Loc} {ls : Array Slot} (hY : gY D y A s L ad σ H locs) (hl : lv_has ls 7 [(5, .int x5)]) (h : fX11_rebase_151 N σ x5 = some res) : W p l e ({ frames := 2, cells := 0, slots := 0, locals := 46 } : Room) s m args below meth c H locs 0 0 (MQ below (va_Qi (fun (r : Int32) (_ : Unit) => r = res.1) (fun _ => gO D A (GW L y ad res.2)) A) args s 0 0 A) (F0 m 151 ls []) := by
  unfold fX11_rebase_151 at h
  refine lv_iload hx hb dX11_rebase_151 (lv_at hl 0 rfl) ?_
  cases h
  exact g_iret hx hb hr hlocks () hY.1 hY.2.1 hY.2.2 rfl rfl (Nat.le_of_ble_eq_true rfl) (Nat.le_of_ble_eq_true rfl) dX11_rebase_153
def fX11_rebase_110 (N : Nat) (rec70 : (gS × Int32 × Int32) → Option (Int32 × gS)) (σ : gS) (r2 : Nat) (x3 : Int64) (x5 : Int32) (x6 : Int32) : Option (Int32 × gS) := rec70 (σ, x5, (x6 + 1))
set_option maxRecDepth 100000 in
set_option maxHeartbeats 4000000 in
theorem wX11_rebase_110 {rec70 : (gS × Int32 × Int32) → Option (Int32 × gS)} {σ : gS} {r2 : Nat} {x3 : Int64} {x5 : Int32} {x6 : Int32} (hx : p.tables.exec = Jvm.exec) (hb : c.code = cX11_rebase) (hr : meth.sig.returnType = (some .int)) (hml : c.maxLocals = 7) (hown : s.vm.findClass RX11 = some m.cls) (hg : ∀ w ∈ wsL_law, w.before args s = true) (hlocks : meth.locks = false) (hK : gK D y aS s) (hA : ∀ q, s.heap.size ≤ q → A q) (hL : ∀ k, k < 179 → k ∈ L) (hrec70 : ∀ {σ9 : gS} {x5n9 : Int32} {x6n9 : Int32} (H : Heap) (locs : List Loc) (ls : Array Slot), gY D y A s L ad σ9 H locs → lv_has ls 7 [(0, .ref (ad 0)), (2, .ref (ad r2)), (3, .long x3), (5, .int x5n9), (6, .int x6n9)] → rec70 (σ9, x5n9, x6n9) = some res → W p l e ({ frames := 2, cells := 0, slots := 0, locals := 46 } : Room) s m args below meth c H locs 0 0 (MQ below (va_Qi (fun (r : Int32) (_ : Unit) => r = res.1) (fun _ => gO D A (GW L y ad res.2)) A) args s 0 0 A) (F0 m 70 ls [])) (hr2 : gcl r2 = 1) {H : Heap} {locs : List Loc} {ls : Array Slot} (hY : gY D y A s L ad σ H locs) (hl : lv_has ls 7 [(0, .ref (ad 0)), (2, .ref (ad r2)), (3, .long x3), (5, .int x5), (6, .int x6)]) (h : fX11_rebase_110 N rec70 σ r2 x3 x5 x6 = some res) : W p l e ({ frames := 2, cells := 0, slots := 0, locals := 46 } : Room) s m args below meth c H locs 0 0 (MQ below (va_Qi (fun (r : Int32) (_ : Unit) => r = res.1) (fun _ => gO D A (GW L y ad res.2)) A) args s 0 0 A) (F0 m 110 ls []) := by
  unfold fX11_rebase_110 at h
  refine lv_iinc (v := (x6 + 1)) (lv' := [(6, .int (x6 + 1)), (0, .ref (ad 0)), (2, .ref (ad r2)), (3, .long x3), (5, .int x5)]) hx hb dX11_rebase_110 hl (k := 4) rfl rfl (by decide) rfl ?_
  clear hl
  intro ls hl
  refine lv_goto (tgt := 70) hx hb dX11_rebase_113 (by decide) ?_
  exact hrec70 _ _ _ hY (lv_sub hl [1, 2, 3, 4, 0] rfl) h
def fX11_rebase_70 (N : Nat) (r2 : Nat) (x3 : Int64) (rec70 : (gS × Int32 × Int32) → Option (Int32 × gS)) (xx : gS × Int32 × Int32) : Option (Int32 × gS) := match xx with
  | (σ, x5, x6) => if 12 ≤ x6 then (if ((sJ σ r2 7 x3).1 r2 2) = (-1) then (fX11_rebase_151 N (sJ σ r2 7 x3) x5) else ((fX2_at N (sJ σ r2 7 x3) ((sJ σ r2 7 x3).1 r2 2)).bind fun r_3 => (fX1_isToCome N (sJ σ r2 7 x3) r_3).bind fun r_6 => if r_6 = 0 then (fX11_rebase_151 N (sI (sJ σ r2 7 x3) r2 2 (-1)) x5) else (fX11_rebase_151 N (sJ σ r2 7 x3) x5))) else ((fX11_hasBit N σ (σ.1 r2 5) x6).bind fun r_9 => if r_9 = 0 then (fX11_rebase_110 N rec70 σ r2 x3 x5 x6) else ((fX11_contentIn N σ x3 x6).bind fun r_12 => (fX11_contentIn N σ (σ.2.1 r2 7) x6).bind fun r_14 => if r_12 = r_14 then (fX11_rebase_110 N rec70 σ r2 x3 x5 x6) else (fX11_rebase_110 N rec70 σ r2 x3 (x5 + 1) x6)))
set_option maxRecDepth 100000 in
set_option maxHeartbeats 4000000 in
theorem wX11_rebase_70 {r2 : Nat} {x3 : Int64} (hx : p.tables.exec = Jvm.exec) (hb : c.code = cX11_rebase) (hr : meth.sig.returnType = (some .int)) (hml : c.maxLocals = 7) (hown : s.vm.findClass RX11 = some m.cls) (hg : ∀ w ∈ wsL_law, w.before args s = true) (hlocks : meth.locks = false) (hK : gK D y aS s) (hA : ∀ q, s.heap.size ≤ q → A q) (hL : ∀ k, k < 179 → k ∈ L) (hr2 : gcl r2 = 1) : ∀ (n : Nat) {σ : gS} {x5 : Int32} {x6 : Int32} (H : Heap) (locs : List Loc) (ls : Array Slot), gY D y A s L ad σ H locs → lv_has ls 7 [(0, .ref (ad 0)), (2, .ref (ad r2)), (3, .long x3), (5, .int x5), (6, .int x6)] → lp (fX11_rebase_70 N r2 x3) n (σ, x5, x6) = some res → W p l e ({ frames := 2, cells := 0, slots := 0, locals := 46 } : Room) s m args below meth c H locs 0 0 (MQ below (va_Qi (fun (r : Int32) (_ : Unit) => r = res.1) (fun _ => gO D A (GW L y ad res.2)) A) args s 0 0 A) (F0 m 70 ls []) := by
  intro n
  induction n with
  | zero => intro σ x5 x6 H locs ls hY hl h; exact nomatch (show none = some res from h)
  | succ n hrec70 =>
    intro σ x5 x6 H locs ls hY hl h
    replace h : fX11_rebase_70 N r2 x3 (lp (fX11_rebase_70 N r2 x3) n) (σ, x5, x6) = some res := h
    generalize lp (fX11_rebase_70 N r2 x3) n = rec70 at h hrec70
    unfold fX11_rebase_70 at h
    try dsimp only at h
    refine lv_iload hx hb dX11_rebase_70 (lv_at hl 4 rfl) ?_
    refine lv_bipush (v := 12) hx hb dX11_rebase_72 (by decide +kernel) ?_
    refine lv_icmp_ge (tgt := 116) hx hb dX11_rebase_74 (by decide) (fun z_1 => ?_) (fun z_1 => ?_)
    ·
      rw [if_pos z_1] at h
      refine lv_aload_n hx hb dX11_rebase_116 rfl (lv_at hl 1 rfl) ?_
      refine lv_lload_n hx hb dX11_rebase_117 rfl (lv_at hl 2 rfl) ?_
      refine G_putJ (ci := 1) (j := 7) (C := RX1) (T := TX1) (N := 14) (v := x3) (ty := .long) hx hb hg inlX1 tyX1 tyX1_ok nmX1 hown hK hY (hL _ (gcl_lt hr2 (by decide))) hr2 (by decide) rfl (by decide) tX1_7 (hg _ gw_380) (by decide +kernel) rfl rfl (fun _ _ => rfl) (fun _ _ => Nat.le_of_ble_eq_true rfl) dX11_rebase_118 ?_
      clear hY
      intro H locs hY
      refine lv_aload_n hx hb dX11_rebase_121 rfl (lv_at hl 1 rfl) ?_
      refine G_get (ci := 1) (j := 2) (C := RX1) (T := TX1) (N := 14) (v := .int ((sJ σ r2 7 x3).1 r2 2)) hx hb hg inlX1 hown hK hY (hL _ (gcl_lt hr2 (by decide))) hr2 (by decide) rfl (by decide) tX1_2 (hg _ gw_356) rfl dX11_rebase_122 ?_
      refine lv_iconst (v := (-1)) hx hb dX11_rebase_125 (by decide) ?_
      refine lv_icmp_eq (tgt := 151) hx hb dX11_rebase_126 (by decide) (fun z_2 => ?_) (fun z_2 => ?_)
      ·
        rw [if_pos z_2] at h
        exact wX11_rebase_151 hx hb hr hml hown hg hlocks hK hA hL hY (lv_sub hl [3] rfl) h
      ·
        rw [if_neg z_2] at h
        refine lv_aload_n hx hb dX11_rebase_129 rfl (lv_at hl 0 rfl) ?_
        refine G_get (ci := 11) (j := 0) (C := RX11) (T := TX11) (N := 19) (v := .ref (ad 1)) hx hb hg inlX11 hown hK hY (hL 0 (by decide)) gk_0 (by decide) rfl (by decide) tX11_0 (hg _ gw_16) rfl dX11_rebase_130 ?_
        refine lv_aload_n hx hb dX11_rebase_133 rfl (lv_at hl 1 rfl) ?_
        refine G_get (ci := 1) (j := 2) (C := RX1) (T := TX1) (N := 14) (v := .int ((sJ σ r2 7 x3).1 r2 2)) hx hb hg inlX1 hown hK hY (hL _ (gcl_lt hr2 (by decide))) hr2 (by decide) rfl (by decide) tX1_2 (hg _ gw_356) rfl dX11_rebase_134 ?_
        obtain ⟨r_3, e_4, h⟩ := g_bind h
        refine G_ar hY hA (va_runV (As := [.int ((sJ σ r2 7 x3).1 r2 2)]) (rest := []) ⟨hx, hb, hml, hown, hg⟩ (kX2_at l D y aS H.size L hL ad N (sJ σ r2 7 x3) ((sJ σ r2 7 x3).1 r2 2) _ e_4) (cwV 1 hg ggV_RX11_113_X2_at rfl rfl rfl (by decide +kernel) ⟨Nat.le_of_ble_eq_true rfl, Nat.le_of_ble_eq_true rfl⟩) (G_pV (q := (RX2, TX2, 5)) hK hY (hL 1 (by decide)) gk_1 (by decide) rfl) rfl rfl hl.1 rfl (lv_room (Nat.le_of_ble_eq_true rfl)) dX11_rebase_137 ⟨Nat.le_of_ble_eq_true rfl, Nat.le_of_ble_eq_true rfl⟩) ?_
        clear hY
        rintro H locs k_5 hY
        obtain ⟨r_6, e_7, h⟩ := g_bind h
        refine G_ai hY hA (va_runV (As := []) (rest := []) ⟨hx, hb, hml, hown, hg⟩ (kX1_isToCome l D y aS H.size L hL ad N (sJ σ r2 7 x3) r_3 _ k_5 e_7) (cwV 0 hg ggV_RX11_117_X1_isToCome rfl rfl rfl (by decide +kernel) ⟨Nat.le_of_ble_eq_true rfl, Nat.le_of_ble_eq_true rfl⟩) (G_pV (q := (RX1, TX1, 14)) hK hY (hL _ (gcl_lt k_5 (by decide))) k_5 (by decide) rfl) rfl rfl hl.1 rfl (lv_room (Nat.le_of_ble_eq_true rfl)) dX11_rebase_140 ⟨Nat.le_of_ble_eq_true rfl, Nat.le_of_ble_eq_true rfl⟩) ?_
        clear hY
        rintro _ H locs rfl hY
        refine lv_if_ne (tgt := 151) hx hb dX11_rebase_143 (by decide) (fun z_8 => ?_) (fun z_8 => ?_)
        ·
          rw [if_neg z_8] at h
          exact wX11_rebase_151 hx hb hr hml hown hg hlocks hK hA hL hY (lv_sub hl [3] rfl) h
        ·
          rw [if_pos z_8] at h
          refine lv_aload_n hx hb dX11_rebase_146 rfl (lv_at hl 1 rfl) ?_
          refine lv_iconst (v := (-1)) hx hb dX11_rebase_147 (by decide) ?_
          refine G_putI (ci := 1) (j := 2) (C := RX1) (T := TX1) (N := 14) (v := (-1)) (ty := .int) hx hb hg inlX1 tyX1 tyX1_ok nmX1 hown hK hY (hL _ (gcl_lt hr2 (by decide))) hr2 (by decide) rfl (by decide) tX1_2 (hg _ gw_356) (by decide +kernel) rfl rfl (fun _ _ => rfl) (fun _ _ => Nat.le_of_ble_eq_true rfl) dX11_rebase_148 ?_
          clear hY
          intro H locs hY
          exact wX11_rebase_151 hx hb hr hml hown hg hlocks hK hA hL hY (lv_sub hl [3] rfl) h
    ·
      rw [if_neg z_1] at h
      refine lv_aload_n hx hb dX11_rebase_77 rfl (lv_at hl 1 rfl) ?_
      refine G_get (ci := 1) (j := 5) (C := RX1) (T := TX1) (N := 14) (v := .int (σ.1 r2 5)) hx hb hg inlX1 hown hK hY (hL _ (gcl_lt hr2 (by decide))) hr2 (by decide) rfl (by decide) tX1_5 (hg _ gw_333) rfl dX11_rebase_78 ?_
      refine lv_iload hx hb dX11_rebase_81 (lv_at hl 4 rfl) ?_
      obtain ⟨r_9, e_10, h⟩ := g_bind h
      refine G_ai hY hA (va_runS (As := [.int (σ.1 r2 5), .int x6]) (rest := []) ⟨hx, hb, hml, hown, hg⟩ (kX11_hasBit l D y aS H.size L hL ad N σ (σ.1 r2 5) x6 _ e_10) (va_cwS 2 hg ggS_RX11_175_X11_hasBit rfl rfl rfl (by decide +kernel) ⟨Nat.le_of_ble_eq_true rfl, Nat.le_of_ble_eq_true rfl⟩) (G_pS hK hY) rfl rfl hl.1 rfl (lv_room (Nat.le_of_ble_eq_true rfl)) dX11_rebase_83 ⟨Nat.le_of_ble_eq_true rfl, Nat.le_of_ble_eq_true rfl⟩) ?_
      clear hY
      rintro _ H locs rfl hY
      refine lv_if_eq (tgt := 110) hx hb dX11_rebase_86 (by decide) (fun z_11 => ?_) (fun z_11 => ?_)
      ·
        rw [if_pos z_11] at h
        exact wX11_rebase_110 hx hb hr hml hown hg hlocks hK hA hL hrec70 hr2 hY (lv_sub hl [0, 1, 2, 3, 4] rfl) h
      ·
        rw [if_neg z_11] at h
        refine lv_lload_n hx hb dX11_rebase_89 rfl (lv_at hl 2 rfl) ?_
        refine lv_iload hx hb dX11_rebase_90 (lv_at hl 4 rfl) ?_
        obtain ⟨r_12, e_13, h⟩ := g_bind h
        refine G_ai hY hA (va_runS (As := [.long x3, .int x6]) (rest := []) ⟨hx, hb, hml, hown, hg⟩ (kX11_contentIn l D y aS H.size L hL ad N σ x3 x6 _ e_13) (va_cwS 2 hg ggS_RX11_179_X11_contentIn rfl rfl rfl (by decide +kernel) ⟨Nat.le_of_ble_eq_true rfl, Nat.le_of_ble_eq_true rfl⟩) (G_pS hK hY) rfl rfl hl.1 rfl (lv_room (Nat.le_of_ble_eq_true rfl)) dX11_rebase_92 ⟨Nat.le_of_ble_eq_true rfl, Nat.le_of_ble_eq_true rfl⟩) ?_
        clear hY
        rintro _ H locs rfl hY
        refine lv_aload_n hx hb dX11_rebase_95 rfl (lv_at hl 1 rfl) ?_
        refine G_get (ci := 1) (j := 7) (C := RX1) (T := TX1) (N := 14) (v := .long (σ.2.1 r2 7)) hx hb hg inlX1 hown hK hY (hL _ (gcl_lt hr2 (by decide))) hr2 (by decide) rfl (by decide) tX1_7 (hg _ gw_380) rfl dX11_rebase_96 ?_
        refine lv_iload hx hb dX11_rebase_99 (lv_at hl 4 rfl) ?_
        obtain ⟨r_14, e_15, h⟩ := g_bind h
        refine G_ai hY hA (va_runS (As := [.long (σ.2.1 r2 7), .int x6]) (rest := [.int r_12]) ⟨hx, hb, hml, hown, hg⟩ (kX11_contentIn l D y aS H.size L hL ad N σ (σ.2.1 r2 7) x6 _ e_15) (va_cwS 2 hg ggS_RX11_179_X11_contentIn rfl rfl rfl (by decide +kernel) ⟨Nat.le_of_ble_eq_true rfl, Nat.le_of_ble_eq_true rfl⟩) (G_pS hK hY) rfl rfl hl.1 rfl (lv_room (Nat.le_of_ble_eq_true rfl)) dX11_rebase_101 ⟨Nat.le_of_ble_eq_true rfl, Nat.le_of_ble_eq_true rfl⟩) ?_
        clear hY
        rintro _ H locs rfl hY
        refine lv_icmp_eq (tgt := 110) hx hb dX11_rebase_104 (by decide) (fun z_16 => ?_) (fun z_16 => ?_)
        ·
          rw [if_pos z_16] at h
          exact wX11_rebase_110 hx hb hr hml hown hg hlocks hK hA hL hrec70 hr2 hY (lv_sub hl [0, 1, 2, 3, 4] rfl) h
        ·
          rw [if_neg z_16] at h
          refine lv_iinc (v := (x5 + 1)) (lv' := [(5, .int (x5 + 1)), (0, .ref (ad 0)), (2, .ref (ad r2)), (3, .long x3), (6, .int x6)]) hx hb dX11_rebase_107 hl (k := 3) rfl rfl (by decide) rfl ?_
          clear hl
          intro ls hl
          exact wX11_rebase_110 hx hb hr hml hown hg hlocks hK hA hL hrec70 hr2 hY (lv_sub hl [1, 2, 3, 0, 4] rfl) h
def fX11_rebase_61 (N : Nat) (σ : gS) (r2 : Nat) (x3 : Int64) (xs0 : Int32) : Option (Int32 × gS) := (fX11_needState N σ xs0).bind fun r_1 => lp (fX11_rebase_70 N r2 x3) N (σ, 0, 0)
set_option maxRecDepth 100000 in
set_option maxHeartbeats 4000000 in
theorem wX11_rebase_61 {σ : gS} {r2 : Nat} {x3 : Int64} {xs0 : Int32} (hx : p.tables.exec = Jvm.exec) (hb : c.code = cX11_rebase) (hr : meth.sig.returnType = (some .int)) (hml : c.maxLocals = 7) (hown : s.vm.findClass RX11 = some m.cls) (hg : ∀ w ∈ wsL_law, w.before args s = true) (hlocks : meth.locks = false) (hK : gK D y aS s) (hA : ∀ q, s.heap.size ≤ q → A q) (hL : ∀ k, k < 179 → k ∈ L) (hr2 : gcl r2 = 1) {H : Heap} {locs : List Loc} {ls : Array Slot} (hY : gY D y A s L ad σ H locs) (hl : lv_has ls 7 [(0, .ref (ad 0)), (2, .ref (ad r2)), (3, .long x3)]) (h : fX11_rebase_61 N σ r2 x3 xs0 = some res) : W p l e ({ frames := 2, cells := 0, slots := 0, locals := 46 } : Room) s m args below meth c H locs 0 0 (MQ below (va_Qi (fun (r : Int32) (_ : Unit) => r = res.1) (fun _ => gO D A (GW L y ad res.2)) A) args s 0 0 A) (F0 m 61 ls [.int xs0]) := by
  unfold fX11_rebase_61 at h
  obtain ⟨r_1, e_2, h⟩ := g_bind h
  refine G_av hY hA (va_runS (As := [.int xs0]) (rest := []) ⟨hx, hb, hml, hown, hg⟩ (kX11_needState l D y aS H.size L hL ad N σ xs0 _ e_2) (va_cwS 1 hg ggS_RX11_123_X11_needState rfl rfl rfl (by decide +kernel) ⟨Nat.le_of_ble_eq_true rfl, Nat.le_of_ble_eq_true rfl⟩) (G_pS hK hY) rfl rfl hl.1 rfl (lv_room (Nat.le_of_ble_eq_true rfl)) dX11_rebase_61 ⟨Nat.le_of_ble_eq_true rfl, Nat.le_of_ble_eq_true rfl⟩) ?_
  clear hY
  rintro H locs hY
  refine lv_iconst (v := 0) hx hb dX11_rebase_64 (by decide) ?_
  refine lv_istore (lv' := [(5, .int 0), (0, .ref (ad 0)), (2, .ref (ad r2)), (3, .long x3)]) hx hb dX11_rebase_65 hl (by decide) rfl ?_
  clear hl
  intro ls hl
  refine lv_iconst (v := 0) hx hb dX11_rebase_67 (by decide) ?_
  refine lv_istore (lv' := [(6, .int 0), (5, .int 0), (0, .ref (ad 0)), (2, .ref (ad r2)), (3, .long x3)]) hx hb dX11_rebase_68 hl (by decide) rfl ?_
  clear hl
  intro ls hl
  exact wX11_rebase_70 hx hb hr hml hown hg hlocks hK hA hL hr2 N _ _ _ hY (lv_sub hl [2, 3, 4, 1, 0] rfl) h
def fX11_rebase_32 (N : Nat) (σ : gS) (r2 : Nat) (xs0 : Int32) : Option (Int32 × gS) := (fX11_needState N σ xs0).bind fun r_1 => (fX11_trunkTree N σ).bind fun r_3 => (fX2_baseFor N σ r2 r_3).bind fun r_5 => (fX1_hasIdleEditOn N σ r2 r_5).bind fun r_7 => if r_7 = 0 then (fX11_rebase_61 N σ r2 r_5 1) else (fX11_rebase_61 N σ r2 r_5 0)
set_option maxRecDepth 100000 in
set_option maxHeartbeats 4000000 in
theorem wX11_rebase_32 {σ : gS} {r2 : Nat} {xs0 : Int32} (hx : p.tables.exec = Jvm.exec) (hb : c.code = cX11_rebase) (hr : meth.sig.returnType = (some .int)) (hml : c.maxLocals = 7) (hown : s.vm.findClass RX11 = some m.cls) (hg : ∀ w ∈ wsL_law, w.before args s = true) (hlocks : meth.locks = false) (hK : gK D y aS s) (hA : ∀ q, s.heap.size ≤ q → A q) (hL : ∀ k, k < 179 → k ∈ L) (hr2 : gcl r2 = 1) {H : Heap} {locs : List Loc} {ls : Array Slot} (hY : gY D y A s L ad σ H locs) (hl : lv_has ls 7 [(0, .ref (ad 0)), (2, .ref (ad r2))]) (h : fX11_rebase_32 N σ r2 xs0 = some res) : W p l e ({ frames := 2, cells := 0, slots := 0, locals := 46 } : Room) s m args below meth c H locs 0 0 (MQ below (va_Qi (fun (r : Int32) (_ : Unit) => r = res.1) (fun _ => gO D A (GW L y ad res.2)) A) args s 0 0 A) (F0 m 32 ls [.int xs0]) := by
  unfold fX11_rebase_32 at h
  obtain ⟨r_1, e_2, h⟩ := g_bind h
  refine G_av hY hA (va_runS (As := [.int xs0]) (rest := []) ⟨hx, hb, hml, hown, hg⟩ (kX11_needState l D y aS H.size L hL ad N σ xs0 _ e_2) (va_cwS 1 hg ggS_RX11_123_X11_needState rfl rfl rfl (by decide +kernel) ⟨Nat.le_of_ble_eq_true rfl, Nat.le_of_ble_eq_true rfl⟩) (G_pS hK hY) rfl rfl hl.1 rfl (lv_room (Nat.le_of_ble_eq_true rfl)) dX11_rebase_32 ⟨Nat.le_of_ble_eq_true rfl, Nat.le_of_ble_eq_true rfl⟩) ?_
  clear hY
  rintro H locs hY
  refine lv_aload_n hx hb dX11_rebase_35 rfl (lv_at hl 0 rfl) ?_
  refine G_get (ci := 11) (j := 0) (C := RX11) (T := TX11) (N := 19) (v := .ref (ad 1)) hx hb hg inlX11 hown hK hY (hL 0 (by decide)) gk_0 (by decide) rfl (by decide) tX11_0 (hg _ gw_16) rfl dX11_rebase_36 ?_
  refine lv_aload_n hx hb dX11_rebase_39 rfl (lv_at hl 1 rfl) ?_
  refine lv_aload_n hx hb dX11_rebase_40 rfl (lv_at hl 0 rfl) ?_
  obtain ⟨r_3, e_4, h⟩ := g_bind h
  refine G_al hY hA (va_runV (As := []) (rest := [.ref (ad r2), .ref (ad 1)]) ⟨hx, hb, hml, hown, hg⟩ (kX11_trunkTree l D y aS H.size L hL ad N σ _ e_4) (cwV 0 hg ggV_RX11_156_X11_trunkTree rfl rfl rfl (by decide +kernel) ⟨Nat.le_of_ble_eq_true rfl, Nat.le_of_ble_eq_true rfl⟩) (G_pV (q := (RX11, TX11, 19)) hK hY (hL 0 (by decide)) gk_0 (by decide) rfl) rfl rfl hl.1 rfl (lv_room (Nat.le_of_ble_eq_true rfl)) dX11_rebase_41 ⟨Nat.le_of_ble_eq_true rfl, Nat.le_of_ble_eq_true rfl⟩) ?_
  clear hY
  rintro _ H locs rfl hY
  obtain ⟨r_5, e_6, h⟩ := g_bind h
  refine G_al hY hA (va_runV (As := [.ref (ad r2), .long r_3]) (rest := []) ⟨hx, hb, hml, hown, hg⟩ (kX2_baseFor l D y aS H.size L hL ad N σ r2 r_3 _ hr2 e_6) (cwV 2 hg ggV_RX11_160_X2_baseFor rfl rfl rfl (by decide +kernel) ⟨Nat.le_of_ble_eq_true rfl, Nat.le_of_ble_eq_true rfl⟩) (G_pV (q := (RX2, TX2, 5)) hK hY (hL 1 (by decide)) gk_1 (by decide) rfl) rfl rfl hl.1 rfl (lv_room (Nat.le_of_ble_eq_true rfl)) dX11_rebase_44 ⟨Nat.le_of_ble_eq_true rfl, Nat.le_of_ble_eq_true rfl⟩) ?_
  clear hY
  rintro _ H locs rfl hY
  refine lv_lstore_n (lv' := [(3, .long r_5), (0, .ref (ad 0)), (2, .ref (ad r2))]) hx hb dX11_rebase_47 rfl hl (by decide) rfl ?_
  clear hl
  intro ls hl
  refine lv_aload_n hx hb dX11_rebase_48 rfl (lv_at hl 2 rfl) ?_
  refine lv_lload_n hx hb dX11_rebase_49 rfl (lv_at hl 0 rfl) ?_
  obtain ⟨r_7, e_8, h⟩ := g_bind h
  refine G_ai hY hA (va_runV (As := [.long r_5]) (rest := []) ⟨hx, hb, hml, hown, hg⟩ (kX1_hasIdleEditOn l D y aS H.size L hL ad N σ r2 r_5 _ hr2 e_8) (cwV 1 hg ggV_RX11_164_X1_hasIdleEditOn rfl rfl rfl (by decide +kernel) ⟨Nat.le_of_ble_eq_true rfl, Nat.le_of_ble_eq_true rfl⟩) (G_pV (q := (RX1, TX1, 14)) hK hY (hL _ (gcl_lt hr2 (by decide))) hr2 (by decide) rfl) rfl rfl hl.1 rfl (lv_room (Nat.le_of_ble_eq_true rfl)) dX11_rebase_50 ⟨Nat.le_of_ble_eq_true rfl, Nat.le_of_ble_eq_true rfl⟩) ?_
  clear hY
  rintro _ H locs rfl hY
  refine lv_if_ne (tgt := 60) hx hb dX11_rebase_53 (by decide) (fun z_9 => ?_) (fun z_9 => ?_)
  ·
    rw [if_neg z_9] at h
    refine lv_iconst (v := 0) hx hb dX11_rebase_60 (by decide) ?_
    exact wX11_rebase_61 hx hb hr hml hown hg hlocks hK hA hL hr2 hY (lv_sub hl [1, 2, 0] rfl) h
  ·
    rw [if_pos z_9] at h
    refine lv_iconst (v := 1) hx hb dX11_rebase_56 (by decide) ?_
    refine lv_goto (tgt := 61) hx hb dX11_rebase_57 (by decide) ?_
    exact wX11_rebase_61 hx hb hr hml hown hg hlocks hK hA hL hr2 hY (lv_sub hl [1, 2, 0] rfl) h
end
def fX11_rebase (N : Nat) (σ : gS) (x1 : Int32) : Option (Int32 × gS) := (fX11_needPlace N σ x1 (σ.1 1 4)).bind fun r_1 => (fX2_at N σ x1).bind fun r_3 => if (σ.1 r_3 3) = 0 then (fX11_rebase_32 N σ r_3 1) else (fX11_rebase_32 N σ r_3 0)
set_option maxRecDepth 100000 in
set_option maxHeartbeats 4000000 in
theorem kX11_rebase (l : Launch) (D : va_G) (y : Nat → ClassId) (aS : Nat → Nat) (sz : Nat) (L : List Nat) (hL : ∀ k, k < 179 → k ∈ L) (ad : Nat → Nat) (N : Nat) (σ : gS) (x1 : Int32) (res : (Int32 × gS)) (h : fX11_rebase N σ x1 = some res) : Met l yX11_rebase (Cond.code yX11_rebase cX11_rebase 7 (some .int) :: wsL_law) ({ frames := 2, cells := 0, slots := 0, locals := 46 } : Room) (va_Pc [.ref (ad 0), .int x1] (gI D y aS (GW L y ad σ) sz)) (va_Qi (fun (r : Int32) (_ : Unit) => r = res.1) (fun _ => gO D (va_A (GW L y ad σ) sz) (GW L y ad res.2)) (va_A (GW L y ad σ) sz)) 0 0 (va_A (GW L y ad σ) sz) := by
  refine g_of (by decide) (Nat.le_of_ble_eq_true rfl) ?_
  intro p e s m below meth c ls A hx hb hr hml hown hg hlocks hin hsz hK hP hD hS hA hAe hl
  rw [← hAe]
  replace hown : s.vm.findClass RX11 = some m.cls := hown
  have hY : gY D y A s L ad σ s.heap [] := ⟨hP, hD, hS⟩
  clear hP hD hS
  replace hl : lv_has ls 7 [(0, .ref (ad 0)), (1, .int x1)] := hl
  unfold fX11_rebase at h
  refine lv_iload_n hx hb dX11_rebase_0 rfl (lv_at hl 1 rfl) ?_
  refine lv_aload_n hx hb dX11_rebase_1 rfl (lv_at hl 0 rfl) ?_
  refine G_get (ci := 11) (j := 0) (C := RX11) (T := TX11) (N := 19) (v := .ref (ad 1)) hx hb hg inlX11 hown hK hY (hL 0 (by decide)) gk_0 (by decide) rfl (by decide) tX11_0 (hg _ gw_16) rfl dX11_rebase_2 ?_
  refine G_get (ci := 2) (j := 4) (C := RX2) (T := TX2) (N := 5) (v := .int (σ.1 1 4)) hx hb hg inlX2 hown hK hY (hL 1 (by decide)) gk_1 (by decide) rfl (by decide) tX2_4 (hg _ gw_173) rfl dX11_rebase_5 ?_
  obtain ⟨r_1, e_2, h⟩ := g_bind h
  refine G_av hY hA (va_runS (As := [.int x1, .int (σ.1 1 4)]) (rest := []) ⟨hx, hb, hml, hown, hg⟩ (kX11_needPlace l D y aS s.heap.size L hL ad N σ x1 (σ.1 1 4) _ e_2) (va_cwS 2 hg ggS_RX11_106_X11_needPlace rfl rfl rfl (by decide +kernel) ⟨Nat.le_of_ble_eq_true rfl, Nat.le_of_ble_eq_true rfl⟩) (G_pS hK hY) rfl rfl hl.1 rfl (lv_room (Nat.le_of_ble_eq_true rfl)) dX11_rebase_8 ⟨Nat.le_of_ble_eq_true rfl, Nat.le_of_ble_eq_true rfl⟩) ?_
  clear hY
  rintro H locs hY
  refine lv_aload_n hx hb dX11_rebase_11 rfl (lv_at hl 0 rfl) ?_
  refine G_get (ci := 11) (j := 0) (C := RX11) (T := TX11) (N := 19) (v := .ref (ad 1)) hx hb hg inlX11 hown hK hY (hL 0 (by decide)) gk_0 (by decide) rfl (by decide) tX11_0 (hg _ gw_16) rfl dX11_rebase_12 ?_
  refine lv_iload_n hx hb dX11_rebase_15 rfl (lv_at hl 1 rfl) ?_
  obtain ⟨r_3, e_4, h⟩ := g_bind h
  refine G_ar hY hA (va_runV (As := [.int x1]) (rest := []) ⟨hx, hb, hml, hown, hg⟩ (kX2_at l D y aS H.size L hL ad N σ x1 _ e_4) (cwV 1 hg ggV_RX11_113_X2_at rfl rfl rfl (by decide +kernel) ⟨Nat.le_of_ble_eq_true rfl, Nat.le_of_ble_eq_true rfl⟩) (G_pV (q := (RX2, TX2, 5)) hK hY (hL 1 (by decide)) gk_1 (by decide) rfl) rfl rfl hl.1 rfl (lv_room (Nat.le_of_ble_eq_true rfl)) dX11_rebase_16 ⟨Nat.le_of_ble_eq_true rfl, Nat.le_of_ble_eq_true rfl⟩) ?_
  clear hY
  rintro H locs k_5 hY
  refine lv_astore_n (lv' := [(2, .ref (ad r_3)), (0, .ref (ad 0)), (1, .int x1)]) hx hb dX11_rebase_19 rfl hl (by decide) rfl ?_
  clear hl
  intro ls hl
  refine lv_aload_n hx hb dX11_rebase_20 rfl (lv_at hl 0 rfl) ?_
  refine G_get (ci := 1) (j := 3) (C := RX1) (T := TX1) (N := 14) (v := .int (σ.1 r_3 3)) hx hb hg inlX1 hown hK hY (hL _ (gcl_lt k_5 (by decide))) k_5 (by decide) rfl (by decide) tX1_3 (hg _ gw_379) rfl dX11_rebase_21 ?_
  refine lv_if_ne (tgt := 31) hx hb dX11_rebase_24 (by decide) (fun z_6 => ?_) (fun z_6 => ?_)
  ·
    rw [if_neg z_6] at h
    refine lv_iconst (v := 0) hx hb dX11_rebase_31 (by decide) ?_
    exact wX11_rebase_32 hx hb hr hml hown hg hlocks hK hA hL k_5 hY (lv_sub hl [1, 0] rfl) h
  ·
    rw [if_pos z_6] at h
    refine lv_iconst (v := 1) hx hb dX11_rebase_27 (by decide) ?_
    refine lv_goto (tgt := 32) hx hb dX11_rebase_28 (by decide) ?_
    exact wX11_rebase_32 hx hb hr hml hown hg hlocks hK hA hL k_5 hY (lv_sub hl [1, 0] rfl) h
section
variable {p : Program} {l : Launch} {e : Env} {s : State} {m : MethodId} {args : Array Value} {below : List Frame} {meth : Method} {c : Code} {D : va_G} {y : Nat → ClassId} {aS : Nat → Nat} {A : Nat → Prop} {L : List Nat} {ad : Nat → Nat} {N : Nat} {res : gS}
end
def fX11_stir (N : Nat) (σ : gS) : Option gS := some (sI (sI σ 109 3 0) 0 18 0)
set_option maxRecDepth 100000 in
set_option maxHeartbeats 4000000 in
theorem kX11_stir (l : Launch) (D : va_G) (y : Nat → ClassId) (aS : Nat → Nat) (sz : Nat) (L : List Nat) (hL : ∀ k, k < 179 → k ∈ L) (ad : Nat → Nat) (N : Nat) (σ : gS) (res : gS) (h : fX11_stir N σ = some res) : Met l yX11_stir (Cond.code yX11_stir cX11_stir 1 none :: wsL_law) ({ frames := 0, cells := 0, slots := 0, locals := 0 } : Room) (va_Pc [.ref (ad 0)] (gI D y aS (GW L y ad σ) sz)) (va_Qv (fun (_ : Unit) => True) (fun _ => gO D (va_A (GW L y ad σ) sz) (GW L y ad res)) (va_A (GW L y ad σ) sz)) 0 0 (va_A (GW L y ad σ) sz) := by
  refine g_of (by decide) (Nat.le_of_ble_eq_true rfl) ?_
  intro p e s m below meth c ls A hx hb hr hml hown hg hlocks hin hsz hK hP hD hS hA hAe hl
  rw [← hAe]
  replace hown : s.vm.findClass RX11 = some m.cls := hown
  have hY : gY D y A s L ad σ s.heap [] := ⟨hP, hD, hS⟩
  clear hP hD hS
  replace hl : lv_has ls 1 [(0, .ref (ad 0))] := hl
  unfold fX11_stir at h
  refine lv_aload_n hx hb dX11_stir_0 rfl (lv_at hl 0 rfl) ?_
  refine G_get (ci := 11) (j := 3) (C := RX11) (T := TX11) (N := 19) (v := .ref (ad 109)) hx hb hg inlX11 hown hK hY (hL 0 (by decide)) gk_0 (by decide) rfl (by decide) tX11_3 (hg _ gw_28) rfl dX11_stir_1 ?_
  refine lv_iconst (v := 0) hx hb dX11_stir_4 (by decide) ?_
  refine G_putI (ci := 4) (j := 3) (C := RX4) (T := TX4) (N := 9) (v := 0) (ty := .boolean) hx hb hg inlX4 tyX4 tyX4_ok nmX4 hown hK hY (hL 109 (by decide)) gk_109 (by decide) rfl (by decide) tX4_3 (hg _ gw_195) (by decide +kernel) rfl rfl (fun _ _ => rfl) (fun _ _ => Nat.le_of_ble_eq_true rfl) dX11_stir_5 ?_
  clear hY
  intro H locs hY
  refine lv_aload_n hx hb dX11_stir_8 rfl (lv_at hl 0 rfl) ?_
  refine lv_iconst (v := 0) hx hb dX11_stir_9 (by decide) ?_
  refine G_putI (ci := 11) (j := 18) (C := RX11) (T := TX11) (N := 19) (v := 0) (ty := .boolean) hx hb hg inlX11 tyX11 tyX11_ok nmX11 hown hK hY (hL 0 (by decide)) gk_0 (by decide) rfl (by decide) tX11_18 (hg _ gw_408) (by decide +kernel) rfl rfl (fun _ _ => rfl) (fun _ _ => Nat.le_of_ble_eq_true rfl) dX11_stir_10 ?_
  clear hY
  intro H locs hY
  cases h
  exact g_vret hx hb hr hlocks () hY.1 hY.2.1 hY.2.2 trivial (Nat.le_of_ble_eq_true rfl) (Nat.le_of_ble_eq_true rfl) dX11_stir_13
theorem ggV_RX11_230_X11_stir : GoodIn wsL_law (wsV RX11 230 RX11 yX11_stir (Cond.code yX11_stir cX11_stir 1 none :: wsL_law)) := g_gi (fun _ h => h) gW_good (List.forall_mem_cons.mpr ⟨⟨gw_404, rfl⟩, List.forall_mem_cons.mpr ⟨⟨gw_405, rfl⟩, List.forall_mem_cons.mpr ⟨⟨gw_406, rfl⟩, List.forall_mem_cons.mpr ⟨⟨gw_2, rfl⟩, fun _ h => nomatch h⟩⟩⟩⟩) ⟨gw_407, rfl⟩
section
variable {p : Program} {l : Launch} {e : Env} {s : State} {m : MethodId} {args : Array Value} {below : List Frame} {meth : Method} {c : Code} {D : va_G} {y : Nat → ClassId} {aS : Nat → Nat} {A : Nat → Prop} {L : List Nat} {ad : Nat → Nat} {N : Nat} {res : gS}
end
def fX11_putInQueue (N : Nat) (σ : gS) (r1 : Nat) (x2 : Int32) : Option gS := (fX11_stir N (sI (sI (sI (sI σ r1 3 1) r1 10 x2) r1 11 ((sI (sI σ r1 3 1) r1 10 x2).1 109 2)) 109 2 (((sI (sI (sI σ r1 3 1) r1 10 x2) r1 11 ((sI (sI σ r1 3 1) r1 10 x2).1 109 2)).1 109 2) + 1))).bind fun r_1 => some r_1
set_option maxRecDepth 100000 in
set_option maxHeartbeats 4000000 in
theorem kX11_putInQueue (l : Launch) (D : va_G) (y : Nat → ClassId) (aS : Nat → Nat) (sz : Nat) (L : List Nat) (hL : ∀ k, k < 179 → k ∈ L) (ad : Nat → Nat) (N : Nat) (σ : gS) (r1 : Nat) (x2 : Int32) (res : gS) (hr1 : gcl r1 = 1) (h : fX11_putInQueue N σ r1 x2 = some res) : Met l yX11_putInQueue (Cond.code yX11_putInQueue cX11_putInQueue 3 none :: wsL_law) ({ frames := 1, cells := 0, slots := 0, locals := 20 } : Room) (va_Pc [.ref (ad 0), .ref (ad r1), .int x2] (gI D y aS (GW L y ad σ) sz)) (va_Qv (fun (_ : Unit) => True) (fun _ => gO D (va_A (GW L y ad σ) sz) (GW L y ad res)) (va_A (GW L y ad σ) sz)) 0 0 (va_A (GW L y ad σ) sz) := by
  refine g_of (by decide) (Nat.le_of_ble_eq_true rfl) ?_
  intro p e s m below meth c ls A hx hb hr hml hown hg hlocks hin hsz hK hP hD hS hA hAe hl
  rw [← hAe]
  replace hown : s.vm.findClass RX11 = some m.cls := hown
  have hY : gY D y A s L ad σ s.heap [] := ⟨hP, hD, hS⟩
  clear hP hD hS
  replace hl : lv_has ls 3 [(0, .ref (ad 0)), (1, .ref (ad r1)), (2, .int x2)] := hl
  unfold fX11_putInQueue at h
  refine lv_aload_n hx hb dX11_putInQueue_0 rfl (lv_at hl 1 rfl) ?_
  refine lv_iconst (v := 1) hx hb dX11_putInQueue_1 (by decide) ?_
  refine G_putI (ci := 1) (j := 3) (C := RX1) (T := TX1) (N := 14) (v := 1) (ty := .int) hx hb hg inlX1 tyX1 tyX1_ok nmX1 hown hK hY (hL _ (gcl_lt hr1 (by decide))) hr1 (by decide) rfl (by decide) tX1_3 (hg _ gw_379) (by decide +kernel) rfl rfl (fun _ _ => rfl) (fun _ _ => Nat.le_of_ble_eq_true rfl) dX11_putInQueue_2 ?_
  clear hY
  intro H locs hY
  refine lv_aload_n hx hb dX11_putInQueue_5 rfl (lv_at hl 1 rfl) ?_
  refine lv_iload_n hx hb dX11_putInQueue_6 rfl (lv_at hl 2 rfl) ?_
  refine G_putI (ci := 1) (j := 10) (C := RX1) (T := TX1) (N := 14) (v := x2) (ty := .int) hx hb hg inlX1 tyX1 tyX1_ok nmX1 hown hK hY (hL _ (gcl_lt hr1 (by decide))) hr1 (by decide) rfl (by decide) tX1_10 (hg _ gw_401) (by decide +kernel) rfl rfl (fun _ _ => rfl) (fun _ _ => Nat.le_of_ble_eq_true rfl) dX11_putInQueue_7 ?_
  clear hY
  intro H locs hY
  refine lv_aload_n hx hb dX11_putInQueue_10 rfl (lv_at hl 1 rfl) ?_
  refine lv_aload_n hx hb dX11_putInQueue_11 rfl (lv_at hl 0 rfl) ?_
  refine G_get (ci := 11) (j := 3) (C := RX11) (T := TX11) (N := 19) (v := .ref (ad 109)) hx hb hg inlX11 hown hK hY (hL 0 (by decide)) gk_0 (by decide) rfl (by decide) tX11_3 (hg _ gw_28) rfl dX11_putInQueue_12 ?_
  refine G_get (ci := 4) (j := 2) (C := RX4) (T := TX4) (N := 9) (v := .int ((sI (sI σ r1 3 1) r1 10 x2).1 109 2)) hx hb hg inlX4 hown hK hY (hL 109 (by decide)) gk_109 (by decide) rfl (by decide) tX4_2 (hg _ gw_402) rfl dX11_putInQueue_15 ?_
  refine G_putI (ci := 1) (j := 11) (C := RX1) (T := TX1) (N := 14) (v := ((sI (sI σ r1 3 1) r1 10 x2).1 109 2)) (ty := .int) hx hb hg inlX1 tyX1 tyX1_ok nmX1 hown hK hY (hL _ (gcl_lt hr1 (by decide))) hr1 (by decide) rfl (by decide) tX1_11 (hg _ gw_403) (by decide +kernel) rfl rfl (fun _ _ => rfl) (fun _ _ => Nat.le_of_ble_eq_true rfl) dX11_putInQueue_18 ?_
  clear hY
  intro H locs hY
  refine lv_aload_n hx hb dX11_putInQueue_21 rfl (lv_at hl 0 rfl) ?_
  refine G_get (ci := 11) (j := 3) (C := RX11) (T := TX11) (N := 19) (v := .ref (ad 109)) hx hb hg inlX11 hown hK hY (hL 0 (by decide)) gk_0 (by decide) rfl (by decide) tX11_3 (hg _ gw_28) rfl dX11_putInQueue_22 ?_
  refine lv_dup hx hb dX11_putInQueue_25 rfl ?_
  refine G_get (ci := 4) (j := 2) (C := RX4) (T := TX4) (N := 9) (v := .int ((sI (sI (sI σ r1 3 1) r1 10 x2) r1 11 ((sI (sI σ r1 3 1) r1 10 x2).1 109 2)).1 109 2)) hx hb hg inlX4 hown hK hY (hL 109 (by decide)) gk_109 (by decide) rfl (by decide) tX4_2 (hg _ gw_402) rfl dX11_putInQueue_26 ?_
  refine lv_iconst (v := 1) hx hb dX11_putInQueue_29 (by decide) ?_
  refine lv_iadd hx hb dX11_putInQueue_30 ?_
  refine G_putI (ci := 4) (j := 2) (C := RX4) (T := TX4) (N := 9) (v := (((sI (sI (sI σ r1 3 1) r1 10 x2) r1 11 ((sI (sI σ r1 3 1) r1 10 x2).1 109 2)).1 109 2) + 1)) (ty := .int) hx hb hg inlX4 tyX4 tyX4_ok nmX4 hown hK hY (hL 109 (by decide)) gk_109 (by decide) rfl (by decide) tX4_2 (hg _ gw_402) (by decide +kernel) rfl rfl (fun _ _ => rfl) (fun _ _ => Nat.le_of_ble_eq_true rfl) dX11_putInQueue_31 ?_
  clear hY
  intro H locs hY
  refine lv_aload_n hx hb dX11_putInQueue_34 rfl (lv_at hl 0 rfl) ?_
  obtain ⟨r_1, e_2, h⟩ := g_bind h
  refine G_av hY hA (va_runV (As := []) (rest := []) ⟨hx, hb, hml, hown, hg⟩ (kX11_stir l D y aS H.size L hL ad N (sI (sI (sI (sI σ r1 3 1) r1 10 x2) r1 11 ((sI (sI σ r1 3 1) r1 10 x2).1 109 2)) 109 2 (((sI (sI (sI σ r1 3 1) r1 10 x2) r1 11 ((sI (sI σ r1 3 1) r1 10 x2).1 109 2)).1 109 2) + 1)) _ e_2) (cwV 0 hg ggV_RX11_230_X11_stir rfl rfl rfl (by decide +kernel) ⟨Nat.le_of_ble_eq_true rfl, Nat.le_of_ble_eq_true rfl⟩) (G_pV (q := (RX11, TX11, 19)) hK hY (hL 0 (by decide)) gk_0 (by decide) rfl) rfl rfl hl.1 rfl (lv_room (Nat.le_of_ble_eq_true rfl)) dX11_putInQueue_35 ⟨Nat.le_of_ble_eq_true rfl, Nat.le_of_ble_eq_true rfl⟩) ?_
  clear hY
  rintro H locs hY
  cases h
  exact g_vret hx hb hr hlocks () hY.1 hY.2.1 hY.2.2 trivial (Nat.le_of_ble_eq_true rfl) (Nat.le_of_ble_eq_true rfl) dX11_putInQueue_38
theorem ggV_RX11_200_X11_putInQueue : GoodIn wsL_law (wsV RX11 200 RX11 yX11_putInQueue (Cond.code yX11_putInQueue cX11_putInQueue 3 none :: wsL_law)) := g_gi (fun _ h => h) gW_good (List.forall_mem_cons.mpr ⟨⟨gw_397, rfl⟩, List.forall_mem_cons.mpr ⟨⟨gw_398, rfl⟩, List.forall_mem_cons.mpr ⟨⟨gw_399, rfl⟩, List.forall_mem_cons.mpr ⟨⟨gw_2, rfl⟩, fun _ h => nomatch h⟩⟩⟩⟩) ⟨gw_400, rfl⟩
theorem ggV_RX11_408_X4_putInOrder : GoodIn wsL_law (wsV RX11 408 RX4 yX4_putInOrder (Cond.code yX4_putInOrder cX4_putInOrder 6 none :: wsL_law)) := g_gi (fun _ h => h) gW_good (List.forall_mem_cons.mpr ⟨⟨gw_227, rfl⟩, List.forall_mem_cons.mpr ⟨⟨gw_228, rfl⟩, List.forall_mem_cons.mpr ⟨⟨gw_229, rfl⟩, List.forall_mem_cons.mpr ⟨⟨gw_27, rfl⟩, fun _ h => nomatch h⟩⟩⟩⟩) ⟨gw_230, rfl⟩
theorem ggV_RX11_412_X4_form : GoodIn wsL_law (wsV RX11 412 RX4 yX4_form (Cond.code yX4_form cX4_form 8 none :: wsL_law)) := g_gi (fun _ h => h) gW_good (List.forall_mem_cons.mpr ⟨⟨gw_262, rfl⟩, List.forall_mem_cons.mpr ⟨⟨gw_263, rfl⟩, List.forall_mem_cons.mpr ⟨⟨gw_264, rfl⟩, List.forall_mem_cons.mpr ⟨⟨gw_27, rfl⟩, fun _ h => nomatch h⟩⟩⟩⟩) ⟨gw_265, rfl⟩
theorem ggV_RX11_298_X7_requiredBy : GoodIn wsL_law (wsV RX11 298 RX7 yX7_requiredBy (Cond.code yX7_requiredBy cX7_requiredBy 4 (some .int) :: wsL_law)) := g_gi (fun _ h => h) gW_good (List.forall_mem_cons.mpr ⟨⟨gw_201, rfl⟩, List.forall_mem_cons.mpr ⟨⟨gw_202, rfl⟩, List.forall_mem_cons.mpr ⟨⟨gw_203, rfl⟩, List.forall_mem_cons.mpr ⟨⟨gw_19, rfl⟩, fun _ h => nomatch h⟩⟩⟩⟩) ⟨gw_204, rfl⟩
section
variable {p : Program} {l : Launch} {e : Env} {s : State} {m : MethodId} {args : Array Value} {below : List Frame} {meth : Method} {c : Code} {D : va_G} {y : Nat → ClassId} {aS : Nat → Nat} {A : Nat → Prop} {L : List Nat} {ad : Nat → Nat} {N : Nat} {res : gS}
def fX11_formBatches_84 (N : Nat) (σ : gS) : Option gS := some σ
set_option maxRecDepth 100000 in
set_option maxHeartbeats 4000000 in
theorem wX11_formBatches_84 {σ : gS} (hx : p.tables.exec = Jvm.exec) (hb : c.code = cX11_formBatches) (hr : meth.sig.returnType = none) (hml : c.maxLocals = 3) (hown : s.vm.findClass RX11 = some m.cls) (hg : ∀ w ∈ wsL_law, w.before args s = true) (hlocks : meth.locks = false) (hK : gK D y aS s) (hA : ∀ q, s.heap.size ≤ q → A q) (hL : ∀ k, k < 179 → k ∈ L) {H : Heap} {locs : List Loc} {ls : Array Slot} (hY : gY D y A s L ad σ H locs) (hl : lv_has ls 3 []) (h : fX11_formBatches_84 N σ = some res) : W p l e ({ frames := 3, cells := 0, slots := 0, locals := 79 } : Room) s m args below meth c H locs 0 0 (MQ below (va_Qv (fun (_ : Unit) => True) (fun _ => gO D A (GW L y ad res)) A) args s 0 0 A) (F0 m 84 ls []) := by
  unfold fX11_formBatches_84 at h
  cases h
  exact g_vret hx hb hr hlocks () hY.1 hY.2.1 hY.2.2 trivial (Nat.le_of_ble_eq_true rfl) (Nat.le_of_ble_eq_true rfl) dX11_formBatches_84
def fX11_formBatches_12 (N : Nat) (rec12 : (gS × Int32) → Option gS) (xx : gS × Int32) : Option gS := match xx with
  | (σ, x1) => if (σ.1 1 4) ≤ x1 then ((fX4_putInOrder N σ).bind fun r_2 => (fX11_trunkTree N r_2).bind fun r_4 => (fX4_form N r_2 r_4).bind fun r_6 => fX11_formBatches_84 N (sI r_6 109 3 1)) else ((fX2_at N σ x1).bind fun r_8 => (fX7_requiredBy N σ r_8).bind fun r_11 => rec12 ((sI σ r_8 13 r_11), (x1 + 1)))
set_option maxRecDepth 100000 in
set_option maxHeartbeats 4000000 in
theorem wX11_formBatches_12 (hx : p.tables.exec = Jvm.exec) (hb : c.code = cX11_formBatches) (hr : meth.sig.returnType = none) (hml : c.maxLocals = 3) (hown : s.vm.findClass RX11 = some m.cls) (hg : ∀ w ∈ wsL_law, w.before args s = true) (hlocks : meth.locks = false) (hK : gK D y aS s) (hA : ∀ q, s.heap.size ≤ q → A q) (hL : ∀ k, k < 179 → k ∈ L) : ∀ (n : Nat) {σ : gS} {x1 : Int32} (H : Heap) (locs : List Loc) (ls : Array Slot), gY D y A s L ad σ H locs → lv_has ls 3 [(0, .ref (ad 0)), (1, .int x1)] → lp (fX11_formBatches_12 N) n (σ, x1) = some res → W p l e ({ frames := 3, cells := 0, slots := 0, locals := 79 } : Room) s m args below meth c H locs 0 0 (MQ below (va_Qv (fun (_ : Unit) => True) (fun _ => gO D A (GW L y ad res)) A) args s 0 0 A) (F0 m 12 ls []) := by
  intro n
  induction n with
  | zero => intro σ x1 H locs ls hY hl h; exact nomatch (show none = some res from h)
  | succ n hrec12 =>
    intro σ x1 H locs ls hY hl h
    replace h : fX11_formBatches_12 N (lp (fX11_formBatches_12 N) n) (σ, x1) = some res := h
    generalize lp (fX11_formBatches_12 N) n = rec12 at h hrec12
    unfold fX11_formBatches_12 at h
    try dsimp only at h
    refine lv_iload_n hx hb dX11_formBatches_12 rfl (lv_at hl 1 rfl) ?_
    refine lv_aload_n hx hb dX11_formBatches_13 rfl (lv_at hl 0 rfl) ?_
    refine G_get (ci := 11) (j := 0) (C := RX11) (T := TX11) (N := 19) (v := .ref (ad 1)) hx hb hg inlX11 hown hK hY (hL 0 (by decide)) gk_0 (by decide) rfl (by decide) tX11_0 (hg _ gw_16) rfl dX11_formBatches_14 ?_
    refine G_get (ci := 2) (j := 4) (C := RX2) (T := TX2) (N := 5) (v := .int (σ.1 1 4)) hx hb hg inlX2 hown hK hY (hL 1 (by decide)) gk_1 (by decide) rfl (by decide) tX2_4 (hg _ gw_173) rfl dX11_formBatches_17 ?_
    refine lv_icmp_ge (tgt := 50) hx hb dX11_formBatches_20 (by decide) (fun z_1 => ?_) (fun z_1 => ?_)
    ·
      rw [if_pos z_1] at h
      refine lv_aload_n hx hb dX11_formBatches_50 rfl (lv_at hl 0 rfl) ?_
      refine G_get (ci := 11) (j := 3) (C := RX11) (T := TX11) (N := 19) (v := .ref (ad 109)) hx hb hg inlX11 hown hK hY (hL 0 (by decide)) gk_0 (by decide) rfl (by decide) tX11_3 (hg _ gw_28) rfl dX11_formBatches_51 ?_
      refine lv_aload_n hx hb dX11_formBatches_54 rfl (lv_at hl 0 rfl) ?_
      refine G_get (ci := 11) (j := 0) (C := RX11) (T := TX11) (N := 19) (v := .ref (ad 1)) hx hb hg inlX11 hown hK hY (hL 0 (by decide)) gk_0 (by decide) rfl (by decide) tX11_0 (hg _ gw_16) rfl dX11_formBatches_55 ?_
      obtain ⟨r_2, e_3, h⟩ := g_bind h
      refine G_av hY hA (va_runV (As := [.ref (ad 1)]) (rest := []) ⟨hx, hb, hml, hown, hg⟩ (kX4_putInOrder l D y aS H.size L hL ad N σ _ e_3) (cwV 1 hg ggV_RX11_408_X4_putInOrder rfl rfl rfl (by decide +kernel) ⟨Nat.le_of_ble_eq_true rfl, Nat.le_of_ble_eq_true rfl⟩) (G_pV (q := (RX4, TX4, 9)) hK hY (hL 109 (by decide)) gk_109 (by decide) rfl) rfl rfl hl.1 rfl (lv_room (Nat.le_of_ble_eq_true rfl)) dX11_formBatches_58 ⟨Nat.le_of_ble_eq_true rfl, Nat.le_of_ble_eq_true rfl⟩) ?_
      clear hY
      rintro H locs hY
      refine lv_aload_n hx hb dX11_formBatches_61 rfl (lv_at hl 0 rfl) ?_
      refine G_get (ci := 11) (j := 3) (C := RX11) (T := TX11) (N := 19) (v := .ref (ad 109)) hx hb hg inlX11 hown hK hY (hL 0 (by decide)) gk_0 (by decide) rfl (by decide) tX11_3 (hg _ gw_28) rfl dX11_formBatches_62 ?_
      refine lv_aload_n hx hb dX11_formBatches_65 rfl (lv_at hl 0 rfl) ?_
      refine G_get (ci := 11) (j := 0) (C := RX11) (T := TX11) (N := 19) (v := .ref (ad 1)) hx hb hg inlX11 hown hK hY (hL 0 (by decide)) gk_0 (by decide) rfl (by decide) tX11_0 (hg _ gw_16) rfl dX11_formBatches_66 ?_
      refine lv_aload_n hx hb dX11_formBatches_69 rfl (lv_at hl 0 rfl) ?_
      obtain ⟨r_4, e_5, h⟩ := g_bind h
      refine G_al hY hA (va_runV (As := []) (rest := [.ref (ad 1), .ref (ad 109)]) ⟨hx, hb, hml, hown, hg⟩ (kX11_trunkTree l D y aS H.size L hL ad N r_2 _ e_5) (cwV 0 hg ggV_RX11_156_X11_trunkTree rfl rfl rfl (by decide +kernel) ⟨Nat.le_of_ble_eq_true rfl, Nat.le_of_ble_eq_true rfl⟩) (G_pV (q := (RX11, TX11, 19)) hK hY (hL 0 (by decide)) gk_0 (by decide) rfl) rfl rfl hl.1 rfl (lv_room (Nat.le_of_ble_eq_true rfl)) dX11_formBatches_70 ⟨Nat.le_of_ble_eq_true rfl, Nat.le_of_ble_eq_true rfl⟩) ?_
      clear hY
      rintro _ H locs rfl hY
      obtain ⟨r_6, e_7, h⟩ := g_bind h
      refine G_av hY hA (va_runV (As := [.ref (ad 1), .long r_4]) (rest := []) ⟨hx, hb, hml, hown, hg⟩ (kX4_form l D y aS H.size L hL ad N r_2 r_4 _ e_7) (cwV 2 hg ggV_RX11_412_X4_form rfl rfl rfl (by decide +kernel) ⟨Nat.le_of_ble_eq_true rfl, Nat.le_of_ble_eq_true rfl⟩) (G_pV (q := (RX4, TX4, 9)) hK hY (hL 109 (by decide)) gk_109 (by decide) rfl) rfl rfl hl.1 rfl (lv_room (Nat.le_of_ble_eq_true rfl)) dX11_formBatches_73 ⟨Nat.le_of_ble_eq_true rfl, Nat.le_of_ble_eq_true rfl⟩) ?_
      clear hY
      rintro H locs hY
      refine lv_aload_n hx hb dX11_formBatches_76 rfl (lv_at hl 0 rfl) ?_
      refine G_get (ci := 11) (j := 3) (C := RX11) (T := TX11) (N := 19) (v := .ref (ad 109)) hx hb hg inlX11 hown hK hY (hL 0 (by decide)) gk_0 (by decide) rfl (by decide) tX11_3 (hg _ gw_28) rfl dX11_formBatches_77 ?_
      refine lv_iconst (v := 1) hx hb dX11_formBatches_80 (by decide) ?_
      refine G_putI (ci := 4) (j := 3) (C := RX4) (T := TX4) (N := 9) (v := 1) (ty := .boolean) hx hb hg inlX4 tyX4 tyX4_ok nmX4 hown hK hY (hL 109 (by decide)) gk_109 (by decide) rfl (by decide) tX4_3 (hg _ gw_195) (by decide +kernel) rfl rfl (fun _ _ => rfl) (fun _ _ => Nat.le_of_ble_eq_true rfl) dX11_formBatches_81 ?_
      clear hY
      intro H locs hY
      exact wX11_formBatches_84 hx hb hr hml hown hg hlocks hK hA hL hY (lv_sub hl [] rfl) h
    ·
      rw [if_neg z_1] at h
      refine lv_aload_n hx hb dX11_formBatches_23 rfl (lv_at hl 0 rfl) ?_
      refine G_get (ci := 11) (j := 0) (C := RX11) (T := TX11) (N := 19) (v := .ref (ad 1)) hx hb hg inlX11 hown hK hY (hL 0 (by decide)) gk_0 (by decide) rfl (by decide) tX11_0 (hg _ gw_16) rfl dX11_formBatches_24 ?_
      refine lv_iload_n hx hb dX11_formBatches_27 rfl (lv_at hl 1 rfl) ?_
      obtain ⟨r_8, e_9, h⟩ := g_bind h
      refine G_ar hY hA (va_runV (As := [.int x1]) (rest := []) ⟨hx, hb, hml, hown, hg⟩ (kX2_at l D y aS H.size L hL ad N σ x1 _ e_9) (cwV 1 hg ggV_RX11_113_X2_at rfl rfl rfl (by decide +kernel) ⟨Nat.le_of_ble_eq_true rfl, Nat.le_of_ble_eq_true rfl⟩) (G_pV (q := (RX2, TX2, 5)) hK hY (hL 1 (by decide)) gk_1 (by decide) rfl) rfl rfl hl.1 rfl (lv_room (Nat.le_of_ble_eq_true rfl)) dX11_formBatches_28 ⟨Nat.le_of_ble_eq_true rfl, Nat.le_of_ble_eq_true rfl⟩) ?_
      clear hY
      rintro H locs k_10 hY
      refine lv_astore_n (lv' := [(2, .ref (ad r_8)), (0, .ref (ad 0)), (1, .int x1)]) hx hb dX11_formBatches_31 rfl hl (by decide) rfl ?_
      clear hl
      intro ls hl
      refine lv_aload_n hx hb dX11_formBatches_32 rfl (lv_at hl 0 rfl) ?_
      refine lv_aload_n hx hb dX11_formBatches_33 rfl (lv_at hl 1 rfl) ?_
      refine G_get (ci := 11) (j := 1) (C := RX11) (T := TX11) (N := 19) (v := .ref (ad 65)) hx hb hg inlX11 hown hK hY (hL 0 (by decide)) gk_0 (by decide) rfl (by decide) tX11_1 (hg _ gw_20) rfl dX11_formBatches_34 ?_
      refine lv_aload_n hx hb dX11_formBatches_37 rfl (lv_at hl 0 rfl) ?_
      obtain ⟨r_11, e_12, h⟩ := g_bind h
      refine G_ai hY hA (va_runV (As := [.ref (ad r_8)]) (rest := [.ref (ad r_8)]) ⟨hx, hb, hml, hown, hg⟩ (kX7_requiredBy l D y aS H.size L hL ad N σ r_8 _ k_10 e_12) (cwV 1 hg ggV_RX11_298_X7_requiredBy rfl rfl rfl (by decide +kernel) ⟨Nat.le_of_ble_eq_true rfl, Nat.le_of_ble_eq_true rfl⟩) (G_pV (q := (RX7, TX7, 6)) hK hY (hL 65 (by decide)) gk_65 (by decide) rfl) rfl rfl hl.1 rfl (lv_room (Nat.le_of_ble_eq_true rfl)) dX11_formBatches_38 ⟨Nat.le_of_ble_eq_true rfl, Nat.le_of_ble_eq_true rfl⟩) ?_
      clear hY
      rintro _ H locs rfl hY
      refine G_putI (ci := 1) (j := 13) (C := RX1) (T := TX1) (N := 14) (v := r_11) (ty := .int) hx hb hg inlX1 tyX1 tyX1_ok nmX1 hown hK hY (hL _ (gcl_lt k_10 (by decide))) k_10 (by decide) rfl (by decide) tX1_13 (hg _ gw_196) (by decide +kernel) rfl rfl (fun _ _ => rfl) (fun _ _ => Nat.le_of_ble_eq_true rfl) dX11_formBatches_41 ?_
      clear hY
      intro H locs hY
      refine lv_iinc (v := (x1 + 1)) (lv' := [(1, .int (x1 + 1)), (2, .ref (ad r_8)), (0, .ref (ad 0))]) hx hb dX11_formBatches_44 hl (k := 2) rfl rfl (by decide) rfl ?_
      clear hl
      intro ls hl
      refine lv_goto (tgt := 12) hx hb dX11_formBatches_47 (by decide) ?_
      exact hrec12 _ _ _ hY (lv_sub hl [2, 0] rfl) h
end
def fX11_formBatches (N : Nat) (σ : gS) : Option gS := if (σ.1 109 3) = 0 then (lp (fX11_formBatches_12 N) N (σ, 0)) else (fX11_formBatches_84 N σ)
set_option maxRecDepth 100000 in
set_option maxHeartbeats 4000000 in
theorem kX11_formBatches (l : Launch) (D : va_G) (y : Nat → ClassId) (aS : Nat → Nat) (sz : Nat) (L : List Nat) (hL : ∀ k, k < 179 → k ∈ L) (ad : Nat → Nat) (N : Nat) (σ : gS) (res : gS) (h : fX11_formBatches N σ = some res) : Met l yX11_formBatches (Cond.code yX11_formBatches cX11_formBatches 3 none :: wsL_law) ({ frames := 3, cells := 0, slots := 0, locals := 79 } : Room) (va_Pc [.ref (ad 0)] (gI D y aS (GW L y ad σ) sz)) (va_Qv (fun (_ : Unit) => True) (fun _ => gO D (va_A (GW L y ad σ) sz) (GW L y ad res)) (va_A (GW L y ad σ) sz)) 0 0 (va_A (GW L y ad σ) sz) := by
  refine g_of (by decide) (Nat.le_of_ble_eq_true rfl) ?_
  intro p e s m below meth c ls A hx hb hr hml hown hg hlocks hin hsz hK hP hD hS hA hAe hl
  rw [← hAe]
  replace hown : s.vm.findClass RX11 = some m.cls := hown
  have hY : gY D y A s L ad σ s.heap [] := ⟨hP, hD, hS⟩
  clear hP hD hS
  replace hl : lv_has ls 3 [(0, .ref (ad 0))] := hl
  unfold fX11_formBatches at h
  refine lv_aload_n hx hb dX11_formBatches_0 rfl (lv_at hl 0 rfl) ?_
  refine G_get (ci := 11) (j := 3) (C := RX11) (T := TX11) (N := 19) (v := .ref (ad 109)) hx hb hg inlX11 hown hK hY (hL 0 (by decide)) gk_0 (by decide) rfl (by decide) tX11_3 (hg _ gw_28) rfl dX11_formBatches_1 ?_
  refine G_get (ci := 4) (j := 3) (C := RX4) (T := TX4) (N := 9) (v := .int (σ.1 109 3)) hx hb hg inlX4 hown hK hY (hL 109 (by decide)) gk_109 (by decide) rfl (by decide) tX4_3 (hg _ gw_195) rfl dX11_formBatches_4 ?_
  refine lv_if_ne (tgt := 84) hx hb dX11_formBatches_7 (by decide) (fun z_1 => ?_) (fun z_1 => ?_)
  ·
    rw [if_neg z_1] at h
    exact wX11_formBatches_84 hx hb hr hml hown hg hlocks hK hA hL hY (lv_sub hl [] rfl) h
  ·
    rw [if_pos z_1] at h
    refine lv_iconst (v := 0) hx hb dX11_formBatches_10 (by decide) ?_
    refine lv_istore_n (lv' := [(1, .int 0), (0, .ref (ad 0))]) hx hb dX11_formBatches_11 rfl hl (by decide) rfl ?_
    clear hl
    intro ls hl
    exact wX11_formBatches_12 hx hb hr hml hown hg hlocks hK hA hL N _ _ _ hY (lv_sub hl [1, 0] rfl) h
theorem ggV_RX11_204_X11_formBatches : GoodIn wsL_law (wsV RX11 204 RX11 yX11_formBatches (Cond.code yX11_formBatches cX11_formBatches 3 none :: wsL_law)) := g_gi (fun _ h => h) gW_good (List.forall_mem_cons.mpr ⟨⟨gw_191, rfl⟩, List.forall_mem_cons.mpr ⟨⟨gw_192, rfl⟩, List.forall_mem_cons.mpr ⟨⟨gw_193, rfl⟩, List.forall_mem_cons.mpr ⟨⟨gw_2, rfl⟩, fun _ h => nomatch h⟩⟩⟩⟩) ⟨gw_194, rfl⟩
theorem ggV_RX11_210_X8_placeOf : GoodIn wsL_law (wsV RX11 210 RX8 yX8_placeOf (Cond.code yX8_placeOf cX8_placeOf 4 (some .int) :: wsL_law)) := g_gi (fun _ h => h) gW_good (List.forall_mem_cons.mpr ⟨⟨gw_409, rfl⟩, List.forall_mem_cons.mpr ⟨⟨gw_410, rfl⟩, List.forall_mem_cons.mpr ⟨⟨gw_411, rfl⟩, List.forall_mem_cons.mpr ⟨⟨gw_48, rfl⟩, fun _ h => nomatch h⟩⟩⟩⟩) ⟨gw_412, rfl⟩
theorem ggV_RX11_187_X8_whole : GoodIn wsL_law (wsV RX11 187 RX8 yX8_whole (Cond.code yX8_whole cX8_whole 2 (some .int) :: wsL_law)) := g_gi (fun _ h => h) gW_good (List.forall_mem_cons.mpr ⟨⟨gw_293, rfl⟩, List.forall_mem_cons.mpr ⟨⟨gw_214, rfl⟩, List.forall_mem_cons.mpr ⟨⟨gw_215, rfl⟩, List.forall_mem_cons.mpr ⟨⟨gw_48, rfl⟩, fun _ h => nomatch h⟩⟩⟩⟩) ⟨gw_216, rfl⟩
theorem ggV_RX11_391_X1_isApprovedBy : GoodIn wsL_law (wsV RX11 391 RX1 yX1_isApprovedBy (Cond.code yX1_isApprovedBy cX1_isApprovedBy 2 (some .boolean) :: wsL_law)) := g_gi (fun _ h => h) gW_good (List.forall_mem_cons.mpr ⟨⟨gw_391, rfl⟩, List.forall_mem_cons.mpr ⟨⟨gw_392, rfl⟩, List.forall_mem_cons.mpr ⟨⟨gw_393, rfl⟩, List.forall_mem_cons.mpr ⟨⟨gw_63, rfl⟩, fun _ h => nomatch h⟩⟩⟩⟩) ⟨gw_394, rfl⟩
section
variable {p : Program} {l : Launch} {e : Env} {s : State} {m : MethodId} {args : Array Value} {below : List Frame} {meth : Method} {c : Code} {D : va_G} {y : Nat → ClassId} {aS : Nat → Nat} {A : Nat → Prop} {L : List Nat} {ad : Nat → Nat} {N : Nat} {res : Int32}
def fX11_isApproved_43 (N : Nat) (rec2 : Int32 → Option Int32) (σ : gS) (r1 : Nat) (x2 : Int32) : Option Int32 := rec2 (x2 + 1)
set_option maxRecDepth 100000 in
set_option maxHeartbeats 4000000 in
theorem wX11_isApproved_43 {rec2 : Int32 → Option Int32} {σ : gS} {r1 : Nat} {x2 : Int32} (hx : p.tables.exec = Jvm.exec) (hb : c.code = cX11_isApproved) (hr : meth.sig.returnType = (some .boolean)) (hml : c.maxLocals = 4) (hown : s.vm.findClass RX11 = some m.cls) (hg : ∀ w ∈ wsL_law, w.before args s = true) (hlocks : meth.locks = false) (hK : gK D y aS s) (hA : ∀ q, s.heap.size ≤ q → A q) (hL : ∀ k, k < 179 → k ∈ L) (hrec2 : ∀ {x2n9 : Int32} (H : Heap) (locs : List Loc) (ls : Array Slot), gY D y A s L ad σ H locs → lv_has ls 4 [(0, .ref (ad 0)), (1, .ref (ad r1)), (2, .int x2n9)] → rec2 x2n9 = some res → W p l e ({ frames := 2, cells := 0, slots := 0, locals := 42 } : Room) s m args below meth c H locs 0 0 (MQ below (va_Qi (fun (r : Int32) (_ : Unit) => r = res) (fun _ => gO D A (GW L y ad σ)) A) args s 0 0 A) (F0 m 2 ls [])) (hr1 : gcl r1 = 1) {H : Heap} {locs : List Loc} {ls : Array Slot} (hY : gY D y A s L ad σ H locs) (hl : lv_has ls 4 [(0, .ref (ad 0)), (1, .ref (ad r1)), (2, .int x2)]) (h : fX11_isApproved_43 N rec2 σ r1 x2 = some res) : W p l e ({ frames := 2, cells := 0, slots := 0, locals := 42 } : Room) s m args below meth c H locs 0 0 (MQ below (va_Qi (fun (r : Int32) (_ : Unit) => r = res) (fun _ => gO D A (GW L y ad σ)) A) args s 0 0 A) (F0 m 43 ls []) := by
  unfold fX11_isApproved_43 at h
  refine lv_iinc (v := (x2 + 1)) (lv' := [(2, .int (x2 + 1)), (0, .ref (ad 0)), (1, .ref (ad r1))]) hx hb dX11_isApproved_43 hl (k := 2) rfl rfl (by decide) rfl ?_
  clear hl
  intro ls hl
  refine lv_goto (tgt := 2) hx hb dX11_isApproved_46 (by decide) ?_
  exact hrec2 _ _ _ hY (lv_sub hl [1, 2, 0] rfl) h
def fX11_isApproved_2 (N : Nat) (σ : gS) (r1 : Nat) (rec2 : Int32 → Option Int32) (x2 : Int32) : Option Int32 := if 12 ≤ x2 then (some 1) else ((fX8_whole N σ 153 x2).bind fun r_2 => (fX11_hasBit N σ (σ.1 r1 5) x2).bind fun r_4 => if r_4 = 0 then (fX11_isApproved_43 N rec2 σ r1 x2) else (if r_2 = (-1) then (fX11_isApproved_43 N rec2 σ r1 x2) else ((fX1_isApprovedBy N σ r1 r_2).bind fun r_8 => if r_8 = 0 then (some 0) else (fX11_isApproved_43 N rec2 σ r1 x2))))
set_option maxRecDepth 100000 in
set_option maxHeartbeats 4000000 in
theorem wX11_isApproved_2 {σ : gS} {r1 : Nat} (hx : p.tables.exec = Jvm.exec) (hb : c.code = cX11_isApproved) (hr : meth.sig.returnType = (some .boolean)) (hml : c.maxLocals = 4) (hown : s.vm.findClass RX11 = some m.cls) (hg : ∀ w ∈ wsL_law, w.before args s = true) (hlocks : meth.locks = false) (hK : gK D y aS s) (hA : ∀ q, s.heap.size ≤ q → A q) (hL : ∀ k, k < 179 → k ∈ L) (hr1 : gcl r1 = 1) : ∀ (n : Nat) {x2 : Int32} (H : Heap) (locs : List Loc) (ls : Array Slot), gY D y A s L ad σ H locs → lv_has ls 4 [(0, .ref (ad 0)), (1, .ref (ad r1)), (2, .int x2)] → lp (fX11_isApproved_2 N σ r1) n x2 = some res → W p l e ({ frames := 2, cells := 0, slots := 0, locals := 42 } : Room) s m args below meth c H locs 0 0 (MQ below (va_Qi (fun (r : Int32) (_ : Unit) => r = res) (fun _ => gO D A (GW L y ad σ)) A) args s 0 0 A) (F0 m 2 ls []) := by
  intro n
  induction n with
  | zero => intro x2 H locs ls hY hl h; exact nomatch (show none = some res from h)
  | succ n hrec2 =>
    intro x2 H locs ls hY hl h
    replace h : fX11_isApproved_2 N σ r1 (lp (fX11_isApproved_2 N σ r1) n) x2 = some res := h
    generalize lp (fX11_isApproved_2 N σ r1) n = rec2 at h hrec2
    unfold fX11_isApproved_2 at h
    try dsimp only at h
    refine lv_iload_n hx hb dX11_isApproved_2 rfl (lv_at hl 2 rfl) ?_
    refine lv_bipush (v := 12) hx hb dX11_isApproved_3 (by decide +kernel) ?_
    refine lv_icmp_ge (tgt := 49) hx hb dX11_isApproved_5 (by decide) (fun z_1 => ?_) (fun z_1 => ?_)
    ·
      rw [if_pos z_1] at h
      refine lv_iconst (v := 1) hx hb dX11_isApproved_49 (by decide) ?_
      cases h
      exact g_iret hx hb hr hlocks () hY.1 hY.2.1 hY.2.2 rfl rfl (Nat.le_of_ble_eq_true rfl) (Nat.le_of_ble_eq_true rfl) dX11_isApproved_50
    ·
      rw [if_neg z_1] at h
      refine lv_aload_n hx hb dX11_isApproved_8 rfl (lv_at hl 0 rfl) ?_
      refine G_get (ci := 11) (j := 10) (C := RX11) (T := TX11) (N := 19) (v := .ref (ad 153)) hx hb hg inlX11 hown hK hY (hL 0 (by decide)) gk_0 (by decide) rfl (by decide) tX11_10 (hg _ gw_50) rfl dX11_isApproved_9 ?_
      refine lv_iload_n hx hb dX11_isApproved_12 rfl (lv_at hl 2 rfl) ?_
      obtain ⟨r_2, e_3, h⟩ := g_bind h
      refine G_ai hY hA (va_runV (As := [.int x2]) (rest := []) ⟨hx, hb, hml, hown, hg⟩ (kX8_whole l D y aS H.size L hL ad N σ 153 x2 _ gk_153 e_3) (cwV 1 hg ggV_RX11_187_X8_whole rfl rfl rfl (by decide +kernel) ⟨Nat.le_of_ble_eq_true rfl, Nat.le_of_ble_eq_true rfl⟩) (G_pV (q := (RX8, TX8, 2)) hK hY (hL 153 (by decide)) gk_153 (by decide) rfl) rfl rfl hl.1 rfl (lv_room (Nat.le_of_ble_eq_true rfl)) dX11_isApproved_13 ⟨Nat.le_of_ble_eq_true rfl, Nat.le_of_ble_eq_true rfl⟩) ?_
      clear hY
      rintro _ H locs rfl hY
      refine lv_istore_n (lv' := [(3, .int r_2), (0, .ref (ad 0)), (1, .ref (ad r1)), (2, .int x2)]) hx hb dX11_isApproved_16 rfl hl (by decide) rfl ?_
      clear hl
      intro ls hl
      refine lv_aload_n hx hb dX11_isApproved_17 rfl (lv_at hl 2 rfl) ?_
      refine G_get (ci := 1) (j := 5) (C := RX1) (T := TX1) (N := 14) (v := .int (σ.1 r1 5)) hx hb hg inlX1 hown hK hY (hL _ (gcl_lt hr1 (by decide))) hr1 (by decide) rfl (by decide) tX1_5 (hg _ gw_333) rfl dX11_isApproved_18 ?_
      refine lv_iload_n hx hb dX11_isApproved_21 rfl (lv_at hl 3 rfl) ?_
      obtain ⟨r_4, e_5, h⟩ := g_bind h
      refine G_ai hY hA (va_runS (As := [.int (σ.1 r1 5), .int x2]) (rest := []) ⟨hx, hb, hml, hown, hg⟩ (kX11_hasBit l D y aS H.size L hL ad N σ (σ.1 r1 5) x2 _ e_5) (va_cwS 2 hg ggS_RX11_175_X11_hasBit rfl rfl rfl (by decide +kernel) ⟨Nat.le_of_ble_eq_true rfl, Nat.le_of_ble_eq_true rfl⟩) (G_pS hK hY) rfl rfl hl.1 rfl (lv_room (Nat.le_of_ble_eq_true rfl)) dX11_isApproved_22 ⟨Nat.le_of_ble_eq_true rfl, Nat.le_of_ble_eq_true rfl⟩) ?_
      clear hY
      rintro _ H locs rfl hY
      refine lv_if_eq (tgt := 43) hx hb dX11_isApproved_25 (by decide) (fun z_6 => ?_) (fun z_6 => ?_)
      ·
        rw [if_pos z_6] at h
        exact wX11_isApproved_43 hx hb hr hml hown hg hlocks hK hA hL hrec2 hr1 hY (lv_sub hl [1, 2, 3] rfl) h
      ·
        rw [if_neg z_6] at h
        refine lv_iload_n hx hb dX11_isApproved_28 rfl (lv_at hl 0 rfl) ?_
        refine lv_iconst (v := (-1)) hx hb dX11_isApproved_29 (by decide) ?_
        refine lv_icmp_eq (tgt := 43) hx hb dX11_isApproved_30 (by decide) (fun z_7 => ?_) (fun z_7 => ?_)
        ·
          rw [if_pos z_7] at h
          exact wX11_isApproved_43 hx hb hr hml hown hg hlocks hK hA hL hrec2 hr1 hY (lv_sub hl [1, 2, 3] rfl) h
        ·
          rw [if_neg z_7] at h
          refine lv_aload_n hx hb dX11_isApproved_33 rfl (lv_at hl 2 rfl) ?_
          refine lv_iload_n hx hb dX11_isApproved_34 rfl (lv_at hl 0 rfl) ?_
          obtain ⟨r_8, e_9, h⟩ := g_bind h
          refine G_ai hY hA (va_runV (As := [.int r_2]) (rest := []) ⟨hx, hb, hml, hown, hg⟩ (kX1_isApprovedBy l D y aS H.size L hL ad N σ r1 r_2 _ hr1 e_9) (cwV 1 hg ggV_RX11_391_X1_isApprovedBy rfl rfl rfl (by decide +kernel) ⟨Nat.le_of_ble_eq_true rfl, Nat.le_of_ble_eq_true rfl⟩) (G_pV (q := (RX1, TX1, 14)) hK hY (hL _ (gcl_lt hr1 (by decide))) hr1 (by decide) rfl) rfl rfl hl.1 rfl (lv_room (Nat.le_of_ble_eq_true rfl)) dX11_isApproved_35 ⟨Nat.le_of_ble_eq_true rfl, Nat.le_of_ble_eq_true rfl⟩) ?_
          clear hY
          rintro _ H locs rfl hY
          refine lv_if_ne (tgt := 43) hx hb dX11_isApproved_38 (by decide) (fun z_10 => ?_) (fun z_10 => ?_)
          ·
            rw [if_neg z_10] at h
            exact wX11_isApproved_43 hx hb hr hml hown hg hlocks hK hA hL hrec2 hr1 hY (lv_sub hl [1, 2, 3] rfl) h
          ·
            rw [if_pos z_10] at h
            refine lv_iconst (v := 0) hx hb dX11_isApproved_41 (by decide) ?_
            cases h
            exact g_iret hx hb hr hlocks () hY.1 hY.2.1 hY.2.2 rfl rfl (Nat.le_of_ble_eq_true rfl) (Nat.le_of_ble_eq_true rfl) dX11_isApproved_42
end
def fX11_isApproved (N : Nat) (σ : gS) (r1 : Nat) : Option Int32 := lp (fX11_isApproved_2 N σ r1) N 0
set_option maxRecDepth 100000 in
set_option maxHeartbeats 4000000 in
theorem kX11_isApproved (l : Launch) (D : va_G) (y : Nat → ClassId) (aS : Nat → Nat) (sz : Nat) (L : List Nat) (hL : ∀ k, k < 179 → k ∈ L) (ad : Nat → Nat) (N : Nat) (σ : gS) (r1 : Nat) (res : Int32) (hr1 : gcl r1 = 1) (h : fX11_isApproved N σ r1 = some res) : Met l yX11_isApproved (Cond.code yX11_isApproved cX11_isApproved 4 (some .boolean) :: wsL_law) ({ frames := 2, cells := 0, slots := 0, locals := 42 } : Room) (va_Pc [.ref (ad 0), .ref (ad r1)] (gI D y aS (GW L y ad σ) sz)) (va_Qi (fun (r : Int32) (_ : Unit) => r = res) (fun _ => gO D (va_A (GW L y ad σ) sz) (GW L y ad σ)) (va_A (GW L y ad σ) sz)) 0 0 (va_A (GW L y ad σ) sz) := by
  refine g_of (by decide) (Nat.le_of_ble_eq_true rfl) ?_
  intro p e s m below meth c ls A hx hb hr hml hown hg hlocks hin hsz hK hP hD hS hA hAe hl
  rw [← hAe]
  replace hown : s.vm.findClass RX11 = some m.cls := hown
  have hY : gY D y A s L ad σ s.heap [] := ⟨hP, hD, hS⟩
  clear hP hD hS
  replace hl : lv_has ls 4 [(0, .ref (ad 0)), (1, .ref (ad r1))] := hl
  unfold fX11_isApproved at h
  refine lv_iconst (v := 0) hx hb dX11_isApproved_0 (by decide) ?_
  refine lv_istore_n (lv' := [(2, .int 0), (0, .ref (ad 0)), (1, .ref (ad r1))]) hx hb dX11_isApproved_1 rfl hl (by decide) rfl ?_
  clear hl
  intro ls hl
  exact wX11_isApproved_2 hx hb hr hml hown hg hlocks hK hA hL hr1 N _ _ _ hY (lv_sub hl [1, 2, 0] rfl) h
theorem ggV_RX11_196_X11_isApproved : GoodIn wsL_law (wsV RX11 196 RX11 yX11_isApproved (Cond.code yX11_isApproved cX11_isApproved 4 (some .boolean) :: wsL_law)) := g_gi (fun _ h => h) gW_good (List.forall_mem_cons.mpr ⟨⟨gw_387, rfl⟩, List.forall_mem_cons.mpr ⟨⟨gw_388, rfl⟩, List.forall_mem_cons.mpr ⟨⟨gw_389, rfl⟩, List.forall_mem_cons.mpr ⟨⟨gw_2, rfl⟩, fun _ h => nomatch h⟩⟩⟩⟩) ⟨gw_390, rfl⟩
section
variable {p : Program} {l : Launch} {e : Env} {s : State} {m : MethodId} {args : Array Value} {below : List Frame} {meth : Method} {c : Code} {D : va_G} {y : Nat → ClassId} {aS : Nat → Nat} {A : Nat → Prop} {L : List Nat} {ad : Nat → Nat} {N : Nat} {res : (Int32 × gS)}
def fX11_queue_93 (N : Nat) (σ : gS) (x1 : Int32) (x2 : Int32) (r3 : Nat) : Option (Int32 × gS) := (fX11_putInQueue N σ r3 x2).bind fun r_1 => (fX11_formBatches N r_1).bind fun r_3 => (fX8_placeOf N r_3 110 (x1.toInt64)).bind fun r_5 => some (r_5, r_3)
set_option maxRecDepth 100000 in
set_option maxHeartbeats 4000000 in
theorem wX11_queue_93 {σ : gS} {x1 : Int32} {x2 : Int32} {r3 : Nat} (hx : p.tables.exec = Jvm.exec) (hb : c.code = cX11_queue) (hr : meth.sig.returnType = (some .int)) (hml : c.maxLocals = 5) (hown : s.vm.findClass RX11 = some m.cls) (hg : ∀ w ∈ wsL_law, w.before args s = true) (hlocks : meth.locks = false) (hK : gK D y aS s) (hA : ∀ q, s.heap.size ≤ q → A q) (hL : ∀ k, k < 179 → k ∈ L) (hr3 : gcl r3 = 1) {H : Heap} {locs : List Loc} {ls : Array Slot} (hY : gY D y A s L ad σ H locs) (hl : lv_has ls 5 [(0, .ref (ad 0)), (1, .int x1), (2, .int x2), (3, .ref (ad r3))]) (h : fX11_queue_93 N σ x1 x2 r3 = some res) : W p l e ({ frames := 4, cells := 0, slots := 0, locals := 101 } : Room) s m args below meth c H locs 0 0 (MQ below (va_Qi (fun (r : Int32) (_ : Unit) => r = res.1) (fun _ => gO D A (GW L y ad res.2)) A) args s 0 0 A) (F0 m 93 ls []) := by
  unfold fX11_queue_93 at h
  refine lv_aload_n hx hb dX11_queue_93 rfl (lv_at hl 0 rfl) ?_
  refine lv_aload_n hx hb dX11_queue_94 rfl (lv_at hl 3 rfl) ?_
  refine lv_iload_n hx hb dX11_queue_95 rfl (lv_at hl 2 rfl) ?_
  obtain ⟨r_1, e_2, h⟩ := g_bind h
  refine G_av hY hA (va_runV (As := [.ref (ad r3), .int x2]) (rest := []) ⟨hx, hb, hml, hown, hg⟩ (kX11_putInQueue l D y aS H.size L hL ad N σ r3 x2 _ hr3 e_2) (cwV 2 hg ggV_RX11_200_X11_putInQueue rfl rfl rfl (by decide +kernel) ⟨Nat.le_of_ble_eq_true rfl, Nat.le_of_ble_eq_true rfl⟩) (G_pV (q := (RX11, TX11, 19)) hK hY (hL 0 (by decide)) gk_0 (by decide) rfl) rfl rfl hl.1 rfl (lv_room (Nat.le_of_ble_eq_true rfl)) dX11_queue_96 ⟨Nat.le_of_ble_eq_true rfl, Nat.le_of_ble_eq_true rfl⟩) ?_
  clear hY
  rintro H locs hY
  refine lv_aload_n hx hb dX11_queue_99 rfl (lv_at hl 0 rfl) ?_
  obtain ⟨r_3, e_4, h⟩ := g_bind h
  refine G_av hY hA (va_runV (As := []) (rest := []) ⟨hx, hb, hml, hown, hg⟩ (kX11_formBatches l D y aS H.size L hL ad N r_1 _ e_4) (cwV 0 hg ggV_RX11_204_X11_formBatches rfl rfl rfl (by decide +kernel) ⟨Nat.le_of_ble_eq_true rfl, Nat.le_of_ble_eq_true rfl⟩) (G_pV (q := (RX11, TX11, 19)) hK hY (hL 0 (by decide)) gk_0 (by decide) rfl) rfl rfl hl.1 rfl (lv_room (Nat.le_of_ble_eq_true rfl)) dX11_queue_100 ⟨Nat.le_of_ble_eq_true rfl, Nat.le_of_ble_eq_true rfl⟩) ?_
  clear hY
  rintro H locs hY
  refine lv_aload_n hx hb dX11_queue_103 rfl (lv_at hl 0 rfl) ?_
  refine G_get (ci := 11) (j := 3) (C := RX11) (T := TX11) (N := 19) (v := .ref (ad 109)) hx hb hg inlX11 hown hK hY (hL 0 (by decide)) gk_0 (by decide) rfl (by decide) tX11_3 (hg _ gw_28) rfl dX11_queue_104 ?_
  refine G_get (ci := 4) (j := 4) (C := RX4) (T := TX4) (N := 9) (v := .ref (ad 110)) hx hb hg inlX4 hown hK hY (hL 109 (by decide)) gk_109 (by decide) rfl (by decide) tX4_4 (hg _ gw_190) rfl dX11_queue_107 ?_
  refine lv_iload_n hx hb dX11_queue_110 rfl (lv_at hl 1 rfl) ?_
  refine lv_i2l (v := (x1.toInt64)) hx hb dX11_queue_111 rfl ?_
  obtain ⟨r_5, e_6, h⟩ := g_bind h
  refine G_ai hY hA (va_runV (As := [.long (x1.toInt64)]) (rest := []) ⟨hx, hb, hml, hown, hg⟩ (kX8_placeOf l D y aS H.size L hL ad N r_3 110 (x1.toInt64) _ gk_110 e_6) (cwV 1 hg ggV_RX11_210_X8_placeOf rfl rfl rfl (by decide +kernel) ⟨Nat.le_of_ble_eq_true rfl, Nat.le_of_ble_eq_true rfl⟩) (G_pV (q := (RX8, TX8, 2)) hK hY (hL 110 (by decide)) gk_110 (by decide) rfl) rfl rfl hl.1 rfl (lv_room (Nat.le_of_ble_eq_true rfl)) dX11_queue_112 ⟨Nat.le_of_ble_eq_true rfl, Nat.le_of_ble_eq_true rfl⟩) ?_
  clear hY
  rintro _ H locs rfl hY
  cases h
  exact g_iret hx hb hr hlocks () hY.1 hY.2.1 hY.2.2 rfl rfl (Nat.le_of_ble_eq_true rfl) (Nat.le_of_ble_eq_true rfl) dX11_queue_115
def fX11_queue_90 (N : Nat) (σ : gS) (x1 : Int32) (x2 : Int32) (r3 : Nat) (xs0 : Int32) : Option (Int32 × gS) := (fX11_needState N σ xs0).bind fun r_1 => fX11_queue_93 N σ x1 x2 r3
set_option maxRecDepth 100000 in
set_option maxHeartbeats 4000000 in
theorem wX11_queue_90 {σ : gS} {x1 : Int32} {x2 : Int32} {r3 : Nat} {xs0 : Int32} (hx : p.tables.exec = Jvm.exec) (hb : c.code = cX11_queue) (hr : meth.sig.returnType = (some .int)) (hml : c.maxLocals = 5) (hown : s.vm.findClass RX11 = some m.cls) (hg : ∀ w ∈ wsL_law, w.before args s = true) (hlocks : meth.locks = false) (hK : gK D y aS s) (hA : ∀ q, s.heap.size ≤ q → A q) (hL : ∀ k, k < 179 → k ∈ L) (hr3 : gcl r3 = 1) {H : Heap} {locs : List Loc} {ls : Array Slot} (hY : gY D y A s L ad σ H locs) (hl : lv_has ls 5 [(0, .ref (ad 0)), (1, .int x1), (2, .int x2), (3, .ref (ad r3))]) (h : fX11_queue_90 N σ x1 x2 r3 xs0 = some res) : W p l e ({ frames := 4, cells := 0, slots := 0, locals := 101 } : Room) s m args below meth c H locs 0 0 (MQ below (va_Qi (fun (r : Int32) (_ : Unit) => r = res.1) (fun _ => gO D A (GW L y ad res.2)) A) args s 0 0 A) (F0 m 90 ls [.int xs0]) := by
  unfold fX11_queue_90 at h
  obtain ⟨r_1, e_2, h⟩ := g_bind h
  refine G_av hY hA (va_runS (As := [.int xs0]) (rest := []) ⟨hx, hb, hml, hown, hg⟩ (kX11_needState l D y aS H.size L hL ad N σ xs0 _ e_2) (va_cwS 1 hg ggS_RX11_123_X11_needState rfl rfl rfl (by decide +kernel) ⟨Nat.le_of_ble_eq_true rfl, Nat.le_of_ble_eq_true rfl⟩) (G_pS hK hY) rfl rfl hl.1 rfl (lv_room (Nat.le_of_ble_eq_true rfl)) dX11_queue_90 ⟨Nat.le_of_ble_eq_true rfl, Nat.le_of_ble_eq_true rfl⟩) ?_
  clear hY
  rintro H locs hY
  exact wX11_queue_93 hx hb hr hml hown hg hlocks hK hA hL hr3 hY (lv_sub hl [0, 1, 2, 3] rfl) h
def fX11_queue_85 (N : Nat) (σ : gS) (x1 : Int32) (x2 : Int32) (r3 : Nat) : Option (Int32 × gS) := fX11_queue_90 N σ x1 x2 r3 1
set_option maxRecDepth 100000 in
set_option maxHeartbeats 4000000 in
theorem wX11_queue_85 {σ : gS} {x1 : Int32} {x2 : Int32} {r3 : Nat} (hx : p.tables.exec = Jvm.exec) (hb : c.code = cX11_queue) (hr : meth.sig.returnType = (some .int)) (hml : c.maxLocals = 5) (hown : s.vm.findClass RX11 = some m.cls) (hg : ∀ w ∈ wsL_law, w.before args s = true) (hlocks : meth.locks = false) (hK : gK D y aS s) (hA : ∀ q, s.heap.size ≤ q → A q) (hL : ∀ k, k < 179 → k ∈ L) (hr3 : gcl r3 = 1) {H : Heap} {locs : List Loc} {ls : Array Slot} (hY : gY D y A s L ad σ H locs) (hl : lv_has ls 5 [(0, .ref (ad 0)), (1, .int x1), (2, .int x2), (3, .ref (ad r3))]) (h : fX11_queue_85 N σ x1 x2 r3 = some res) : W p l e ({ frames := 4, cells := 0, slots := 0, locals := 101 } : Room) s m args below meth c H locs 0 0 (MQ below (va_Qi (fun (r : Int32) (_ : Unit) => r = res.1) (fun _ => gO D A (GW L y ad res.2)) A) args s 0 0 A) (F0 m 85 ls []) := by
  unfold fX11_queue_85 at h
  refine lv_iconst (v := 1) hx hb dX11_queue_85 (by decide) ?_
  refine lv_goto (tgt := 90) hx hb dX11_queue_86 (by decide) ?_
  exact wX11_queue_90 hx hb hr hml hown hg hlocks hK hA hL hr3 hY (lv_sub hl [0, 1, 2, 3] rfl) h
def fX11_queue_46 (N : Nat) (σ : gS) (x1 : Int32) (x2 : Int32) (r3 : Nat) (xs0 : Int32) : Option (Int32 × gS) := (fX11_needState N σ xs0).bind fun r_1 => if (σ.1 r3 2) = (-1) then (fX11_queue_93 N σ x1 x2 r3) else ((fX2_at N σ (σ.1 r3 2)).bind fun r_4 => if (σ.1 r_4 3) = 1 then (fX11_queue_85 N σ x1 x2 r3) else (if (σ.1 r_4 3) = 2 then (fX11_queue_85 N σ x1 x2 r3) else (fX11_queue_90 N σ x1 x2 r3 0)))
set_option maxRecDepth 100000 in
set_option maxHeartbeats 4000000 in
theorem wX11_queue_46 {σ : gS} {x1 : Int32} {x2 : Int32} {r3 : Nat} {xs0 : Int32} (hx : p.tables.exec = Jvm.exec) (hb : c.code = cX11_queue) (hr : meth.sig.returnType = (some .int)) (hml : c.maxLocals = 5) (hown : s.vm.findClass RX11 = some m.cls) (hg : ∀ w ∈ wsL_law, w.before args s = true) (hlocks : meth.locks = false) (hK : gK D y aS s) (hA : ∀ q, s.heap.size ≤ q → A q) (hL : ∀ k, k < 179 → k ∈ L) (hr3 : gcl r3 = 1) {H : Heap} {locs : List Loc} {ls : Array Slot} (hY : gY D y A s L ad σ H locs) (hl : lv_has ls 5 [(0, .ref (ad 0)), (1, .int x1), (2, .int x2), (3, .ref (ad r3))]) (h : fX11_queue_46 N σ x1 x2 r3 xs0 = some res) : W p l e ({ frames := 4, cells := 0, slots := 0, locals := 101 } : Room) s m args below meth c H locs 0 0 (MQ below (va_Qi (fun (r : Int32) (_ : Unit) => r = res.1) (fun _ => gO D A (GW L y ad res.2)) A) args s 0 0 A) (F0 m 46 ls [.int xs0]) := by
  unfold fX11_queue_46 at h
  obtain ⟨r_1, e_2, h⟩ := g_bind h
  refine G_av hY hA (va_runS (As := [.int xs0]) (rest := []) ⟨hx, hb, hml, hown, hg⟩ (kX11_needState l D y aS H.size L hL ad N σ xs0 _ e_2) (va_cwS 1 hg ggS_RX11_123_X11_needState rfl rfl rfl (by decide +kernel) ⟨Nat.le_of_ble_eq_true rfl, Nat.le_of_ble_eq_true rfl⟩) (G_pS hK hY) rfl rfl hl.1 rfl (lv_room (Nat.le_of_ble_eq_true rfl)) dX11_queue_46 ⟨Nat.le_of_ble_eq_true rfl, Nat.le_of_ble_eq_true rfl⟩) ?_
  clear hY
  rintro H locs hY
  refine lv_aload_n hx hb dX11_queue_49 rfl (lv_at hl 3 rfl) ?_
  refine G_get (ci := 1) (j := 2) (C := RX1) (T := TX1) (N := 14) (v := .int (σ.1 r3 2)) hx hb hg inlX1 hown hK hY (hL _ (gcl_lt hr3 (by decide))) hr3 (by decide) rfl (by decide) tX1_2 (hg _ gw_356) rfl dX11_queue_50 ?_
  refine lv_iconst (v := (-1)) hx hb dX11_queue_53 (by decide) ?_
  refine lv_icmp_eq (tgt := 93) hx hb dX11_queue_54 (by decide) (fun z_3 => ?_) (fun z_3 => ?_)
  ·
    rw [if_pos z_3] at h
    exact wX11_queue_93 hx hb hr hml hown hg hlocks hK hA hL hr3 hY (lv_sub hl [0, 1, 2, 3] rfl) h
  ·
    rw [if_neg z_3] at h
    refine lv_aload_n hx hb dX11_queue_57 rfl (lv_at hl 0 rfl) ?_
    refine G_get (ci := 11) (j := 0) (C := RX11) (T := TX11) (N := 19) (v := .ref (ad 1)) hx hb hg inlX11 hown hK hY (hL 0 (by decide)) gk_0 (by decide) rfl (by decide) tX11_0 (hg _ gw_16) rfl dX11_queue_58 ?_
    refine lv_aload_n hx hb dX11_queue_61 rfl (lv_at hl 3 rfl) ?_
    refine G_get (ci := 1) (j := 2) (C := RX1) (T := TX1) (N := 14) (v := .int (σ.1 r3 2)) hx hb hg inlX1 hown hK hY (hL _ (gcl_lt hr3 (by decide))) hr3 (by decide) rfl (by decide) tX1_2 (hg _ gw_356) rfl dX11_queue_62 ?_
    obtain ⟨r_4, e_5, h⟩ := g_bind h
    refine G_ar hY hA (va_runV (As := [.int (σ.1 r3 2)]) (rest := []) ⟨hx, hb, hml, hown, hg⟩ (kX2_at l D y aS H.size L hL ad N σ (σ.1 r3 2) _ e_5) (cwV 1 hg ggV_RX11_113_X2_at rfl rfl rfl (by decide +kernel) ⟨Nat.le_of_ble_eq_true rfl, Nat.le_of_ble_eq_true rfl⟩) (G_pV (q := (RX2, TX2, 5)) hK hY (hL 1 (by decide)) gk_1 (by decide) rfl) rfl rfl hl.1 rfl (lv_room (Nat.le_of_ble_eq_true rfl)) dX11_queue_65 ⟨Nat.le_of_ble_eq_true rfl, Nat.le_of_ble_eq_true rfl⟩) ?_
    clear hY
    rintro H locs k_6 hY
    refine G_get (ci := 1) (j := 3) (C := RX1) (T := TX1) (N := 14) (v := .int (σ.1 r_4 3)) hx hb hg inlX1 hown hK hY (hL _ (gcl_lt k_6 (by decide))) k_6 (by decide) rfl (by decide) tX1_3 (hg _ gw_379) rfl dX11_queue_68 ?_
    refine lv_istore (lv' := [(4, .int (σ.1 r_4 3)), (0, .ref (ad 0)), (1, .int x1), (2, .int x2), (3, .ref (ad r3))]) hx hb dX11_queue_71 hl (by decide) rfl ?_
    clear hl
    intro ls hl
    refine lv_iload hx hb dX11_queue_73 (lv_at hl 0 rfl) ?_
    refine lv_iconst (v := 1) hx hb dX11_queue_75 (by decide) ?_
    refine lv_icmp_eq (tgt := 85) hx hb dX11_queue_76 (by decide) (fun z_7 => ?_) (fun z_7 => ?_)
    ·
      rw [if_pos z_7] at h
      exact wX11_queue_85 hx hb hr hml hown hg hlocks hK hA hL hr3 hY (lv_sub hl [1, 2, 3, 4] rfl) h
    ·
      rw [if_neg z_7] at h
      refine lv_iload hx hb dX11_queue_79 (lv_at hl 0 rfl) ?_
      refine lv_iconst (v := 2) hx hb dX11_queue_81 (by decide) ?_
      refine lv_icmp_ne (tgt := 89) hx hb dX11_queue_82 (by decide) (fun z_8 => ?_) (fun z_8 => ?_)
      ·
        rw [if_neg z_8] at h
        refine lv_iconst (v := 0) hx hb dX11_queue_89 (by decide) ?_
        exact wX11_queue_90 hx hb hr hml hown hg hlocks hK hA hL hr3 hY (lv_sub hl [1, 2, 3, 4] rfl) h
      ·
        rw [if_pos z_8] at h
        exact wX11_queue_85 hx hb hr hml hown hg hlocks hK hA hL hr3 hY (lv_sub hl [1, 2, 3, 4] rfl) h
def fX11_queue_45 (N : Nat) (σ : gS) (x1 : Int32) (x2 : Int32) (r3 : Nat) : Option (Int32 × gS) := fX11_queue_46 N σ x1 x2 r3 0
set_option maxRecDepth 100000 in
set_option maxHeartbeats 4000000 in
theorem wX11_queue_45 {σ : gS} {x1 : Int32} {x2 : Int32} {r3 : Nat} (hx : p.tables.exec = Jvm.exec) (hb : c.code = cX11_queue) (hr : meth.sig.returnType = (some .int)) (hml : c.maxLocals = 5) (hown : s.vm.findClass RX11 = some m.cls) (hg : ∀ w ∈ wsL_law, w.before args s = true) (hlocks : meth.locks = false) (hK : gK D y aS s) (hA : ∀ q, s.heap.size ≤ q → A q) (hL : ∀ k, k < 179 → k ∈ L) (hr3 : gcl r3 = 1) {H : Heap} {locs : List Loc} {ls : Array Slot} (hY : gY D y A s L ad σ H locs) (hl : lv_has ls 5 [(0, .ref (ad 0)), (1, .int x1), (2, .int x2), (3, .ref (ad r3))]) (h : fX11_queue_45 N σ x1 x2 r3 = some res) : W p l e ({ frames := 4, cells := 0, slots := 0, locals := 101 } : Room) s m args below meth c H locs 0 0 (MQ below (va_Qi (fun (r : Int32) (_ : Unit) => r = res.1) (fun _ => gO D A (GW L y ad res.2)) A) args s 0 0 A) (F0 m 45 ls []) := by
  unfold fX11_queue_45 at h
  refine lv_iconst (v := 0) hx hb dX11_queue_45 (by decide) ?_
  exact wX11_queue_46 hx hb hr hml hown hg hlocks hK hA hL hr3 hY (lv_sub hl [0, 1, 2, 3] rfl) h
end
def fX11_queue (N : Nat) (σ : gS) (x1 : Int32) (x2 : Int32) : Option (Int32 × gS) := (fX11_needPlace N σ x1 (σ.1 1 4)).bind fun r_1 => (fX11_needRange N σ x2 (0 : Int32) (3 : Int32)).bind fun r_3 => (fX2_at N σ x1).bind fun r_5 => if (σ.1 r_5 3) = 0 then ((fX11_isApproved N σ r_5).bind fun r_9 => if r_9 = 0 then (fX11_queue_45 N σ x1 x2 r_5) else (fX11_queue_46 N σ x1 x2 r_5 1)) else (fX11_queue_45 N σ x1 x2 r_5)
set_option maxRecDepth 100000 in
set_option maxHeartbeats 4000000 in
theorem kX11_queue (l : Launch) (D : va_G) (y : Nat → ClassId) (aS : Nat → Nat) (sz : Nat) (L : List Nat) (hL : ∀ k, k < 179 → k ∈ L) (ad : Nat → Nat) (N : Nat) (σ : gS) (x1 : Int32) (x2 : Int32) (res : (Int32 × gS)) (h : fX11_queue N σ x1 x2 = some res) : Met l yX11_queue (Cond.code yX11_queue cX11_queue 5 (some .int) :: wsL_law) ({ frames := 4, cells := 0, slots := 0, locals := 101 } : Room) (va_Pc [.ref (ad 0), .int x1, .int x2] (gI D y aS (GW L y ad σ) sz)) (va_Qi (fun (r : Int32) (_ : Unit) => r = res.1) (fun _ => gO D (va_A (GW L y ad σ) sz) (GW L y ad res.2)) (va_A (GW L y ad σ) sz)) 0 0 (va_A (GW L y ad σ) sz) := by
  refine g_of (by decide) (Nat.le_of_ble_eq_true rfl) ?_
  intro p e s m below meth c ls A hx hb hr hml hown hg hlocks hin hsz hK hP hD hS hA hAe hl
  rw [← hAe]
  replace hown : s.vm.findClass RX11 = some m.cls := hown
  have hY : gY D y A s L ad σ s.heap [] := ⟨hP, hD, hS⟩
  clear hP hD hS
  replace hl : lv_has ls 5 [(0, .ref (ad 0)), (1, .int x1), (2, .int x2)] := hl
  unfold fX11_queue at h
  refine lv_iload_n hx hb dX11_queue_0 rfl (lv_at hl 1 rfl) ?_
  refine lv_aload_n hx hb dX11_queue_1 rfl (lv_at hl 0 rfl) ?_
  refine G_get (ci := 11) (j := 0) (C := RX11) (T := TX11) (N := 19) (v := .ref (ad 1)) hx hb hg inlX11 hown hK hY (hL 0 (by decide)) gk_0 (by decide) rfl (by decide) tX11_0 (hg _ gw_16) rfl dX11_queue_2 ?_
  refine G_get (ci := 2) (j := 4) (C := RX2) (T := TX2) (N := 5) (v := .int (σ.1 1 4)) hx hb hg inlX2 hown hK hY (hL 1 (by decide)) gk_1 (by decide) rfl (by decide) tX2_4 (hg _ gw_173) rfl dX11_queue_5 ?_
  obtain ⟨r_1, e_2, h⟩ := g_bind h
  refine G_av hY hA (va_runS (As := [.int x1, .int (σ.1 1 4)]) (rest := []) ⟨hx, hb, hml, hown, hg⟩ (kX11_needPlace l D y aS s.heap.size L hL ad N σ x1 (σ.1 1 4) _ e_2) (va_cwS 2 hg ggS_RX11_106_X11_needPlace rfl rfl rfl (by decide +kernel) ⟨Nat.le_of_ble_eq_true rfl, Nat.le_of_ble_eq_true rfl⟩) (G_pS hK hY) rfl rfl hl.1 rfl (lv_room (Nat.le_of_ble_eq_true rfl)) dX11_queue_8 ⟨Nat.le_of_ble_eq_true rfl, Nat.le_of_ble_eq_true rfl⟩) ?_
  clear hY
  rintro H locs hY
  refine lv_iload_n hx hb dX11_queue_11 rfl (lv_at hl 2 rfl) ?_
  refine lv_iconst (v := 0) hx hb dX11_queue_12 (by decide) ?_
  refine lv_iconst (v := 3) hx hb dX11_queue_13 (by decide) ?_
  obtain ⟨r_3, e_4, h⟩ := g_bind h
  refine G_av hY hA (va_runS (As := [.int x2, .int 0, .int 3]) (rest := []) ⟨hx, hb, hml, hown, hg⟩ (kX11_needRange l D y aS H.size L hL ad N σ x2 (0 : Int32) (3 : Int32) _ e_4) (va_cwS 3 hg ggS_RX11_133_X11_needRange rfl rfl rfl (by decide +kernel) ⟨Nat.le_of_ble_eq_true rfl, Nat.le_of_ble_eq_true rfl⟩) (G_pS hK hY) rfl rfl hl.1 rfl (lv_room (Nat.le_of_ble_eq_true rfl)) dX11_queue_14 ⟨Nat.le_of_ble_eq_true rfl, Nat.le_of_ble_eq_true rfl⟩) ?_
  clear hY
  rintro H locs hY
  refine lv_aload_n hx hb dX11_queue_17 rfl (lv_at hl 0 rfl) ?_
  refine G_get (ci := 11) (j := 0) (C := RX11) (T := TX11) (N := 19) (v := .ref (ad 1)) hx hb hg inlX11 hown hK hY (hL 0 (by decide)) gk_0 (by decide) rfl (by decide) tX11_0 (hg _ gw_16) rfl dX11_queue_18 ?_
  refine lv_iload_n hx hb dX11_queue_21 rfl (lv_at hl 1 rfl) ?_
  obtain ⟨r_5, e_6, h⟩ := g_bind h
  refine G_ar hY hA (va_runV (As := [.int x1]) (rest := []) ⟨hx, hb, hml, hown, hg⟩ (kX2_at l D y aS H.size L hL ad N σ x1 _ e_6) (cwV 1 hg ggV_RX11_113_X2_at rfl rfl rfl (by decide +kernel) ⟨Nat.le_of_ble_eq_true rfl, Nat.le_of_ble_eq_true rfl⟩) (G_pV (q := (RX2, TX2, 5)) hK hY (hL 1 (by decide)) gk_1 (by decide) rfl) rfl rfl hl.1 rfl (lv_room (Nat.le_of_ble_eq_true rfl)) dX11_queue_22 ⟨Nat.le_of_ble_eq_true rfl, Nat.le_of_ble_eq_true rfl⟩) ?_
  clear hY
  rintro H locs k_7 hY
  refine lv_astore_n (lv' := [(3, .ref (ad r_5)), (0, .ref (ad 0)), (1, .int x1), (2, .int x2)]) hx hb dX11_queue_25 rfl hl (by decide) rfl ?_
  clear hl
  intro ls hl
  refine lv_aload_n hx hb dX11_queue_26 rfl (lv_at hl 0 rfl) ?_
  refine G_get (ci := 1) (j := 3) (C := RX1) (T := TX1) (N := 14) (v := .int (σ.1 r_5 3)) hx hb hg inlX1 hown hK hY (hL _ (gcl_lt k_7 (by decide))) k_7 (by decide) rfl (by decide) tX1_3 (hg _ gw_379) rfl dX11_queue_27 ?_
  refine lv_if_ne (tgt := 45) hx hb dX11_queue_30 (by decide) (fun z_8 => ?_) (fun z_8 => ?_)
  ·
    rw [if_neg z_8] at h
    exact wX11_queue_45 hx hb hr hml hown hg hlocks hK hA hL k_7 hY (lv_sub hl [1, 2, 3, 0] rfl) h
  ·
    rw [if_pos z_8] at h
    refine lv_aload_n hx hb dX11_queue_33 rfl (lv_at hl 1 rfl) ?_
    refine lv_aload_n hx hb dX11_queue_34 rfl (lv_at hl 0 rfl) ?_
    obtain ⟨r_9, e_10, h⟩ := g_bind h
    refine G_ai hY hA (va_runV (As := [.ref (ad r_5)]) (rest := []) ⟨hx, hb, hml, hown, hg⟩ (kX11_isApproved l D y aS H.size L hL ad N σ r_5 _ k_7 e_10) (cwV 1 hg ggV_RX11_196_X11_isApproved rfl rfl rfl (by decide +kernel) ⟨Nat.le_of_ble_eq_true rfl, Nat.le_of_ble_eq_true rfl⟩) (G_pV (q := (RX11, TX11, 19)) hK hY (hL 0 (by decide)) gk_0 (by decide) rfl) rfl rfl hl.1 rfl (lv_room (Nat.le_of_ble_eq_true rfl)) dX11_queue_35 ⟨Nat.le_of_ble_eq_true rfl, Nat.le_of_ble_eq_true rfl⟩) ?_
    clear hY
    rintro _ H locs rfl hY
    refine lv_if_eq (tgt := 45) hx hb dX11_queue_38 (by decide) (fun z_11 => ?_) (fun z_11 => ?_)
    ·
      rw [if_pos z_11] at h
      exact wX11_queue_45 hx hb hr hml hown hg hlocks hK hA hL k_7 hY (lv_sub hl [1, 2, 3, 0] rfl) h
    ·
      rw [if_neg z_11] at h
      refine lv_iconst (v := 1) hx hb dX11_queue_41 (by decide) ?_
      refine lv_goto (tgt := 46) hx hb dX11_queue_42 (by decide) ?_
      exact wX11_queue_46 hx hb hr hml hown hg hlocks hK hA hL k_7 hY (lv_sub hl [1, 2, 3, 0] rfl) h
theorem ggS_RX11_404_J13_bitCount_95d88 : GoodIn wsL_law (va_wsS RX11 404 yJ13_bitCount_95d88 (Cond.code yJ13_bitCount_95d88 cJ13_bitCount_95d88 2 (some .int) :: wsL_law)) := g_gi (fun _ h => h) gW_good (List.forall_mem_cons.mpr ⟨⟨gw_422, rfl⟩, List.forall_mem_cons.mpr ⟨⟨gw_423, rfl⟩, List.forall_mem_cons.mpr ⟨⟨gw_424, rfl⟩, fun _ h => nomatch h⟩⟩⟩) ⟨gw_425, rfl⟩
section
variable {p : Program} {l : Launch} {e : Env} {s : State} {m : MethodId} {args : Array Value} {below : List Frame} {meth : Method} {c : Code} {D : va_G} {y : Nat → ClassId} {aS : Nat → Nat} {A : Nat → Prop} {L : List Nat} {ad : Nat → Nat} {N : Nat} {res : (Int32 × gS)}
def fX11_takeOutOfQueue_88 (N : Nat) (rec20 : (gS × Int64 × Int32) → Option (Int32 × gS)) (σ : gS) (x3 : Int64) (x5 : Int32) : Option (Int32 × gS) := rec20 (σ, x3, (x5 + 1))
set_option maxRecDepth 100000 in
set_option maxHeartbeats 4000000 in
theorem wX11_takeOutOfQueue_88 {rec20 : (gS × Int64 × Int32) → Option (Int32 × gS)} {σ : gS} {x3 : Int64} {x5 : Int32} (hx : p.tables.exec = Jvm.exec) (hb : c.code = cX11_takeOutOfQueue) (hr : meth.sig.returnType = (some .int)) (hml : c.maxLocals = 7) (hown : s.vm.findClass RX11 = some m.cls) (hg : ∀ w ∈ wsL_law, w.before args s = true) (hlocks : meth.locks = false) (hK : gK D y aS s) (hA : ∀ q, s.heap.size ≤ q → A q) (hL : ∀ k, k < 179 → k ∈ L) (hrec20 : ∀ {σ9 : gS} {x3n9 : Int64} {x5n9 : Int32} (H : Heap) (locs : List Loc) (ls : Array Slot), gY D y A s L ad σ9 H locs → lv_has ls 7 [(0, .ref (ad 0)), (3, .long x3n9), (5, .int x5n9)] → rec20 (σ9, x3n9, x5n9) = some res → W p l e ({ frames := 1, cells := 0, slots := 0, locals := 22 } : Room) s m args below meth c H locs 0 0 (MQ below (va_Qi (fun (r : Int32) (_ : Unit) => r = res.1) (fun _ => gO D A (GW L y ad res.2)) A) args s 0 0 A) (F0 m 20 ls [])) {H : Heap} {locs : List Loc} {ls : Array Slot} (hY : gY D y A s L ad σ H locs) (hl : lv_has ls 7 [(0, .ref (ad 0)), (3, .long x3), (5, .int x5)]) (h : fX11_takeOutOfQueue_88 N rec20 σ x3 x5 = some res) : W p l e ({ frames := 1, cells := 0, slots := 0, locals := 22 } : Room) s m args below meth c H locs 0 0 (MQ below (va_Qi (fun (r : Int32) (_ : Unit) => r = res.1) (fun _ => gO D A (GW L y ad res.2)) A) args s 0 0 A) (F0 m 88 ls []) := by
  unfold fX11_takeOutOfQueue_88 at h
  refine lv_iinc (v := (x5 + 1)) (lv' := [(5, .int (x5 + 1)), (0, .ref (ad 0)), (3, .long x3)]) hx hb dX11_takeOutOfQueue_88 hl (k := 2) rfl rfl (by decide) rfl ?_
  clear hl
  intro ls hl
  refine lv_goto (tgt := 20) hx hb dX11_takeOutOfQueue_91 (by decide) ?_
  exact hrec20 _ _ _ hY (lv_sub hl [1, 2, 0] rfl) h
def fX11_takeOutOfQueue_20 (N : Nat) (rec20 : (gS × Int64 × Int32) → Option (Int32 × gS)) (xx : gS × Int64 × Int32) : Option (Int32 × gS) := match xx with
  | (σ, x3, x5) => if (σ.1 1 4) ≤ x5 then ((fX11_stir N σ).bind fun r_2 => (fJ13_bitCount_95d88 N r_2 x3).bind fun r_4 => some (r_4, r_2)) else ((fX2_at N σ x5).bind fun r_6 => if (σ.1 r_6 3) = 1 then (if (σ.1 r_6 2) = (-1) then (fX11_takeOutOfQueue_88 N rec20 σ x3 x5) else (if (lg_cmp (((x3.toUInt64 >>> ((σ.1 r_6 2).toInt64.toUInt64 &&& Int64.toUInt64 63)).toInt64) &&& 1) 0) = 0 then (fX11_takeOutOfQueue_88 N rec20 σ x3 x5) else (fX11_takeOutOfQueue_88 N rec20 (sI σ r_6 3 5) (x3 ||| (((1 : Int64) <<< (x5.toInt64 &&& 63)))) x5))) else (fX11_takeOutOfQueue_88 N rec20 σ x3 x5))
set_option maxRecDepth 100000 in
set_option maxHeartbeats 4000000 in
theorem wX11_takeOutOfQueue_20 (hx : p.tables.exec = Jvm.exec) (hb : c.code = cX11_takeOutOfQueue) (hr : meth.sig.returnType = (some .int)) (hml : c.maxLocals = 7) (hown : s.vm.findClass RX11 = some m.cls) (hg : ∀ w ∈ wsL_law, w.before args s = true) (hlocks : meth.locks = false) (hK : gK D y aS s) (hA : ∀ q, s.heap.size ≤ q → A q) (hL : ∀ k, k < 179 → k ∈ L) : ∀ (n : Nat) {σ : gS} {x3 : Int64} {x5 : Int32} (H : Heap) (locs : List Loc) (ls : Array Slot), gY D y A s L ad σ H locs → lv_has ls 7 [(0, .ref (ad 0)), (3, .long x3), (5, .int x5)] → lp (fX11_takeOutOfQueue_20 N) n (σ, x3, x5) = some res → W p l e ({ frames := 1, cells := 0, slots := 0, locals := 22 } : Room) s m args below meth c H locs 0 0 (MQ below (va_Qi (fun (r : Int32) (_ : Unit) => r = res.1) (fun _ => gO D A (GW L y ad res.2)) A) args s 0 0 A) (F0 m 20 ls []) := by
  intro n
  induction n with
  | zero => intro σ x3 x5 H locs ls hY hl h; exact nomatch (show none = some res from h)
  | succ n hrec20 =>
    intro σ x3 x5 H locs ls hY hl h
    replace h : fX11_takeOutOfQueue_20 N (lp (fX11_takeOutOfQueue_20 N) n) (σ, x3, x5) = some res := h
    generalize lp (fX11_takeOutOfQueue_20 N) n = rec20 at h hrec20
    unfold fX11_takeOutOfQueue_20 at h
    try dsimp only at h
    refine lv_iload hx hb dX11_takeOutOfQueue_20 (lv_at hl 2 rfl) ?_
    refine lv_aload_n hx hb dX11_takeOutOfQueue_22 rfl (lv_at hl 0 rfl) ?_
    refine G_get (ci := 11) (j := 0) (C := RX11) (T := TX11) (N := 19) (v := .ref (ad 1)) hx hb hg inlX11 hown hK hY (hL 0 (by decide)) gk_0 (by decide) rfl (by decide) tX11_0 (hg _ gw_16) rfl dX11_takeOutOfQueue_23 ?_
    refine G_get (ci := 2) (j := 4) (C := RX2) (T := TX2) (N := 5) (v := .int (σ.1 1 4)) hx hb hg inlX2 hown hK hY (hL 1 (by decide)) gk_1 (by decide) rfl (by decide) tX2_4 (hg _ gw_173) rfl dX11_takeOutOfQueue_26 ?_
    refine lv_icmp_ge (tgt := 94) hx hb dX11_takeOutOfQueue_29 (by decide) (fun z_1 => ?_) (fun z_1 => ?_)
    ·
      rw [if_pos z_1] at h
      refine lv_aload_n hx hb dX11_takeOutOfQueue_94 rfl (lv_at hl 0 rfl) ?_
      obtain ⟨r_2, e_3, h⟩ := g_bind h
      refine G_av hY hA (va_runV (As := []) (rest := []) ⟨hx, hb, hml, hown, hg⟩ (kX11_stir l D y aS H.size L hL ad N σ _ e_3) (cwV 0 hg ggV_RX11_230_X11_stir rfl rfl rfl (by decide +kernel) ⟨Nat.le_of_ble_eq_true rfl, Nat.le_of_ble_eq_true rfl⟩) (G_pV (q := (RX11, TX11, 19)) hK hY (hL 0 (by decide)) gk_0 (by decide) rfl) rfl rfl hl.1 rfl (lv_room (Nat.le_of_ble_eq_true rfl)) dX11_takeOutOfQueue_95 ⟨Nat.le_of_ble_eq_true rfl, Nat.le_of_ble_eq_true rfl⟩) ?_
      clear hY
      rintro H locs hY
      refine lv_lload_n hx hb dX11_takeOutOfQueue_98 rfl (lv_at hl 1 rfl) ?_
      obtain ⟨r_4, e_5, h⟩ := g_bind h
      refine G_ai hY hA (va_runS (As := [.long x3]) (rest := []) ⟨hx, hb, hml, hown, hg⟩ (kJ13_bitCount_95d88 l D y aS H.size L hL ad N r_2 x3 _ e_5) (va_cwS 1 hg ggS_RX11_404_J13_bitCount_95d88 rfl rfl rfl (by decide +kernel) ⟨Nat.le_of_ble_eq_true rfl, Nat.le_of_ble_eq_true rfl⟩) (G_pS hK hY) rfl rfl hl.1 rfl (lv_room (Nat.le_of_ble_eq_true rfl)) dX11_takeOutOfQueue_99 ⟨Nat.le_of_ble_eq_true rfl, Nat.le_of_ble_eq_true rfl⟩) ?_
      clear hY
      rintro _ H locs rfl hY
      cases h
      exact g_iret hx hb hr hlocks () hY.1 hY.2.1 hY.2.2 rfl rfl (Nat.le_of_ble_eq_true rfl) (Nat.le_of_ble_eq_true rfl) dX11_takeOutOfQueue_102
    ·
      rw [if_neg z_1] at h
      refine lv_aload_n hx hb dX11_takeOutOfQueue_32 rfl (lv_at hl 0 rfl) ?_
      refine G_get (ci := 11) (j := 0) (C := RX11) (T := TX11) (N := 19) (v := .ref (ad 1)) hx hb hg inlX11 hown hK hY (hL 0 (by decide)) gk_0 (by decide) rfl (by decide) tX11_0 (hg _ gw_16) rfl dX11_takeOutOfQueue_33 ?_
      refine lv_iload hx hb dX11_takeOutOfQueue_36 (lv_at hl 2 rfl) ?_
      obtain ⟨r_6, e_7, h⟩ := g_bind h
      refine G_ar hY hA (va_runV (As := [.int x5]) (rest := []) ⟨hx, hb, hml, hown, hg⟩ (kX2_at l D y aS H.size L hL ad N σ x5 _ e_7) (cwV 1 hg ggV_RX11_113_X2_at rfl rfl rfl (by decide +kernel) ⟨Nat.le_of_ble_eq_true rfl, Nat.le_of_ble_eq_true rfl⟩) (G_pV (q := (RX2, TX2, 5)) hK hY (hL 1 (by decide)) gk_1 (by decide) rfl) rfl rfl hl.1 rfl (lv_room (Nat.le_of_ble_eq_true rfl)) dX11_takeOutOfQueue_38 ⟨Nat.le_of_ble_eq_true rfl, Nat.le_of_ble_eq_true rfl⟩) ?_
      clear hY
      rintro H locs k_8 hY
      refine lv_astore (lv' := [(6, .ref (ad r_6)), (0, .ref (ad 0)), (3, .long x3), (5, .int x5)]) hx hb dX11_takeOutOfQueue_41 hl (by decide) rfl ?_
      clear hl
      intro ls hl
      refine lv_aload hx hb dX11_takeOutOfQueue_43 (lv_at hl 0 rfl) ?_
      refine G_get (ci := 1) (j := 3) (C := RX1) (T := TX1) (N := 14) (v := .int (σ.1 r_6 3)) hx hb hg inlX1 hown hK hY (hL _ (gcl_lt k_8 (by decide))) k_8 (by decide) rfl (by decide) tX1_3 (hg _ gw_379) rfl dX11_takeOutOfQueue_45 ?_
      refine lv_iconst (v := 1) hx hb dX11_takeOutOfQueue_48 (by decide) ?_
      refine lv_icmp_ne (tgt := 88) hx hb dX11_takeOutOfQueue_49 (by decide) (fun z_9 => ?_) (fun z_9 => ?_)
      ·
        rw [if_neg z_9] at h
        exact wX11_takeOutOfQueue_88 hx hb hr hml hown hg hlocks hK hA hL hrec20 hY (lv_sub hl [1, 2, 3] rfl) h
      ·
        rw [if_pos z_9] at h
        refine lv_aload hx hb dX11_takeOutOfQueue_52 (lv_at hl 0 rfl) ?_
        refine G_get (ci := 1) (j := 2) (C := RX1) (T := TX1) (N := 14) (v := .int (σ.1 r_6 2)) hx hb hg inlX1 hown hK hY (hL _ (gcl_lt k_8 (by decide))) k_8 (by decide) rfl (by decide) tX1_2 (hg _ gw_356) rfl dX11_takeOutOfQueue_54 ?_
        refine lv_iconst (v := (-1)) hx hb dX11_takeOutOfQueue_57 (by decide) ?_
        refine lv_icmp_eq (tgt := 88) hx hb dX11_takeOutOfQueue_58 (by decide) (fun z_10 => ?_) (fun z_10 => ?_)
        ·
          rw [if_pos z_10] at h
          exact wX11_takeOutOfQueue_88 hx hb hr hml hown hg hlocks hK hA hL hrec20 hY (lv_sub hl [1, 2, 3] rfl) h
        ·
          rw [if_neg z_10] at h
          refine lv_lload_n hx hb dX11_takeOutOfQueue_61 rfl (lv_at hl 2 rfl) ?_
          refine lv_aload hx hb dX11_takeOutOfQueue_62 (lv_at hl 0 rfl) ?_
          refine G_get (ci := 1) (j := 2) (C := RX1) (T := TX1) (N := 14) (v := .int (σ.1 r_6 2)) hx hb hg inlX1 hown hK hY (hL _ (gcl_lt k_8 (by decide))) k_8 (by decide) rfl (by decide) tX1_2 (hg _ gw_356) rfl dX11_takeOutOfQueue_64 ?_
          refine lv_lushr (v := ((x3.toUInt64 >>> ((σ.1 r_6 2).toInt64.toUInt64 &&& Int64.toUInt64 63)).toInt64)) hx hb dX11_takeOutOfQueue_67 rfl ?_
          refine lv_lconst (v := 1) hx hb dX11_takeOutOfQueue_68 (by decide) ?_
          refine lv_land hx hb dX11_takeOutOfQueue_69 ?_
          refine lv_lconst (v := 0) hx hb dX11_takeOutOfQueue_70 (by decide) ?_
          refine W.lcmp hx hb dX11_takeOutOfQueue_71 ?_
          refine lv_if_eq (tgt := 88) hx hb dX11_takeOutOfQueue_72 (by decide) (fun z_11 => ?_) (fun z_11 => ?_)
          ·
            rw [if_pos z_11] at h
            exact wX11_takeOutOfQueue_88 hx hb hr hml hown hg hlocks hK hA hL hrec20 hY (lv_sub hl [1, 2, 3] rfl) h
          ·
            rw [if_neg z_11] at h
            refine lv_aload hx hb dX11_takeOutOfQueue_75 (lv_at hl 0 rfl) ?_
            refine lv_iconst (v := 5) hx hb dX11_takeOutOfQueue_77 (by decide) ?_
            refine G_putI (ci := 1) (j := 3) (C := RX1) (T := TX1) (N := 14) (v := 5) (ty := .int) hx hb hg inlX1 tyX1 tyX1_ok nmX1 hown hK hY (hL _ (gcl_lt k_8 (by decide))) k_8 (by decide) rfl (by decide) tX1_3 (hg _ gw_379) (by decide +kernel) rfl rfl (fun _ _ => rfl) (fun _ _ => Nat.le_of_ble_eq_true rfl) dX11_takeOutOfQueue_78 ?_
            clear hY
            intro H locs hY
            refine lv_lload_n hx hb dX11_takeOutOfQueue_81 rfl (lv_at hl 2 rfl) ?_
            refine lv_lconst (v := 1) hx hb dX11_takeOutOfQueue_82 (by decide) ?_
            refine lv_iload hx hb dX11_takeOutOfQueue_83 (lv_at hl 3 rfl) ?_
            refine lv_lshl (v := (((1 : Int64) <<< (x5.toInt64 &&& 63)))) hx hb dX11_takeOutOfQueue_85 rfl ?_
            refine lv_lor hx hb dX11_takeOutOfQueue_86 ?_
            refine lv_lstore_n (lv' := [(3, .long (x3 ||| (((1 : Int64) <<< (x5.toInt64 &&& 63))))), (6, .ref (ad r_6)), (0, .ref (ad 0)), (5, .int x5)]) hx hb dX11_takeOutOfQueue_87 rfl hl (by decide) rfl ?_
            clear hl
            intro ls hl
            exact wX11_takeOutOfQueue_88 hx hb hr hml hown hg hlocks hK hA hL hrec20 hY (lv_sub hl [2, 0, 3] rfl) h
end
def fX11_takeOutOfQueue (N : Nat) (σ : gS) (r1 : Nat) (x2 : Int32) : Option (Int32 × gS) := lp (fX11_takeOutOfQueue_20 N) N ((sI σ r1 3 x2), (((1 : Int64) <<< (((sI σ r1 3 x2).1 r1 0).toInt64 &&& 63))), (((sI σ r1 3 x2).1 r1 0) + 1))
set_option maxRecDepth 100000 in
set_option maxHeartbeats 4000000 in
theorem kX11_takeOutOfQueue (l : Launch) (D : va_G) (y : Nat → ClassId) (aS : Nat → Nat) (sz : Nat) (L : List Nat) (hL : ∀ k, k < 179 → k ∈ L) (ad : Nat → Nat) (N : Nat) (σ : gS) (r1 : Nat) (x2 : Int32) (res : (Int32 × gS)) (hr1 : gcl r1 = 1) (h : fX11_takeOutOfQueue N σ r1 x2 = some res) : Met l yX11_takeOutOfQueue (Cond.code yX11_takeOutOfQueue cX11_takeOutOfQueue 7 (some .int) :: wsL_law) ({ frames := 1, cells := 0, slots := 0, locals := 22 } : Room) (va_Pc [.ref (ad 0), .ref (ad r1), .int x2] (gI D y aS (GW L y ad σ) sz)) (va_Qi (fun (r : Int32) (_ : Unit) => r = res.1) (fun _ => gO D (va_A (GW L y ad σ) sz) (GW L y ad res.2)) (va_A (GW L y ad σ) sz)) 0 0 (va_A (GW L y ad σ) sz) := by
  refine g_of (by decide) (Nat.le_of_ble_eq_true rfl) ?_
  intro p e s m below meth c ls A hx hb hr hml hown hg hlocks hin hsz hK hP hD hS hA hAe hl
  rw [← hAe]
  replace hown : s.vm.findClass RX11 = some m.cls := hown
  have hY : gY D y A s L ad σ s.heap [] := ⟨hP, hD, hS⟩
  clear hP hD hS
  replace hl : lv_has ls 7 [(0, .ref (ad 0)), (1, .ref (ad r1)), (2, .int x2)] := hl
  unfold fX11_takeOutOfQueue at h
  refine lv_aload_n hx hb dX11_takeOutOfQueue_0 rfl (lv_at hl 1 rfl) ?_
  refine lv_iload_n hx hb dX11_takeOutOfQueue_1 rfl (lv_at hl 2 rfl) ?_
  refine G_putI (ci := 1) (j := 3) (C := RX1) (T := TX1) (N := 14) (v := x2) (ty := .int) hx hb hg inlX1 tyX1 tyX1_ok nmX1 hown hK hY (hL _ (gcl_lt hr1 (by decide))) hr1 (by decide) rfl (by decide) tX1_3 (hg _ gw_379) (by decide +kernel) rfl rfl (fun _ _ => rfl) (fun _ _ => Nat.le_of_ble_eq_true rfl) dX11_takeOutOfQueue_2 ?_
  clear hY
  intro H locs hY
  refine lv_lconst (v := 1) hx hb dX11_takeOutOfQueue_5 (by decide) ?_
  refine lv_aload_n hx hb dX11_takeOutOfQueue_6 rfl (lv_at hl 1 rfl) ?_
  refine G_get (ci := 1) (j := 0) (C := RX1) (T := TX1) (N := 14) (v := .int ((sI σ r1 3 x2).1 r1 0)) hx hb hg inlX1 hown hK hY (hL _ (gcl_lt hr1 (by decide))) hr1 (by decide) rfl (by decide) tX1_0 (hg _ gw_421) rfl dX11_takeOutOfQueue_7 ?_
  refine lv_lshl (v := (((1 : Int64) <<< (((sI σ r1 3 x2).1 r1 0).toInt64 &&& 63)))) hx hb dX11_takeOutOfQueue_10 rfl ?_
  refine lv_lstore_n (lv' := [(3, .long (((1 : Int64) <<< (((sI σ r1 3 x2).1 r1 0).toInt64 &&& 63)))), (0, .ref (ad 0)), (1, .ref (ad r1)), (2, .int x2)]) hx hb dX11_takeOutOfQueue_11 rfl hl (by decide) rfl ?_
  clear hl
  intro ls hl
  refine lv_aload_n hx hb dX11_takeOutOfQueue_12 rfl (lv_at hl 2 rfl) ?_
  refine G_get (ci := 1) (j := 0) (C := RX1) (T := TX1) (N := 14) (v := .int ((sI σ r1 3 x2).1 r1 0)) hx hb hg inlX1 hown hK hY (hL _ (gcl_lt hr1 (by decide))) hr1 (by decide) rfl (by decide) tX1_0 (hg _ gw_421) rfl dX11_takeOutOfQueue_13 ?_
  refine lv_iconst (v := 1) hx hb dX11_takeOutOfQueue_16 (by decide) ?_
  refine lv_iadd hx hb dX11_takeOutOfQueue_17 ?_
  refine lv_istore (lv' := [(5, .int (((sI σ r1 3 x2).1 r1 0) + 1)), (3, .long (((1 : Int64) <<< (((sI σ r1 3 x2).1 r1 0).toInt64 &&& 63)))), (0, .ref (ad 0)), (1, .ref (ad r1)), (2, .int x2)]) hx hb dX11_takeOutOfQueue_18 hl (by decide) rfl ?_
  clear hl
  intro ls hl
  exact wX11_takeOutOfQueue_20 hx hb hr hml hown hg hlocks hK hA hL N _ _ _ hY (lv_sub hl [2, 1, 0] rfl) h
theorem ggV_RX11_213_X11_takeOutOfQueue : GoodIn wsL_law (wsV RX11 213 RX11 yX11_takeOutOfQueue (Cond.code yX11_takeOutOfQueue cX11_takeOutOfQueue 7 (some .int) :: wsL_law)) := g_gi (fun _ h => h) gW_good (List.forall_mem_cons.mpr ⟨⟨gw_417, rfl⟩, List.forall_mem_cons.mpr ⟨⟨gw_418, rfl⟩, List.forall_mem_cons.mpr ⟨⟨gw_419, rfl⟩, List.forall_mem_cons.mpr ⟨⟨gw_2, rfl⟩, fun _ h => nomatch h⟩⟩⟩⟩) ⟨gw_420, rfl⟩
section
variable {p : Program} {l : Launch} {e : Env} {s : State} {m : MethodId} {args : Array Value} {below : List Frame} {meth : Method} {c : Code} {D : va_G} {y : Nat → ClassId} {aS : Nat → Nat} {A : Nat → Prop} {L : List Nat} {ad : Nat → Nat} {N : Nat} {res : (Int32 × gS)}
def fX11_drop_33 (N : Nat) (σ : gS) (r2 : Nat) (xs0 : Int32) : Option (Int32 × gS) := (fX11_needState N σ xs0).bind fun r_1 => (fX11_takeOutOfQueue N σ r2 (5 : Int32)).bind fun r_3 => some (r_3.1, r_3.2)
set_option maxRecDepth 100000 in
set_option maxHeartbeats 4000000 in
theorem wX11_drop_33 {σ : gS} {r2 : Nat} {xs0 : Int32} (hx : p.tables.exec = Jvm.exec) (hb : c.code = cX11_drop) (hr : meth.sig.returnType = (some .int)) (hml : c.maxLocals = 3) (hown : s.vm.findClass RX11 = some m.cls) (hg : ∀ w ∈ wsL_law, w.before args s = true) (hlocks : meth.locks = false) (hK : gK D y aS s) (hA : ∀ q, s.heap.size ≤ q → A q) (hL : ∀ k, k < 179 → k ∈ L) (hr2 : gcl r2 = 1) {H : Heap} {locs : List Loc} {ls : Array Slot} (hY : gY D y A s L ad σ H locs) (hl : lv_has ls 3 [(0, .ref (ad 0)), (2, .ref (ad r2))]) (h : fX11_drop_33 N σ r2 xs0 = some res) : W p l e ({ frames := 2, cells := 0, slots := 0, locals := 48 } : Room) s m args below meth c H locs 0 0 (MQ below (va_Qi (fun (r : Int32) (_ : Unit) => r = res.1) (fun _ => gO D A (GW L y ad res.2)) A) args s 0 0 A) (F0 m 33 ls [.int xs0]) := by
  unfold fX11_drop_33 at h
  obtain ⟨r_1, e_2, h⟩ := g_bind h
  refine G_av hY hA (va_runS (As := [.int xs0]) (rest := []) ⟨hx, hb, hml, hown, hg⟩ (kX11_needState l D y aS H.size L hL ad N σ xs0 _ e_2) (va_cwS 1 hg ggS_RX11_123_X11_needState rfl rfl rfl (by decide +kernel) ⟨Nat.le_of_ble_eq_true rfl, Nat.le_of_ble_eq_true rfl⟩) (G_pS hK hY) rfl rfl hl.1 rfl (lv_room (Nat.le_of_ble_eq_true rfl)) dX11_drop_33 ⟨Nat.le_of_ble_eq_true rfl, Nat.le_of_ble_eq_true rfl⟩) ?_
  clear hY
  rintro H locs hY
  refine lv_aload_n hx hb dX11_drop_36 rfl (lv_at hl 0 rfl) ?_
  refine lv_aload_n hx hb dX11_drop_37 rfl (lv_at hl 1 rfl) ?_
  refine lv_iconst (v := 5) hx hb dX11_drop_38 (by decide) ?_
  obtain ⟨r_3, e_4, h⟩ := g_bind h
  refine G_ai hY hA (va_runV (As := [.ref (ad r2), .int 5]) (rest := []) ⟨hx, hb, hml, hown, hg⟩ (kX11_takeOutOfQueue l D y aS H.size L hL ad N σ r2 (5 : Int32) _ hr2 e_4) (cwV 2 hg ggV_RX11_213_X11_takeOutOfQueue rfl rfl rfl (by decide +kernel) ⟨Nat.le_of_ble_eq_true rfl, Nat.le_of_ble_eq_true rfl⟩) (G_pV (q := (RX11, TX11, 19)) hK hY (hL 0 (by decide)) gk_0 (by decide) rfl) rfl rfl hl.1 rfl (lv_room (Nat.le_of_ble_eq_true rfl)) dX11_drop_39 ⟨Nat.le_of_ble_eq_true rfl, Nat.le_of_ble_eq_true rfl⟩) ?_
  clear hY
  rintro _ H locs rfl hY
  cases h
  exact g_iret hx hb hr hlocks () hY.1 hY.2.1 hY.2.2 rfl rfl (Nat.le_of_ble_eq_true rfl) (Nat.le_of_ble_eq_true rfl) dX11_drop_42
end
def fX11_drop (N : Nat) (σ : gS) (x1 : Int32) : Option (Int32 × gS) := (fX11_needPlace N σ x1 (σ.1 1 4)).bind fun r_1 => (fX2_at N σ x1).bind fun r_3 => if (σ.1 r_3 3) = 1 then (fX11_drop_33 N σ r_3 1) else (fX11_drop_33 N σ r_3 0)
set_option maxRecDepth 100000 in
set_option maxHeartbeats 4000000 in
theorem kX11_drop (l : Launch) (D : va_G) (y : Nat → ClassId) (aS : Nat → Nat) (sz : Nat) (L : List Nat) (hL : ∀ k, k < 179 → k ∈ L) (ad : Nat → Nat) (N : Nat) (σ : gS) (x1 : Int32) (res : (Int32 × gS)) (h : fX11_drop N σ x1 = some res) : Met l yX11_drop (Cond.code yX11_drop cX11_drop 3 (some .int) :: wsL_law) ({ frames := 2, cells := 0, slots := 0, locals := 48 } : Room) (va_Pc [.ref (ad 0), .int x1] (gI D y aS (GW L y ad σ) sz)) (va_Qi (fun (r : Int32) (_ : Unit) => r = res.1) (fun _ => gO D (va_A (GW L y ad σ) sz) (GW L y ad res.2)) (va_A (GW L y ad σ) sz)) 0 0 (va_A (GW L y ad σ) sz) := by
  refine g_of (by decide) (Nat.le_of_ble_eq_true rfl) ?_
  intro p e s m below meth c ls A hx hb hr hml hown hg hlocks hin hsz hK hP hD hS hA hAe hl
  rw [← hAe]
  replace hown : s.vm.findClass RX11 = some m.cls := hown
  have hY : gY D y A s L ad σ s.heap [] := ⟨hP, hD, hS⟩
  clear hP hD hS
  replace hl : lv_has ls 3 [(0, .ref (ad 0)), (1, .int x1)] := hl
  unfold fX11_drop at h
  refine lv_iload_n hx hb dX11_drop_0 rfl (lv_at hl 1 rfl) ?_
  refine lv_aload_n hx hb dX11_drop_1 rfl (lv_at hl 0 rfl) ?_
  refine G_get (ci := 11) (j := 0) (C := RX11) (T := TX11) (N := 19) (v := .ref (ad 1)) hx hb hg inlX11 hown hK hY (hL 0 (by decide)) gk_0 (by decide) rfl (by decide) tX11_0 (hg _ gw_16) rfl dX11_drop_2 ?_
  refine G_get (ci := 2) (j := 4) (C := RX2) (T := TX2) (N := 5) (v := .int (σ.1 1 4)) hx hb hg inlX2 hown hK hY (hL 1 (by decide)) gk_1 (by decide) rfl (by decide) tX2_4 (hg _ gw_173) rfl dX11_drop_5 ?_
  obtain ⟨r_1, e_2, h⟩ := g_bind h
  refine G_av hY hA (va_runS (As := [.int x1, .int (σ.1 1 4)]) (rest := []) ⟨hx, hb, hml, hown, hg⟩ (kX11_needPlace l D y aS s.heap.size L hL ad N σ x1 (σ.1 1 4) _ e_2) (va_cwS 2 hg ggS_RX11_106_X11_needPlace rfl rfl rfl (by decide +kernel) ⟨Nat.le_of_ble_eq_true rfl, Nat.le_of_ble_eq_true rfl⟩) (G_pS hK hY) rfl rfl hl.1 rfl (lv_room (Nat.le_of_ble_eq_true rfl)) dX11_drop_8 ⟨Nat.le_of_ble_eq_true rfl, Nat.le_of_ble_eq_true rfl⟩) ?_
  clear hY
  rintro H locs hY
  refine lv_aload_n hx hb dX11_drop_11 rfl (lv_at hl 0 rfl) ?_
  refine G_get (ci := 11) (j := 0) (C := RX11) (T := TX11) (N := 19) (v := .ref (ad 1)) hx hb hg inlX11 hown hK hY (hL 0 (by decide)) gk_0 (by decide) rfl (by decide) tX11_0 (hg _ gw_16) rfl dX11_drop_12 ?_
  refine lv_iload_n hx hb dX11_drop_15 rfl (lv_at hl 1 rfl) ?_
  obtain ⟨r_3, e_4, h⟩ := g_bind h
  refine G_ar hY hA (va_runV (As := [.int x1]) (rest := []) ⟨hx, hb, hml, hown, hg⟩ (kX2_at l D y aS H.size L hL ad N σ x1 _ e_4) (cwV 1 hg ggV_RX11_113_X2_at rfl rfl rfl (by decide +kernel) ⟨Nat.le_of_ble_eq_true rfl, Nat.le_of_ble_eq_true rfl⟩) (G_pV (q := (RX2, TX2, 5)) hK hY (hL 1 (by decide)) gk_1 (by decide) rfl) rfl rfl hl.1 rfl (lv_room (Nat.le_of_ble_eq_true rfl)) dX11_drop_16 ⟨Nat.le_of_ble_eq_true rfl, Nat.le_of_ble_eq_true rfl⟩) ?_
  clear hY
  rintro H locs k_5 hY
  refine lv_astore_n (lv' := [(2, .ref (ad r_3)), (0, .ref (ad 0)), (1, .int x1)]) hx hb dX11_drop_19 rfl hl (by decide) rfl ?_
  clear hl
  intro ls hl
  refine lv_aload_n hx hb dX11_drop_20 rfl (lv_at hl 0 rfl) ?_
  refine G_get (ci := 1) (j := 3) (C := RX1) (T := TX1) (N := 14) (v := .int (σ.1 r_3 3)) hx hb hg inlX1 hown hK hY (hL _ (gcl_lt k_5 (by decide))) k_5 (by decide) rfl (by decide) tX1_3 (hg _ gw_379) rfl dX11_drop_21 ?_
  refine lv_iconst (v := 1) hx hb dX11_drop_24 (by decide) ?_
  refine lv_icmp_ne (tgt := 32) hx hb dX11_drop_25 (by decide) (fun z_6 => ?_) (fun z_6 => ?_)
  ·
    rw [if_neg z_6] at h
    refine lv_iconst (v := 0) hx hb dX11_drop_32 (by decide) ?_
    exact wX11_drop_33 hx hb hr hml hown hg hlocks hK hA hL k_5 hY (lv_sub hl [1, 0] rfl) h
  ·
    rw [if_pos z_6] at h
    refine lv_iconst (v := 1) hx hb dX11_drop_28 (by decide) ?_
    refine lv_goto (tgt := 33) hx hb dX11_drop_29 (by decide) ?_
    exact wX11_drop_33 hx hb hr hml hown hg hlocks hK hA hL k_5 hY (lv_sub hl [1, 0] rfl) h
theorem ggV_RX11_222_X2_addRevert : GoodIn wsL_law (wsV RX11 222 RX2 yX2_addRevert (Cond.code yX2_addRevert cX2_addRevert 8 (some (.object "Greentrunk$Change")) :: wsL_law)) := g_gi (fun _ h => h) gW_good (List.forall_mem_cons.mpr ⟨⟨gw_433, rfl⟩, List.forall_mem_cons.mpr ⟨⟨gw_434, rfl⟩, List.forall_mem_cons.mpr ⟨⟨gw_435, rfl⟩, List.forall_mem_cons.mpr ⟨⟨gw_15, rfl⟩, fun _ h => nomatch h⟩⟩⟩⟩) ⟨gw_436, rfl⟩
section
variable {p : Program} {l : Launch} {e : Env} {s : State} {m : MethodId} {args : Array Value} {below : List Frame} {meth : Method} {c : Code} {D : va_G} {y : Nat → ClassId} {aS : Nat → Nat} {A : Nat → Prop} {L : List Nat} {ad : Nat → Nat} {N : Nat} {res : (Int32 × gS)}
def fX11_revert_133 (N : Nat) (rec77 : (gS × Int32 × Int32) → Option (Int32 × gS)) (σ : gS) (x2 : Int32) (x3 : Int64) (x5 : Int64) (x7 : Int64) (x9 : Int32) (x10 : Int32) : Option (Int32 × gS) := rec77 (σ, x9, (x10 + 1))
set_option maxRecDepth 100000 in
set_option maxHeartbeats 4000000 in
theorem wX11_revert_133 {rec77 : (gS × Int32 × Int32) → Option (Int32 × gS)} {σ : gS} {x2 : Int32} {x3 : Int64} {x5 : Int64} {x7 : Int64} {x9 : Int32} {x10 : Int32} (hx : p.tables.exec = Jvm.exec) (hb : c.code = cX11_revert) (hr : meth.sig.returnType = (some .int)) (hml : c.maxLocals = 11) (hown : s.vm.findClass RX11 = some m.cls) (hg : ∀ w ∈ wsL_law, w.before args s = true) (hlocks : meth.locks = false) (hK : gK D y aS s) (hA : ∀ q, s.heap.size ≤ q → A q) (hL : ∀ k, k < 179 → k ∈ L) (hrec77 : ∀ {σ9 : gS} {x9n9 : Int32} {x10n9 : Int32} (H : Heap) (locs : List Loc) (ls : Array Slot), gY D y A s L ad σ9 H locs → lv_has ls 11 [(0, .ref (ad 0)), (2, .int x2), (3, .long x3), (5, .long x5), (7, .long x7), (9, .int x9n9), (10, .int x10n9)] → rec77 (σ9, x9n9, x10n9) = some res → W p l e ({ frames := 3, cells := 0, slots := 0, locals := 71 } : Room) s m args below meth c H locs 0 0 (MQ below (va_Qi (fun (r : Int32) (_ : Unit) => r = res.1) (fun _ => gO D A (GW L y ad res.2)) A) args s 0 0 A) (F0 m 77 ls [])) {H : Heap} {locs : List Loc} {ls : Array Slot} (hY : gY D y A s L ad σ H locs) (hl : lv_has ls 11 [(0, .ref (ad 0)), (2, .int x2), (3, .long x3), (5, .long x5), (7, .long x7), (9, .int x9), (10, .int x10)]) (h : fX11_revert_133 N rec77 σ x2 x3 x5 x7 x9 x10 = some res) : W p l e ({ frames := 3, cells := 0, slots := 0, locals := 71 } : Room) s m args below meth c H locs 0 0 (MQ below (va_Qi (fun (r : Int32) (_ : Unit) => r = res.1) (fun _ => gO D A (GW L y ad res.2)) A) args s 0 0 A) (F0 m 133 ls []) := by
  unfold fX11_revert_133 at h
  refine lv_iinc (v := (x10 + 1)) (lv' := [(10, .int (x10 + 1)), (0, .ref (ad 0)), (2, .int x2), (3, .long x3), (5, .long x5), (7, .long x7), (9, .int x9)]) hx hb dX11_revert_133 hl (k := 6) rfl rfl (by decide) rfl ?_
  clear hl
  intro ls hl
  refine lv_goto (tgt := 77) hx hb dX11_revert_136 (by decide) ?_
  exact hrec77 _ _ _ hY (lv_sub hl [1, 2, 3, 4, 5, 6, 0] rfl) h
def fX11_revert_121 (N : Nat) (rec77 : (gS × Int32 × Int32) → Option (Int32 × gS)) (σ : gS) (x2 : Int32) (x3 : Int64) (x5 : Int64) (x7 : Int64) (x9 : Int32) (x10 : Int32) (xs0 : Int32) : Option (Int32 × gS) := (fX11_needState N σ xs0).bind fun r_1 => fX11_revert_133 N rec77 σ x2 x3 x5 x7 (x9 ||| ((1 : Int32) <<< (x10 &&& 31))) x10
set_option maxRecDepth 100000 in
set_option maxHeartbeats 4000000 in
theorem wX11_revert_121 {rec77 : (gS × Int32 × Int32) → Option (Int32 × gS)} {σ : gS} {x2 : Int32} {x3 : Int64} {x5 : Int64} {x7 : Int64} {x9 : Int32} {x10 : Int32} {xs0 : Int32} (hx : p.tables.exec = Jvm.exec) (hb : c.code = cX11_revert) (hr : meth.sig.returnType = (some .int)) (hml : c.maxLocals = 11) (hown : s.vm.findClass RX11 = some m.cls) (hg : ∀ w ∈ wsL_law, w.before args s = true) (hlocks : meth.locks = false) (hK : gK D y aS s) (hA : ∀ q, s.heap.size ≤ q → A q) (hL : ∀ k, k < 179 → k ∈ L) (hrec77 : ∀ {σ9 : gS} {x9n9 : Int32} {x10n9 : Int32} (H : Heap) (locs : List Loc) (ls : Array Slot), gY D y A s L ad σ9 H locs → lv_has ls 11 [(0, .ref (ad 0)), (2, .int x2), (3, .long x3), (5, .long x5), (7, .long x7), (9, .int x9n9), (10, .int x10n9)] → rec77 (σ9, x9n9, x10n9) = some res → W p l e ({ frames := 3, cells := 0, slots := 0, locals := 71 } : Room) s m args below meth c H locs 0 0 (MQ below (va_Qi (fun (r : Int32) (_ : Unit) => r = res.1) (fun _ => gO D A (GW L y ad res.2)) A) args s 0 0 A) (F0 m 77 ls [])) {H : Heap} {locs : List Loc} {ls : Array Slot} (hY : gY D y A s L ad σ H locs) (hl : lv_has ls 11 [(0, .ref (ad 0)), (2, .int x2), (3, .long x3), (5, .long x5), (7, .long x7), (9, .int x9), (10, .int x10)]) (h : fX11_revert_121 N rec77 σ x2 x3 x5 x7 x9 x10 xs0 = some res) : W p l e ({ frames := 3, cells := 0, slots := 0, locals := 71 } : Room) s m args below meth c H locs 0 0 (MQ below (va_Qi (fun (r : Int32) (_ : Unit) => r = res.1) (fun _ => gO D A (GW L y ad res.2)) A) args s 0 0 A) (F0 m 121 ls [.int xs0]) := by
  unfold fX11_revert_121 at h
  obtain ⟨r_1, e_2, h⟩ := g_bind h
  refine G_av hY hA (va_runS (As := [.int xs0]) (rest := []) ⟨hx, hb, hml, hown, hg⟩ (kX11_needState l D y aS H.size L hL ad N σ xs0 _ e_2) (va_cwS 1 hg ggS_RX11_123_X11_needState rfl rfl rfl (by decide +kernel) ⟨Nat.le_of_ble_eq_true rfl, Nat.le_of_ble_eq_true rfl⟩) (G_pS hK hY) rfl rfl hl.1 rfl (lv_room (Nat.le_of_ble_eq_true rfl)) dX11_revert_121 ⟨Nat.le_of_ble_eq_true rfl, Nat.le_of_ble_eq_true rfl⟩) ?_
  clear hY
  rintro H locs hY
  refine lv_iload hx hb dX11_revert_124 (lv_at hl 5 rfl) ?_
  refine lv_iconst (v := 1) hx hb dX11_revert_126 (by decide) ?_
  refine lv_iload hx hb dX11_revert_127 (lv_at hl 6 rfl) ?_
  refine lv_ishl hx hb dX11_revert_129 ?_
  refine lv_ior hx hb dX11_revert_130 ?_
  refine lv_istore (lv' := [(9, .int (x9 ||| ((1 : Int32) <<< (x10 &&& 31)))), (0, .ref (ad 0)), (2, .int x2), (3, .long x3), (5, .long x5), (7, .long x7), (10, .int x10)]) hx hb dX11_revert_131 hl (by decide) rfl ?_
  clear hl
  intro ls hl
  exact wX11_revert_133 hx hb hr hml hown hg hlocks hK hA hL hrec77 hY (lv_sub hl [1, 2, 3, 4, 5, 0, 6] rfl) h
def fX11_revert_77 (N : Nat) (x2 : Int32) (x3 : Int64) (x5 : Int64) (x7 : Int64) (rec77 : (gS × Int32 × Int32) → Option (Int32 × gS)) (xx : gS × Int32 × Int32) : Option (Int32 × gS) := match xx with
  | (σ, x9, x10) => if 12 ≤ x10 then ((fX2_addRevert N σ x2 x7 x9 x5).bind fun r_2 => (fX11_putInQueue N r_2.2 r_2.1 (0 : Int32)).bind fun r_5 => some ((r_5.1 r_2.1 0), r_5)) else ((fX11_contentIn N σ x3 x10).bind fun r_7 => (fX11_contentIn N σ x5 x10).bind fun r_9 => if r_7 = r_9 then (fX11_revert_133 N rec77 σ x2 x3 x5 x7 x9 x10) else ((fX11_contentIn N σ x7 x10).bind fun r_12 => (fX11_contentIn N σ x3 x10).bind fun r_14 => if r_12 = r_14 then (fX11_revert_121 N rec77 σ x2 x3 x5 x7 x9 x10 1) else (fX11_revert_121 N rec77 σ x2 x3 x5 x7 x9 x10 0)))
set_option maxRecDepth 100000 in
set_option maxHeartbeats 4000000 in
theorem wX11_revert_77 {x2 : Int32} {x3 : Int64} {x5 : Int64} {x7 : Int64} (hx : p.tables.exec = Jvm.exec) (hb : c.code = cX11_revert) (hr : meth.sig.returnType = (some .int)) (hml : c.maxLocals = 11) (hown : s.vm.findClass RX11 = some m.cls) (hg : ∀ w ∈ wsL_law, w.before args s = true) (hlocks : meth.locks = false) (hK : gK D y aS s) (hA : ∀ q, s.heap.size ≤ q → A q) (hL : ∀ k, k < 179 → k ∈ L) : ∀ (n : Nat) {σ : gS} {x9 : Int32} {x10 : Int32} (H : Heap) (locs : List Loc) (ls : Array Slot), gY D y A s L ad σ H locs → lv_has ls 11 [(0, .ref (ad 0)), (2, .int x2), (3, .long x3), (5, .long x5), (7, .long x7), (9, .int x9), (10, .int x10)] → lp (fX11_revert_77 N x2 x3 x5 x7) n (σ, x9, x10) = some res → W p l e ({ frames := 3, cells := 0, slots := 0, locals := 71 } : Room) s m args below meth c H locs 0 0 (MQ below (va_Qi (fun (r : Int32) (_ : Unit) => r = res.1) (fun _ => gO D A (GW L y ad res.2)) A) args s 0 0 A) (F0 m 77 ls []) := by
  intro n
  induction n with
  | zero => intro σ x9 x10 H locs ls hY hl h; exact nomatch (show none = some res from h)
  | succ n hrec77 =>
    intro σ x9 x10 H locs ls hY hl h
    replace h : fX11_revert_77 N x2 x3 x5 x7 (lp (fX11_revert_77 N x2 x3 x5 x7) n) (σ, x9, x10) = some res := h
    generalize lp (fX11_revert_77 N x2 x3 x5 x7) n = rec77 at h hrec77
    unfold fX11_revert_77 at h
    try dsimp only at h
    refine lv_iload hx hb dX11_revert_77 (lv_at hl 6 rfl) ?_
    refine lv_bipush (v := 12) hx hb dX11_revert_79 (by decide +kernel) ?_
    refine lv_icmp_ge (tgt := 139) hx hb dX11_revert_81 (by decide) (fun z_1 => ?_) (fun z_1 => ?_)
    ·
      rw [if_pos z_1] at h
      refine lv_aload_n hx hb dX11_revert_139 rfl (lv_at hl 0 rfl) ?_
      refine G_get (ci := 11) (j := 0) (C := RX11) (T := TX11) (N := 19) (v := .ref (ad 1)) hx hb hg inlX11 hown hK hY (hL 0 (by decide)) gk_0 (by decide) rfl (by decide) tX11_0 (hg _ gw_16) rfl dX11_revert_140 ?_
      refine lv_iload_n hx hb dX11_revert_143 rfl (lv_at hl 1 rfl) ?_
      refine lv_lload hx hb dX11_revert_144 (lv_at hl 4 rfl) ?_
      refine lv_iload hx hb dX11_revert_146 (lv_at hl 5 rfl) ?_
      refine lv_lload hx hb dX11_revert_148 (lv_at hl 3 rfl) ?_
      obtain ⟨r_2, e_3, h⟩ := g_bind h
      refine G_ar hY hA (va_runV (As := [.int x2, .long x7, .int x9, .long x5]) (rest := []) ⟨hx, hb, hml, hown, hg⟩ (kX2_addRevert l D y aS H.size L hL ad N σ x2 x7 x9 x5 _ e_3) (cwV 4 hg ggV_RX11_222_X2_addRevert rfl rfl rfl (by decide +kernel) ⟨Nat.le_of_ble_eq_true rfl, Nat.le_of_ble_eq_true rfl⟩) (G_pV (q := (RX2, TX2, 5)) hK hY (hL 1 (by decide)) gk_1 (by decide) rfl) rfl rfl hl.1 rfl (lv_room (Nat.le_of_ble_eq_true rfl)) dX11_revert_150 ⟨Nat.le_of_ble_eq_true rfl, Nat.le_of_ble_eq_true rfl⟩) ?_
      clear hY
      rintro H locs k_4 hY
      refine lv_astore (lv' := [(10, .ref (ad r_2.1)), (0, .ref (ad 0)), (2, .int x2), (3, .long x3), (5, .long x5), (7, .long x7), (9, .int x9)]) hx hb dX11_revert_153 hl (by decide) rfl ?_
      clear hl
      intro ls hl
      refine lv_aload_n hx hb dX11_revert_155 rfl (lv_at hl 1 rfl) ?_
      refine lv_aload hx hb dX11_revert_156 (lv_at hl 0 rfl) ?_
      refine lv_iconst (v := 0) hx hb dX11_revert_158 (by decide) ?_
      obtain ⟨r_5, e_6, h⟩ := g_bind h
      refine G_av hY hA (va_runV (As := [.ref (ad r_2.1), .int 0]) (rest := []) ⟨hx, hb, hml, hown, hg⟩ (kX11_putInQueue l D y aS H.size L hL ad N r_2.2 r_2.1 (0 : Int32) _ k_4 e_6) (cwV 2 hg ggV_RX11_200_X11_putInQueue rfl rfl rfl (by decide +kernel) ⟨Nat.le_of_ble_eq_true rfl, Nat.le_of_ble_eq_true rfl⟩) (G_pV (q := (RX11, TX11, 19)) hK hY (hL 0 (by decide)) gk_0 (by decide) rfl) rfl rfl hl.1 rfl (lv_room (Nat.le_of_ble_eq_true rfl)) dX11_revert_159 ⟨Nat.le_of_ble_eq_true rfl, Nat.le_of_ble_eq_true rfl⟩) ?_
      clear hY
      rintro H locs hY
      refine lv_aload hx hb dX11_revert_162 (lv_at hl 0 rfl) ?_
      refine G_get (ci := 1) (j := 0) (C := RX1) (T := TX1) (N := 14) (v := .int (r_5.1 r_2.1 0)) hx hb hg inlX1 hown hK hY (hL _ (gcl_lt k_4 (by decide))) k_4 (by decide) rfl (by decide) tX1_0 (hg _ gw_421) rfl dX11_revert_164 ?_
      cases h
      exact g_iret hx hb hr hlocks () hY.1 hY.2.1 hY.2.2 rfl rfl (Nat.le_of_ble_eq_true rfl) (Nat.le_of_ble_eq_true rfl) dX11_revert_167
    ·
      rw [if_neg z_1] at h
      refine lv_lload_n hx hb dX11_revert_84 rfl (lv_at hl 2 rfl) ?_
      refine lv_iload hx hb dX11_revert_85 (lv_at hl 6 rfl) ?_
      obtain ⟨r_7, e_8, h⟩ := g_bind h
      refine G_ai hY hA (va_runS (As := [.long x3, .int x10]) (rest := []) ⟨hx, hb, hml, hown, hg⟩ (kX11_contentIn l D y aS H.size L hL ad N σ x3 x10 _ e_8) (va_cwS 2 hg ggS_RX11_179_X11_contentIn rfl rfl rfl (by decide +kernel) ⟨Nat.le_of_ble_eq_true rfl, Nat.le_of_ble_eq_true rfl⟩) (G_pS hK hY) rfl rfl hl.1 rfl (lv_room (Nat.le_of_ble_eq_true rfl)) dX11_revert_87 ⟨Nat.le_of_ble_eq_true rfl, Nat.le_of_ble_eq_true rfl⟩) ?_
      clear hY
      rintro _ H locs rfl hY
      refine lv_lload hx hb dX11_revert_90 (lv_at hl 3 rfl) ?_
      refine lv_iload hx hb dX11_revert_92 (lv_at hl 6 rfl) ?_
      obtain ⟨r_9, e_10, h⟩ := g_bind h
      refine G_ai hY hA (va_runS (As := [.long x5, .int x10]) (rest := [.int r_7]) ⟨hx, hb, hml, hown, hg⟩ (kX11_contentIn l D y aS H.size L hL ad N σ x5 x10 _ e_10) (va_cwS 2 hg ggS_RX11_179_X11_contentIn rfl rfl rfl (by decide +kernel) ⟨Nat.le_of_ble_eq_true rfl, Nat.le_of_ble_eq_true rfl⟩) (G_pS hK hY) rfl rfl hl.1 rfl (lv_room (Nat.le_of_ble_eq_true rfl)) dX11_revert_94 ⟨Nat.le_of_ble_eq_true rfl, Nat.le_of_ble_eq_true rfl⟩) ?_
      clear hY
      rintro _ H locs rfl hY
      refine lv_icmp_eq (tgt := 133) hx hb dX11_revert_97 (by decide) (fun z_11 => ?_) (fun z_11 => ?_)
      ·
        rw [if_pos z_11] at h
        exact wX11_revert_133 hx hb hr hml hown hg hlocks hK hA hL hrec77 hY (lv_sub hl [0, 1, 2, 3, 4, 5, 6] rfl) h
      ·
        rw [if_neg z_11] at h
        refine lv_lload hx hb dX11_revert_100 (lv_at hl 4 rfl) ?_
        refine lv_iload hx hb dX11_revert_102 (lv_at hl 6 rfl) ?_
        obtain ⟨r_12, e_13, h⟩ := g_bind h
        refine G_ai hY hA (va_runS (As := [.long x7, .int x10]) (rest := []) ⟨hx, hb, hml, hown, hg⟩ (kX11_contentIn l D y aS H.size L hL ad N σ x7 x10 _ e_13) (va_cwS 2 hg ggS_RX11_179_X11_contentIn rfl rfl rfl (by decide +kernel) ⟨Nat.le_of_ble_eq_true rfl, Nat.le_of_ble_eq_true rfl⟩) (G_pS hK hY) rfl rfl hl.1 rfl (lv_room (Nat.le_of_ble_eq_true rfl)) dX11_revert_104 ⟨Nat.le_of_ble_eq_true rfl, Nat.le_of_ble_eq_true rfl⟩) ?_
        clear hY
        rintro _ H locs rfl hY
        refine lv_lload_n hx hb dX11_revert_107 rfl (lv_at hl 2 rfl) ?_
        refine lv_iload hx hb dX11_revert_108 (lv_at hl 6 rfl) ?_
        obtain ⟨r_14, e_15, h⟩ := g_bind h
        refine G_ai hY hA (va_runS (As := [.long x3, .int x10]) (rest := [.int r_12]) ⟨hx, hb, hml, hown, hg⟩ (kX11_contentIn l D y aS H.size L hL ad N σ x3 x10 _ e_15) (va_cwS 2 hg ggS_RX11_179_X11_contentIn rfl rfl rfl (by decide +kernel) ⟨Nat.le_of_ble_eq_true rfl, Nat.le_of_ble_eq_true rfl⟩) (G_pS hK hY) rfl rfl hl.1 rfl (lv_room (Nat.le_of_ble_eq_true rfl)) dX11_revert_110 ⟨Nat.le_of_ble_eq_true rfl, Nat.le_of_ble_eq_true rfl⟩) ?_
        clear hY
        rintro _ H locs rfl hY
        refine lv_icmp_ne (tgt := 120) hx hb dX11_revert_113 (by decide) (fun z_16 => ?_) (fun z_16 => ?_)
        ·
          rw [if_neg z_16] at h
          refine lv_iconst (v := 0) hx hb dX11_revert_120 (by decide) ?_
          exact wX11_revert_121 hx hb hr hml hown hg hlocks hK hA hL hrec77 hY (lv_sub hl [0, 1, 2, 3, 4, 5, 6] rfl) h
        ·
          rw [if_pos z_16] at h
          refine lv_iconst (v := 1) hx hb dX11_revert_116 (by decide) ?_
          refine lv_goto (tgt := 121) hx hb dX11_revert_117 (by decide) ?_
          exact wX11_revert_121 hx hb hr hml hown hg hlocks hK hA hL hrec77 hY (lv_sub hl [0, 1, 2, 3, 4, 5, 6] rfl) h
def fX11_revert_41 (N : Nat) (σ : gS) (x1 : Int32) (x2 : Int32) (xs0 : Int32) : Option (Int32 × gS) := (fX11_needState N σ xs0).bind fun r_1 => (fX8_get N σ 151 x1).bind fun r_3 => (fX8_get N σ 151 (x1 - 1)).bind fun r_5 => (fX11_trunkTree N σ).bind fun r_7 => lp (fX11_revert_77 N x2 r_3 r_5 r_7) N (σ, 0, 0)
set_option maxRecDepth 100000 in
set_option maxHeartbeats 4000000 in
theorem wX11_revert_41 {σ : gS} {x1 : Int32} {x2 : Int32} {xs0 : Int32} (hx : p.tables.exec = Jvm.exec) (hb : c.code = cX11_revert) (hr : meth.sig.returnType = (some .int)) (hml : c.maxLocals = 11) (hown : s.vm.findClass RX11 = some m.cls) (hg : ∀ w ∈ wsL_law, w.before args s = true) (hlocks : meth.locks = false) (hK : gK D y aS s) (hA : ∀ q, s.heap.size ≤ q → A q) (hL : ∀ k, k < 179 → k ∈ L) {H : Heap} {locs : List Loc} {ls : Array Slot} (hY : gY D y A s L ad σ H locs) (hl : lv_has ls 11 [(0, .ref (ad 0)), (1, .int x1), (2, .int x2)]) (h : fX11_revert_41 N σ x1 x2 xs0 = some res) : W p l e ({ frames := 3, cells := 0, slots := 0, locals := 71 } : Room) s m args below meth c H locs 0 0 (MQ below (va_Qi (fun (r : Int32) (_ : Unit) => r = res.1) (fun _ => gO D A (GW L y ad res.2)) A) args s 0 0 A) (F0 m 41 ls [.int xs0]) := by
  unfold fX11_revert_41 at h
  obtain ⟨r_1, e_2, h⟩ := g_bind h
  refine G_av hY hA (va_runS (As := [.int xs0]) (rest := []) ⟨hx, hb, hml, hown, hg⟩ (kX11_needState l D y aS H.size L hL ad N σ xs0 _ e_2) (va_cwS 1 hg ggS_RX11_123_X11_needState rfl rfl rfl (by decide +kernel) ⟨Nat.le_of_ble_eq_true rfl, Nat.le_of_ble_eq_true rfl⟩) (G_pS hK hY) rfl rfl hl.1 rfl (lv_room (Nat.le_of_ble_eq_true rfl)) dX11_revert_41 ⟨Nat.le_of_ble_eq_true rfl, Nat.le_of_ble_eq_true rfl⟩) ?_
  clear hY
  rintro H locs hY
  refine lv_aload_n hx hb dX11_revert_44 rfl (lv_at hl 0 rfl) ?_
  refine G_get (ci := 11) (j := 9) (C := RX11) (T := TX11) (N := 19) (v := .ref (ad 151)) hx hb hg inlX11 hown hK hY (hL 0 (by decide)) gk_0 (by decide) rfl (by decide) tX11_9 (hg _ gw_49) rfl dX11_revert_45 ?_
  refine lv_iload_n hx hb dX11_revert_48 rfl (lv_at hl 1 rfl) ?_
  obtain ⟨r_3, e_4, h⟩ := g_bind h
  refine G_al hY hA (va_runV (As := [.int x1]) (rest := []) ⟨hx, hb, hml, hown, hg⟩ (kX8_get l D y aS H.size L hL ad N σ 151 x1 _ gk_151 e_4) (cwV 1 hg ggV_RX11_218_X8_get rfl rfl rfl (by decide +kernel) ⟨Nat.le_of_ble_eq_true rfl, Nat.le_of_ble_eq_true rfl⟩) (G_pV (q := (RX8, TX8, 2)) hK hY (hL 151 (by decide)) gk_151 (by decide) rfl) rfl rfl hl.1 rfl (lv_room (Nat.le_of_ble_eq_true rfl)) dX11_revert_49 ⟨Nat.le_of_ble_eq_true rfl, Nat.le_of_ble_eq_true rfl⟩) ?_
  clear hY
  rintro _ H locs rfl hY
  refine lv_lstore_n (lv' := [(3, .long r_3), (0, .ref (ad 0)), (1, .int x1), (2, .int x2)]) hx hb dX11_revert_52 rfl hl (by decide) rfl ?_
  clear hl
  intro ls hl
  refine lv_aload_n hx hb dX11_revert_53 rfl (lv_at hl 1 rfl) ?_
  refine G_get (ci := 11) (j := 9) (C := RX11) (T := TX11) (N := 19) (v := .ref (ad 151)) hx hb hg inlX11 hown hK hY (hL 0 (by decide)) gk_0 (by decide) rfl (by decide) tX11_9 (hg _ gw_49) rfl dX11_revert_54 ?_
  refine lv_iload_n hx hb dX11_revert_57 rfl (lv_at hl 2 rfl) ?_
  refine lv_iconst (v := 1) hx hb dX11_revert_58 (by decide) ?_
  refine lv_isub hx hb dX11_revert_59 ?_
  obtain ⟨r_5, e_6, h⟩ := g_bind h
  refine G_al hY hA (va_runV (As := [.int (x1 - 1)]) (rest := []) ⟨hx, hb, hml, hown, hg⟩ (kX8_get l D y aS H.size L hL ad N σ 151 (x1 - 1) _ gk_151 e_6) (cwV 1 hg ggV_RX11_218_X8_get rfl rfl rfl (by decide +kernel) ⟨Nat.le_of_ble_eq_true rfl, Nat.le_of_ble_eq_true rfl⟩) (G_pV (q := (RX8, TX8, 2)) hK hY (hL 151 (by decide)) gk_151 (by decide) rfl) rfl rfl hl.1 rfl (lv_room (Nat.le_of_ble_eq_true rfl)) dX11_revert_60 ⟨Nat.le_of_ble_eq_true rfl, Nat.le_of_ble_eq_true rfl⟩) ?_
  clear hY
  rintro _ H locs rfl hY
  refine lv_lstore (lv' := [(5, .long r_5), (3, .long r_3), (0, .ref (ad 0)), (1, .int x1), (2, .int x2)]) hx hb dX11_revert_63 hl (by decide) rfl ?_
  clear hl
  intro ls hl
  refine lv_aload_n hx hb dX11_revert_65 rfl (lv_at hl 2 rfl) ?_
  obtain ⟨r_7, e_8, h⟩ := g_bind h
  refine G_al hY hA (va_runV (As := []) (rest := []) ⟨hx, hb, hml, hown, hg⟩ (kX11_trunkTree l D y aS H.size L hL ad N σ _ e_8) (cwV 0 hg ggV_RX11_156_X11_trunkTree rfl rfl rfl (by decide +kernel) ⟨Nat.le_of_ble_eq_true rfl, Nat.le_of_ble_eq_true rfl⟩) (G_pV (q := (RX11, TX11, 19)) hK hY (hL 0 (by decide)) gk_0 (by decide) rfl) rfl rfl hl.1 rfl (lv_room (Nat.le_of_ble_eq_true rfl)) dX11_revert_66 ⟨Nat.le_of_ble_eq_true rfl, Nat.le_of_ble_eq_true rfl⟩) ?_
  clear hY
  rintro _ H locs rfl hY
  refine lv_lstore (lv' := [(7, .long r_7), (5, .long r_5), (3, .long r_3), (0, .ref (ad 0)), (1, .int x1), (2, .int x2)]) hx hb dX11_revert_69 hl (by decide) rfl ?_
  clear hl
  intro ls hl
  refine lv_iconst (v := 0) hx hb dX11_revert_71 (by decide) ?_
  refine lv_istore (lv' := [(9, .int 0), (7, .long r_7), (5, .long r_5), (3, .long r_3), (0, .ref (ad 0)), (1, .int x1), (2, .int x2)]) hx hb dX11_revert_72 hl (by decide) rfl ?_
  clear hl
  intro ls hl
  refine lv_iconst (v := 0) hx hb dX11_revert_74 (by decide) ?_
  refine lv_istore (lv' := [(10, .int 0), (9, .int 0), (7, .long r_7), (5, .long r_5), (3, .long r_3), (0, .ref (ad 0)), (1, .int x1), (2, .int x2)]) hx hb dX11_revert_75 hl (by decide) rfl ?_
  clear hl
  intro ls hl
  exact wX11_revert_77 hx hb hr hml hown hg hlocks hK hA hL N _ _ _ hY (lv_sub hl [5, 7, 4, 3, 2, 1, 0] rfl) h
end
def fX11_revert (N : Nat) (σ : gS) (x1 : Int32) (x2 : Int32) : Option (Int32 × gS) := (fX11_needPlace N σ x1 (σ.1 151 1)).bind fun r_1 => (fX11_needPlace N σ x2 (8 : Int32)).bind fun r_3 => (fX11_needRange N σ x1 (1 : Int32) (60 : Int32)).bind fun r_5 => if 60 ≤ (σ.1 1 4) then (fX11_revert_41 N σ x1 x2 0) else (fX11_revert_41 N σ x1 x2 1)
set_option maxRecDepth 100000 in
set_option maxHeartbeats 4000000 in
theorem kX11_revert (l : Launch) (D : va_G) (y : Nat → ClassId) (aS : Nat → Nat) (sz : Nat) (L : List Nat) (hL : ∀ k, k < 179 → k ∈ L) (ad : Nat → Nat) (N : Nat) (σ : gS) (x1 : Int32) (x2 : Int32) (res : (Int32 × gS)) (h : fX11_revert N σ x1 x2 = some res) : Met l yX11_revert (Cond.code yX11_revert cX11_revert 11 (some .int) :: wsL_law) ({ frames := 3, cells := 0, slots := 0, locals := 71 } : Room) (va_Pc [.ref (ad 0), .int x1, .int x2] (gI D y aS (GW L y ad σ) sz)) (va_Qi (fun (r : Int32) (_ : Unit) => r = res.1) (fun _ => gO D (va_A (GW L y ad σ) sz) (GW L y ad res.2)) (va_A (GW L y ad σ) sz)) 0 0 (va_A (GW L y ad σ) sz) := by
  refine g_of (by decide) (Nat.le_of_ble_eq_true rfl) ?_
  intro p e s m below meth c ls A hx hb hr hml hown hg hlocks hin hsz hK hP hD hS hA hAe hl
  rw [← hAe]
  replace hown : s.vm.findClass RX11 = some m.cls := hown
  have hY : gY D y A s L ad σ s.heap [] := ⟨hP, hD, hS⟩
  clear hP hD hS
  replace hl : lv_has ls 11 [(0, .ref (ad 0)), (1, .int x1), (2, .int x2)] := hl
  unfold fX11_revert at h
  refine lv_iload_n hx hb dX11_revert_0 rfl (lv_at hl 1 rfl) ?_
  refine lv_aload_n hx hb dX11_revert_1 rfl (lv_at hl 0 rfl) ?_
  refine G_get (ci := 11) (j := 9) (C := RX11) (T := TX11) (N := 19) (v := .ref (ad 151)) hx hb hg inlX11 hown hK hY (hL 0 (by decide)) gk_0 (by decide) rfl (by decide) tX11_9 (hg _ gw_49) rfl dX11_revert_2 ?_
  refine G_get (ci := 8) (j := 1) (C := RX8) (T := TX8) (N := 2) (v := .int (σ.1 151 1)) hx hb hg inlX8 hown hK hY (hL 151 (by decide)) gk_151 (by decide) rfl (by decide) tX8_1 (hg _ gw_178) rfl dX11_revert_5 ?_
  obtain ⟨r_1, e_2, h⟩ := g_bind h
  refine G_av hY hA (va_runS (As := [.int x1, .int (σ.1 151 1)]) (rest := []) ⟨hx, hb, hml, hown, hg⟩ (kX11_needPlace l D y aS s.heap.size L hL ad N σ x1 (σ.1 151 1) _ e_2) (va_cwS 2 hg ggS_RX11_106_X11_needPlace rfl rfl rfl (by decide +kernel) ⟨Nat.le_of_ble_eq_true rfl, Nat.le_of_ble_eq_true rfl⟩) (G_pS hK hY) rfl rfl hl.1 rfl (lv_room (Nat.le_of_ble_eq_true rfl)) dX11_revert_8 ⟨Nat.le_of_ble_eq_true rfl, Nat.le_of_ble_eq_true rfl⟩) ?_
  clear hY
  rintro H locs hY
  refine lv_iload_n hx hb dX11_revert_11 rfl (lv_at hl 2 rfl) ?_
  refine lv_bipush (v := 8) hx hb dX11_revert_12 (by decide +kernel) ?_
  obtain ⟨r_3, e_4, h⟩ := g_bind h
  refine G_av hY hA (va_runS (As := [.int x2, .int 8]) (rest := []) ⟨hx, hb, hml, hown, hg⟩ (kX11_needPlace l D y aS H.size L hL ad N σ x2 (8 : Int32) _ e_4) (va_cwS 2 hg ggS_RX11_106_X11_needPlace rfl rfl rfl (by decide +kernel) ⟨Nat.le_of_ble_eq_true rfl, Nat.le_of_ble_eq_true rfl⟩) (G_pS hK hY) rfl rfl hl.1 rfl (lv_room (Nat.le_of_ble_eq_true rfl)) dX11_revert_14 ⟨Nat.le_of_ble_eq_true rfl, Nat.le_of_ble_eq_true rfl⟩) ?_
  clear hY
  rintro H locs hY
  refine lv_iload_n hx hb dX11_revert_17 rfl (lv_at hl 1 rfl) ?_
  refine lv_iconst (v := 1) hx hb dX11_revert_18 (by decide) ?_
  refine lv_bipush (v := 60) hx hb dX11_revert_19 (by decide +kernel) ?_
  obtain ⟨r_5, e_6, h⟩ := g_bind h
  refine G_av hY hA (va_runS (As := [.int x1, .int 1, .int 60]) (rest := []) ⟨hx, hb, hml, hown, hg⟩ (kX11_needRange l D y aS H.size L hL ad N σ x1 (1 : Int32) (60 : Int32) _ e_6) (va_cwS 3 hg ggS_RX11_133_X11_needRange rfl rfl rfl (by decide +kernel) ⟨Nat.le_of_ble_eq_true rfl, Nat.le_of_ble_eq_true rfl⟩) (G_pS hK hY) rfl rfl hl.1 rfl (lv_room (Nat.le_of_ble_eq_true rfl)) dX11_revert_21 ⟨Nat.le_of_ble_eq_true rfl, Nat.le_of_ble_eq_true rfl⟩) ?_
  clear hY
  rintro H locs hY
  refine lv_aload_n hx hb dX11_revert_24 rfl (lv_at hl 0 rfl) ?_
  refine G_get (ci := 11) (j := 0) (C := RX11) (T := TX11) (N := 19) (v := .ref (ad 1)) hx hb hg inlX11 hown hK hY (hL 0 (by decide)) gk_0 (by decide) rfl (by decide) tX11_0 (hg _ gw_16) rfl dX11_revert_25 ?_
  refine G_get (ci := 2) (j := 4) (C := RX2) (T := TX2) (N := 5) (v := .int (σ.1 1 4)) hx hb hg inlX2 hown hK hY (hL 1 (by decide)) gk_1 (by decide) rfl (by decide) tX2_4 (hg _ gw_173) rfl dX11_revert_28 ?_
  refine lv_bipush (v := 60) hx hb dX11_revert_31 (by decide +kernel) ?_
  refine lv_icmp_ge (tgt := 40) hx hb dX11_revert_33 (by decide) (fun z_7 => ?_) (fun z_7 => ?_)
  ·
    rw [if_pos z_7] at h
    refine lv_iconst (v := 0) hx hb dX11_revert_40 (by decide) ?_
    exact wX11_revert_41 hx hb hr hml hown hg hlocks hK hA hL hY (lv_sub hl [0, 1, 2] rfl) h
  ·
    rw [if_neg z_7] at h
    refine lv_iconst (v := 1) hx hb dX11_revert_36 (by decide) ?_
    refine lv_goto (tgt := 41) hx hb dX11_revert_37 (by decide) ?_
    exact wX11_revert_41 hx hb hr hml hown hg hlocks hK hA hL hY (lv_sub hl [0, 1, 2] rfl) h
theorem ggV_RX11_233_X7_addCheck : GoodIn wsL_law (wsV RX11 233 RX7 yX7_addCheck (Cond.code yX7_addCheck cX7_addCheck 5 (some .int) :: wsL_law)) := g_gi (fun _ h => h) gW_good (List.forall_mem_cons.mpr ⟨⟨gw_631, rfl⟩, List.forall_mem_cons.mpr ⟨⟨gw_632, rfl⟩, List.forall_mem_cons.mpr ⟨⟨gw_633, rfl⟩, List.forall_mem_cons.mpr ⟨⟨gw_19, rfl⟩, fun _ h => nomatch h⟩⟩⟩⟩) ⟨gw_634, rfl⟩
section
variable {p : Program} {l : Launch} {e : Env} {s : State} {m : MethodId} {args : Array Value} {below : List Frame} {meth : Method} {c : Code} {D : va_G} {y : Nat → ClassId} {aS : Nat → Nat} {A : Nat → Prop} {L : List Nat} {ad : Nat → Nat} {N : Nat} {res : (Int32 × gS)}
def fX11_test_39 (N : Nat) (σ : gS) (x1 : Int32) (x2 : Int32) (x3 : Int32) (xs0 : Int32) : Option (Int32 × gS) := (fX11_needState N σ xs0).bind fun r_1 => (fX11_stir N σ).bind fun r_3 => (fX7_addCheck N r_3 x1 x2 x3).bind fun r_5 => some (r_5.1, r_5.2)
set_option maxRecDepth 100000 in
set_option maxHeartbeats 4000000 in
theorem wX11_test_39 {σ : gS} {x1 : Int32} {x2 : Int32} {x3 : Int32} {xs0 : Int32} (hx : p.tables.exec = Jvm.exec) (hb : c.code = cX11_test) (hr : meth.sig.returnType = (some .int)) (hml : c.maxLocals = 4) (hown : s.vm.findClass RX11 = some m.cls) (hg : ∀ w ∈ wsL_law, w.before args s = true) (hlocks : meth.locks = false) (hK : gK D y aS s) (hA : ∀ q, s.heap.size ≤ q → A q) (hL : ∀ k, k < 179 → k ∈ L) {H : Heap} {locs : List Loc} {ls : Array Slot} (hY : gY D y A s L ad σ H locs) (hl : lv_has ls 4 [(0, .ref (ad 0)), (1, .int x1), (2, .int x2), (3, .int x3)]) (h : fX11_test_39 N σ x1 x2 x3 xs0 = some res) : W p l e ({ frames := 3, cells := 0, slots := 0, locals := 68 } : Room) s m args below meth c H locs 0 0 (MQ below (va_Qi (fun (r : Int32) (_ : Unit) => r = res.1) (fun _ => gO D A (GW L y ad res.2)) A) args s 0 0 A) (F0 m 39 ls [.int xs0]) := by
  unfold fX11_test_39 at h
  obtain ⟨r_1, e_2, h⟩ := g_bind h
  refine G_av hY hA (va_runS (As := [.int xs0]) (rest := []) ⟨hx, hb, hml, hown, hg⟩ (kX11_needState l D y aS H.size L hL ad N σ xs0 _ e_2) (va_cwS 1 hg ggS_RX11_123_X11_needState rfl rfl rfl (by decide +kernel) ⟨Nat.le_of_ble_eq_true rfl, Nat.le_of_ble_eq_true rfl⟩) (G_pS hK hY) rfl rfl hl.1 rfl (lv_room (Nat.le_of_ble_eq_true rfl)) dX11_test_39 ⟨Nat.le_of_ble_eq_true rfl, Nat.le_of_ble_eq_true rfl⟩) ?_
  clear hY
  rintro H locs hY
  refine lv_aload_n hx hb dX11_test_42 rfl (lv_at hl 0 rfl) ?_
  obtain ⟨r_3, e_4, h⟩ := g_bind h
  refine G_av hY hA (va_runV (As := []) (rest := []) ⟨hx, hb, hml, hown, hg⟩ (kX11_stir l D y aS H.size L hL ad N σ _ e_4) (cwV 0 hg ggV_RX11_230_X11_stir rfl rfl rfl (by decide +kernel) ⟨Nat.le_of_ble_eq_true rfl, Nat.le_of_ble_eq_true rfl⟩) (G_pV (q := (RX11, TX11, 19)) hK hY (hL 0 (by decide)) gk_0 (by decide) rfl) rfl rfl hl.1 rfl (lv_room (Nat.le_of_ble_eq_true rfl)) dX11_test_43 ⟨Nat.le_of_ble_eq_true rfl, Nat.le_of_ble_eq_true rfl⟩) ?_
  clear hY
  rintro H locs hY
  refine lv_aload_n hx hb dX11_test_46 rfl (lv_at hl 0 rfl) ?_
  refine G_get (ci := 11) (j := 1) (C := RX11) (T := TX11) (N := 19) (v := .ref (ad 65)) hx hb hg inlX11 hown hK hY (hL 0 (by decide)) gk_0 (by decide) rfl (by decide) tX11_1 (hg _ gw_20) rfl dX11_test_47 ?_
  refine lv_iload_n hx hb dX11_test_50 rfl (lv_at hl 1 rfl) ?_
  refine lv_iload_n hx hb dX11_test_51 rfl (lv_at hl 2 rfl) ?_
  refine lv_iload_n hx hb dX11_test_52 rfl (lv_at hl 3 rfl) ?_
  obtain ⟨r_5, e_6, h⟩ := g_bind h
  refine G_ai hY hA (va_runV (As := [.int x1, .int x2, .int x3]) (rest := []) ⟨hx, hb, hml, hown, hg⟩ (kX7_addCheck l D y aS H.size L hL ad N r_3 x1 x2 x3 _ e_6) (cwV 3 hg ggV_RX11_233_X7_addCheck rfl rfl rfl (by decide +kernel) ⟨Nat.le_of_ble_eq_true rfl, Nat.le_of_ble_eq_true rfl⟩) (G_pV (q := (RX7, TX7, 6)) hK hY (hL 65 (by decide)) gk_65 (by decide) rfl) rfl rfl hl.1 rfl (lv_room (Nat.le_of_ble_eq_true rfl)) dX11_test_53 ⟨Nat.le_of_ble_eq_true rfl, Nat.le_of_ble_eq_true rfl⟩) ?_
  clear hY
  rintro _ H locs rfl hY
  cases h
  exact g_iret hx hb hr hlocks () hY.1 hY.2.1 hY.2.2 rfl rfl (Nat.le_of_ble_eq_true rfl) (Nat.le_of_ble_eq_true rfl) dX11_test_56
end
def fX11_test (N : Nat) (σ : gS) (x1 : Int32) (x2 : Int32) (x3 : Int32) : Option (Int32 × gS) := (fX11_needRange N σ x1 (1 : Int32) (4095 : Int32)).bind fun r_1 => (fX11_needRange N σ x2 (1 : Int32) (6 : Int32)).bind fun r_3 => (fX11_needRange N σ x3 (0 : Int32) (9 : Int32)).bind fun r_5 => if 10 ≤ (σ.1 65 5) then (fX11_test_39 N σ x1 x2 x3 0) else (fX11_test_39 N σ x1 x2 x3 1)
set_option maxRecDepth 100000 in
set_option maxHeartbeats 4000000 in
theorem kX11_test (l : Launch) (D : va_G) (y : Nat → ClassId) (aS : Nat → Nat) (sz : Nat) (L : List Nat) (hL : ∀ k, k < 179 → k ∈ L) (ad : Nat → Nat) (N : Nat) (σ : gS) (x1 : Int32) (x2 : Int32) (x3 : Int32) (res : (Int32 × gS)) (h : fX11_test N σ x1 x2 x3 = some res) : Met l yX11_test (Cond.code yX11_test cX11_test 4 (some .int) :: wsL_law) ({ frames := 3, cells := 0, slots := 0, locals := 68 } : Room) (va_Pc [.ref (ad 0), .int x1, .int x2, .int x3] (gI D y aS (GW L y ad σ) sz)) (va_Qi (fun (r : Int32) (_ : Unit) => r = res.1) (fun _ => gO D (va_A (GW L y ad σ) sz) (GW L y ad res.2)) (va_A (GW L y ad σ) sz)) 0 0 (va_A (GW L y ad σ) sz) := by
  refine g_of (by decide) (Nat.le_of_ble_eq_true rfl) ?_
  intro p e s m below meth c ls A hx hb hr hml hown hg hlocks hin hsz hK hP hD hS hA hAe hl
  rw [← hAe]
  replace hown : s.vm.findClass RX11 = some m.cls := hown
  have hY : gY D y A s L ad σ s.heap [] := ⟨hP, hD, hS⟩
  clear hP hD hS
  replace hl : lv_has ls 4 [(0, .ref (ad 0)), (1, .int x1), (2, .int x2), (3, .int x3)] := hl
  unfold fX11_test at h
  refine lv_iload_n hx hb dX11_test_0 rfl (lv_at hl 1 rfl) ?_
  refine lv_iconst (v := 1) hx hb dX11_test_1 (by decide) ?_
  refine lv_sipush (v := 4095) hx hb dX11_test_2 (by decide +kernel) ?_
  obtain ⟨r_1, e_2, h⟩ := g_bind h
  refine G_av hY hA (va_runS (As := [.int x1, .int 1, .int 4095]) (rest := []) ⟨hx, hb, hml, hown, hg⟩ (kX11_needRange l D y aS s.heap.size L hL ad N σ x1 (1 : Int32) (4095 : Int32) _ e_2) (va_cwS 3 hg ggS_RX11_133_X11_needRange rfl rfl rfl (by decide +kernel) ⟨Nat.le_of_ble_eq_true rfl, Nat.le_of_ble_eq_true rfl⟩) (G_pS hK hY) rfl rfl hl.1 rfl (lv_room (Nat.le_of_ble_eq_true rfl)) dX11_test_5 ⟨Nat.le_of_ble_eq_true rfl, Nat.le_of_ble_eq_true rfl⟩) ?_
  clear hY
  rintro H locs hY
  refine lv_iload_n hx hb dX11_test_8 rfl (lv_at hl 2 rfl) ?_
  refine lv_iconst (v := 1) hx hb dX11_test_9 (by decide) ?_
  refine lv_bipush (v := 6) hx hb dX11_test_10 (by decide +kernel) ?_
  obtain ⟨r_3, e_4, h⟩ := g_bind h
  refine G_av hY hA (va_runS (As := [.int x2, .int 1, .int 6]) (rest := []) ⟨hx, hb, hml, hown, hg⟩ (kX11_needRange l D y aS H.size L hL ad N σ x2 (1 : Int32) (6 : Int32) _ e_4) (va_cwS 3 hg ggS_RX11_133_X11_needRange rfl rfl rfl (by decide +kernel) ⟨Nat.le_of_ble_eq_true rfl, Nat.le_of_ble_eq_true rfl⟩) (G_pS hK hY) rfl rfl hl.1 rfl (lv_room (Nat.le_of_ble_eq_true rfl)) dX11_test_12 ⟨Nat.le_of_ble_eq_true rfl, Nat.le_of_ble_eq_true rfl⟩) ?_
  clear hY
  rintro H locs hY
  refine lv_iload_n hx hb dX11_test_15 rfl (lv_at hl 3 rfl) ?_
  refine lv_iconst (v := 0) hx hb dX11_test_16 (by decide) ?_
  refine lv_bipush (v := 9) hx hb dX11_test_17 (by decide +kernel) ?_
  obtain ⟨r_5, e_6, h⟩ := g_bind h
  refine G_av hY hA (va_runS (As := [.int x3, .int 0, .int 9]) (rest := []) ⟨hx, hb, hml, hown, hg⟩ (kX11_needRange l D y aS H.size L hL ad N σ x3 (0 : Int32) (9 : Int32) _ e_6) (va_cwS 3 hg ggS_RX11_133_X11_needRange rfl rfl rfl (by decide +kernel) ⟨Nat.le_of_ble_eq_true rfl, Nat.le_of_ble_eq_true rfl⟩) (G_pS hK hY) rfl rfl hl.1 rfl (lv_room (Nat.le_of_ble_eq_true rfl)) dX11_test_19 ⟨Nat.le_of_ble_eq_true rfl, Nat.le_of_ble_eq_true rfl⟩) ?_
  clear hY
  rintro H locs hY
  refine lv_aload_n hx hb dX11_test_22 rfl (lv_at hl 0 rfl) ?_
  refine G_get (ci := 11) (j := 1) (C := RX11) (T := TX11) (N := 19) (v := .ref (ad 65)) hx hb hg inlX11 hown hK hY (hL 0 (by decide)) gk_0 (by decide) rfl (by decide) tX11_1 (hg _ gw_20) rfl dX11_test_23 ?_
  refine G_get (ci := 7) (j := 5) (C := RX7) (T := TX7) (N := 6) (v := .int (σ.1 65 5)) hx hb hg inlX7 hown hK hY (hL 65 (by decide)) gk_65 (by decide) rfl (by decide) tX7_5 (hg _ gw_490) rfl dX11_test_26 ?_
  refine lv_bipush (v := 10) hx hb dX11_test_29 (by decide +kernel) ?_
  refine lv_icmp_ge (tgt := 38) hx hb dX11_test_31 (by decide) (fun z_7 => ?_) (fun z_7 => ?_)
  ·
    rw [if_pos z_7] at h
    refine lv_iconst (v := 0) hx hb dX11_test_38 (by decide) ?_
    exact wX11_test_39 hx hb hr hml hown hg hlocks hK hA hL hY (lv_sub hl [0, 1, 2, 3] rfl) h
  ·
    rw [if_neg z_7] at h
    refine lv_iconst (v := 1) hx hb dX11_test_34 (by decide) ?_
    refine lv_goto (tgt := 39) hx hb dX11_test_35 (by decide) ?_
    exact wX11_test_39 hx hb hr hml hown hg hlocks hK hA hL hY (lv_sub hl [0, 1, 2, 3] rfl) h
theorem ggV_RX11_80_X8_add : GoodIn wsL_law (wsV RX11 80 RX8 yX8_add (Cond.code yX8_add cX8_add 3 none :: wsL_law)) := g_gi (fun _ h => h) gW_good (List.forall_mem_cons.mpr ⟨⟨gw_150, rfl⟩, List.forall_mem_cons.mpr ⟨⟨gw_151, rfl⟩, List.forall_mem_cons.mpr ⟨⟨gw_152, rfl⟩, List.forall_mem_cons.mpr ⟨⟨gw_48, rfl⟩, fun _ h => nomatch h⟩⟩⟩⟩) ⟨gw_153, rfl⟩
theorem ggV_RX11_249_X3_reopen : GoodIn wsL_law (wsV RX11 249 RX3 yX3_reopen (Cond.code yX3_reopen cX3_reopen 1 none :: wsL_law)) := g_gi (fun _ h => h) gW_good (List.forall_mem_cons.mpr ⟨⟨gw_647, rfl⟩, List.forall_mem_cons.mpr ⟨⟨gw_648, rfl⟩, List.forall_mem_cons.mpr ⟨⟨gw_649, rfl⟩, List.forall_mem_cons.mpr ⟨⟨gw_81, rfl⟩, fun _ h => nomatch h⟩⟩⟩⟩) ⟨gw_650, rfl⟩
theorem ggS_RX11_243_X11_needArgument : GoodIn wsL_law (va_wsS RX11 243 yX11_needArgument (Cond.code yX11_needArgument cX11_needArgument 1 none :: wsL_law)) := g_gi (fun _ h => h) gW_good (List.forall_mem_cons.mpr ⟨⟨gw_644, rfl⟩, List.forall_mem_cons.mpr ⟨⟨gw_645, rfl⟩, List.forall_mem_cons.mpr ⟨⟨gw_2, rfl⟩, fun _ h => nomatch h⟩⟩⟩) ⟨gw_646, rfl⟩
theorem ggV_RX11_237_X7_at : GoodIn wsL_law (wsV RX11 237 RX7 yX7_at (Cond.code yX7_at cX7_at 3 (some (.object "Greentrunk$Check")) :: wsL_law)) := g_gi (fun _ h => h) gW_good (List.forall_mem_cons.mpr ⟨⟨gw_491, rfl⟩, List.forall_mem_cons.mpr ⟨⟨gw_210, rfl⟩, List.forall_mem_cons.mpr ⟨⟨gw_211, rfl⟩, List.forall_mem_cons.mpr ⟨⟨gw_19, rfl⟩, fun _ h => nomatch h⟩⟩⟩⟩) ⟨gw_212, rfl⟩
section
variable {p : Program} {l : Launch} {e : Env} {s : State} {m : MethodId} {args : Array Value} {below : List Frame} {meth : Method} {c : Code} {D : va_G} {y : Nat → ClassId} {aS : Nat → Nat} {A : Nat → Prop} {L : List Nat} {ad : Nat → Nat} {N : Nat} {res : (Int32 × gS)}
def fX11_breaks_100 (N : Nat) (σ : gS) (x2 : Int32) (x3 : Int32) (x4 : Int32) (x5 : Int32) (r6 : Nat) (xs0 : Int32) : Option (Int32 × gS) := (fX11_needState N σ xs0).bind fun r_1 => (fX8_add N σ (r6 + 1) (x2.toInt64)).bind fun r_3 => (fX8_add N r_3 (r6 + 1) (x3.toInt64)).bind fun r_5 => (fX8_add N r_5 (r6 + 1) (x4.toInt64)).bind fun r_7 => (fX8_add N r_7 (r6 + 1) (x5.toInt64)).bind fun r_9 => (fX3_reopen N r_9 r6).bind fun r_11 => (fX11_stir N r_11).bind fun r_13 => some (((r_13.1 (r6 + 1) 1) / 4), r_13)
set_option maxRecDepth 100000 in
set_option maxHeartbeats 4000000 in
theorem wX11_breaks_100 {σ : gS} {x2 : Int32} {x3 : Int32} {x4 : Int32} {x5 : Int32} {r6 : Nat} {xs0 : Int32} (hx : p.tables.exec = Jvm.exec) (hb : c.code = cX11_breaks) (hr : meth.sig.returnType = (some .int)) (hml : c.maxLocals = 7) (hown : s.vm.findClass RX11 = some m.cls) (hg : ∀ w ∈ wsL_law, w.before args s = true) (hlocks : meth.locks = false) (hK : gK D y aS s) (hA : ∀ q, s.heap.size ≤ q → A q) (hL : ∀ k, k < 179 → k ∈ L) (hr6 : gcl r6 = 3) {H : Heap} {locs : List Loc} {ls : Array Slot} (hY : gY D y A s L ad σ H locs) (hl : lv_has ls 7 [(0, .ref (ad 0)), (2, .int x2), (3, .int x3), (4, .int x4), (5, .int x5), (6, .ref (ad r6))]) (h : fX11_breaks_100 N σ x2 x3 x4 x5 r6 xs0 = some res) : W p l e ({ frames := 1, cells := 0, slots := 0, locals := 22 } : Room) s m args below meth c H locs 0 0 (MQ below (va_Qi (fun (r : Int32) (_ : Unit) => r = res.1) (fun _ => gO D A (GW L y ad res.2)) A) args s 0 0 A) (F0 m 100 ls [.int xs0]) := by
  unfold fX11_breaks_100 at h
  obtain ⟨r_1, e_2, h⟩ := g_bind h
  refine G_av hY hA (va_runS (As := [.int xs0]) (rest := []) ⟨hx, hb, hml, hown, hg⟩ (kX11_needState l D y aS H.size L hL ad N σ xs0 _ e_2) (va_cwS 1 hg ggS_RX11_123_X11_needState rfl rfl rfl (by decide +kernel) ⟨Nat.le_of_ble_eq_true rfl, Nat.le_of_ble_eq_true rfl⟩) (G_pS hK hY) rfl rfl hl.1 rfl (lv_room (Nat.le_of_ble_eq_true rfl)) dX11_breaks_100 ⟨Nat.le_of_ble_eq_true rfl, Nat.le_of_ble_eq_true rfl⟩) ?_
  clear hY
  rintro H locs hY
  refine lv_aload hx hb dX11_breaks_103 (lv_at hl 5 rfl) ?_
  refine G_get (ci := 3) (j := 1) (C := RX3) (T := TX3) (N := 10) (v := .ref (ad (r6 + 1))) hx hb hg inlX3 hown hK hY (hL _ (gcl_lt hr6 (by decide))) hr6 (by decide) rfl (by decide) tX3_1 (hg _ gw_643) rfl dX11_breaks_105 ?_
  refine lv_iload_n hx hb dX11_breaks_108 rfl (lv_at hl 1 rfl) ?_
  refine lv_i2l (v := (x2.toInt64)) hx hb dX11_breaks_109 rfl ?_
  obtain ⟨r_3, e_4, h⟩ := g_bind h
  refine G_av hY hA (va_runV (As := [.long (x2.toInt64)]) (rest := []) ⟨hx, hb, hml, hown, hg⟩ (kX8_add l D y aS H.size L hL ad N σ (r6 + 1) (x2.toInt64) _ (gcl_chk hr6) e_4) (cwV 1 hg ggV_RX11_80_X8_add rfl rfl rfl (by decide +kernel) ⟨Nat.le_of_ble_eq_true rfl, Nat.le_of_ble_eq_true rfl⟩) (G_pV (q := (RX8, TX8, 2)) hK hY (hL _ (gcl_lt (gcl_chk hr6) (by decide))) (gcl_chk hr6) (by decide) rfl) rfl rfl hl.1 rfl (lv_room (Nat.le_of_ble_eq_true rfl)) dX11_breaks_110 ⟨Nat.le_of_ble_eq_true rfl, Nat.le_of_ble_eq_true rfl⟩) ?_
  clear hY
  rintro H locs hY
  refine lv_aload hx hb dX11_breaks_113 (lv_at hl 5 rfl) ?_
  refine G_get (ci := 3) (j := 1) (C := RX3) (T := TX3) (N := 10) (v := .ref (ad (r6 + 1))) hx hb hg inlX3 hown hK hY (hL _ (gcl_lt hr6 (by decide))) hr6 (by decide) rfl (by decide) tX3_1 (hg _ gw_643) rfl dX11_breaks_115 ?_
  refine lv_iload_n hx hb dX11_breaks_118 rfl (lv_at hl 2 rfl) ?_
  refine lv_i2l (v := (x3.toInt64)) hx hb dX11_breaks_119 rfl ?_
  obtain ⟨r_5, e_6, h⟩ := g_bind h
  refine G_av hY hA (va_runV (As := [.long (x3.toInt64)]) (rest := []) ⟨hx, hb, hml, hown, hg⟩ (kX8_add l D y aS H.size L hL ad N r_3 (r6 + 1) (x3.toInt64) _ (gcl_chk hr6) e_6) (cwV 1 hg ggV_RX11_80_X8_add rfl rfl rfl (by decide +kernel) ⟨Nat.le_of_ble_eq_true rfl, Nat.le_of_ble_eq_true rfl⟩) (G_pV (q := (RX8, TX8, 2)) hK hY (hL _ (gcl_lt (gcl_chk hr6) (by decide))) (gcl_chk hr6) (by decide) rfl) rfl rfl hl.1 rfl (lv_room (Nat.le_of_ble_eq_true rfl)) dX11_breaks_120 ⟨Nat.le_of_ble_eq_true rfl, Nat.le_of_ble_eq_true rfl⟩) ?_
  clear hY
  rintro H locs hY
  refine lv_aload hx hb dX11_breaks_123 (lv_at hl 5 rfl) ?_
  refine G_get (ci := 3) (j := 1) (C := RX3) (T := TX3) (N := 10) (v := .ref (ad (r6 + 1))) hx hb hg inlX3 hown hK hY (hL _ (gcl_lt hr6 (by decide))) hr6 (by decide) rfl (by decide) tX3_1 (hg _ gw_643) rfl dX11_breaks_125 ?_
  refine lv_iload hx hb dX11_breaks_128 (lv_at hl 3 rfl) ?_
  refine lv_i2l (v := (x4.toInt64)) hx hb dX11_breaks_130 rfl ?_
  obtain ⟨r_7, e_8, h⟩ := g_bind h
  refine G_av hY hA (va_runV (As := [.long (x4.toInt64)]) (rest := []) ⟨hx, hb, hml, hown, hg⟩ (kX8_add l D y aS H.size L hL ad N r_5 (r6 + 1) (x4.toInt64) _ (gcl_chk hr6) e_8) (cwV 1 hg ggV_RX11_80_X8_add rfl rfl rfl (by decide +kernel) ⟨Nat.le_of_ble_eq_true rfl, Nat.le_of_ble_eq_true rfl⟩) (G_pV (q := (RX8, TX8, 2)) hK hY (hL _ (gcl_lt (gcl_chk hr6) (by decide))) (gcl_chk hr6) (by decide) rfl) rfl rfl hl.1 rfl (lv_room (Nat.le_of_ble_eq_true rfl)) dX11_breaks_131 ⟨Nat.le_of_ble_eq_true rfl, Nat.le_of_ble_eq_true rfl⟩) ?_
  clear hY
  rintro H locs hY
  refine lv_aload hx hb dX11_breaks_134 (lv_at hl 5 rfl) ?_
  refine G_get (ci := 3) (j := 1) (C := RX3) (T := TX3) (N := 10) (v := .ref (ad (r6 + 1))) hx hb hg inlX3 hown hK hY (hL _ (gcl_lt hr6 (by decide))) hr6 (by decide) rfl (by decide) tX3_1 (hg _ gw_643) rfl dX11_breaks_136 ?_
  refine lv_iload hx hb dX11_breaks_139 (lv_at hl 4 rfl) ?_
  refine lv_i2l (v := (x5.toInt64)) hx hb dX11_breaks_141 rfl ?_
  obtain ⟨r_9, e_10, h⟩ := g_bind h
  refine G_av hY hA (va_runV (As := [.long (x5.toInt64)]) (rest := []) ⟨hx, hb, hml, hown, hg⟩ (kX8_add l D y aS H.size L hL ad N r_7 (r6 + 1) (x5.toInt64) _ (gcl_chk hr6) e_10) (cwV 1 hg ggV_RX11_80_X8_add rfl rfl rfl (by decide +kernel) ⟨Nat.le_of_ble_eq_true rfl, Nat.le_of_ble_eq_true rfl⟩) (G_pV (q := (RX8, TX8, 2)) hK hY (hL _ (gcl_lt (gcl_chk hr6) (by decide))) (gcl_chk hr6) (by decide) rfl) rfl rfl hl.1 rfl (lv_room (Nat.le_of_ble_eq_true rfl)) dX11_breaks_142 ⟨Nat.le_of_ble_eq_true rfl, Nat.le_of_ble_eq_true rfl⟩) ?_
  clear hY
  rintro H locs hY
  refine lv_aload hx hb dX11_breaks_145 (lv_at hl 5 rfl) ?_
  obtain ⟨r_11, e_12, h⟩ := g_bind h
  refine G_av hY hA (va_runV (As := []) (rest := []) ⟨hx, hb, hml, hown, hg⟩ (kX3_reopen l D y aS H.size L hL ad N r_9 r6 _ hr6 e_12) (cwV 0 hg ggV_RX11_249_X3_reopen rfl rfl rfl (by decide +kernel) ⟨Nat.le_of_ble_eq_true rfl, Nat.le_of_ble_eq_true rfl⟩) (G_pV (q := (RX3, TX3, 10)) hK hY (hL _ (gcl_lt hr6 (by decide))) hr6 (by decide) rfl) rfl rfl hl.1 rfl (lv_room (Nat.le_of_ble_eq_true rfl)) dX11_breaks_147 ⟨Nat.le_of_ble_eq_true rfl, Nat.le_of_ble_eq_true rfl⟩) ?_
  clear hY
  rintro H locs hY
  refine lv_aload_n hx hb dX11_breaks_150 rfl (lv_at hl 0 rfl) ?_
  obtain ⟨r_13, e_14, h⟩ := g_bind h
  refine G_av hY hA (va_runV (As := []) (rest := []) ⟨hx, hb, hml, hown, hg⟩ (kX11_stir l D y aS H.size L hL ad N r_11 _ e_14) (cwV 0 hg ggV_RX11_230_X11_stir rfl rfl rfl (by decide +kernel) ⟨Nat.le_of_ble_eq_true rfl, Nat.le_of_ble_eq_true rfl⟩) (G_pV (q := (RX11, TX11, 19)) hK hY (hL 0 (by decide)) gk_0 (by decide) rfl) rfl rfl hl.1 rfl (lv_room (Nat.le_of_ble_eq_true rfl)) dX11_breaks_151 ⟨Nat.le_of_ble_eq_true rfl, Nat.le_of_ble_eq_true rfl⟩) ?_
  clear hY
  rintro H locs hY
  refine lv_aload hx hb dX11_breaks_154 (lv_at hl 5 rfl) ?_
  refine G_get (ci := 3) (j := 1) (C := RX3) (T := TX3) (N := 10) (v := .ref (ad (r6 + 1))) hx hb hg inlX3 hown hK hY (hL _ (gcl_lt hr6 (by decide))) hr6 (by decide) rfl (by decide) tX3_1 (hg _ gw_643) rfl dX11_breaks_156 ?_
  refine G_get (ci := 8) (j := 1) (C := RX8) (T := TX8) (N := 2) (v := .int (r_13.1 (r6 + 1) 1)) hx hb hg inlX8 hown hK hY (hL _ (gcl_lt (gcl_chk hr6) (by decide))) (gcl_chk hr6) (by decide) rfl (by decide) tX8_1 (hg _ gw_178) rfl dX11_breaks_159 ?_
  refine lv_iconst (v := 4) hx hb dX11_breaks_162 (by decide) ?_
  refine lv_idiv hx hb dX11_breaks_163 (by decide +kernel) ?_
  cases h
  exact g_iret hx hb hr hlocks () hY.1 hY.2.1 hY.2.2 rfl rfl (Nat.le_of_ble_eq_true rfl) (Nat.le_of_ble_eq_true rfl) dX11_breaks_164
def fX11_breaks_79 (N : Nat) (σ : gS) (x2 : Int32) (x3 : Int32) (x4 : Int32) (x5 : Int32) (r6 : Nat) (xs0 : Int32) : Option (Int32 × gS) := (fX11_needArgument N σ xs0).bind fun r_1 => if 24 ≤ (σ.1 (r6 + 1) 1) then (fX11_breaks_100 N σ x2 x3 x4 x5 r6 0) else (fX11_breaks_100 N σ x2 x3 x4 x5 r6 1)
set_option maxRecDepth 100000 in
set_option maxHeartbeats 4000000 in
theorem wX11_breaks_79 {σ : gS} {x2 : Int32} {x3 : Int32} {x4 : Int32} {x5 : Int32} {r6 : Nat} {xs0 : Int32} (hx : p.tables.exec = Jvm.exec) (hb : c.code = cX11_breaks) (hr : meth.sig.returnType = (some .int)) (hml : c.maxLocals = 7) (hown : s.vm.findClass RX11 = some m.cls) (hg : ∀ w ∈ wsL_law, w.before args s = true) (hlocks : meth.locks = false) (hK : gK D y aS s) (hA : ∀ q, s.heap.size ≤ q → A q) (hL : ∀ k, k < 179 → k ∈ L) (hr6 : gcl r6 = 3) {H : Heap} {locs : List Loc} {ls : Array Slot} (hY : gY D y A s L ad σ H locs) (hl : lv_has ls 7 [(0, .ref (ad 0)), (2, .int x2), (3, .int x3), (4, .int x4), (5, .int x5), (6, .ref (ad r6))]) (h : fX11_breaks_79 N σ x2 x3 x4 x5 r6 xs0 = some res) : W p l e ({ frames := 1, cells := 0, slots := 0, locals := 22 } : Room) s m args below meth c H locs 0 0 (MQ below (va_Qi (fun (r : Int32) (_ : Unit) => r = res.1) (fun _ => gO D A (GW L y ad res.2)) A) args s 0 0 A) (F0 m 79 ls [.int xs0]) := by
  unfold fX11_breaks_79 at h
  obtain ⟨r_1, e_2, h⟩ := g_bind h
  refine G_av hY hA (va_runS (As := [.int xs0]) (rest := []) ⟨hx, hb, hml, hown, hg⟩ (kX11_needArgument l D y aS H.size L hL ad N σ xs0 _ e_2) (va_cwS 1 hg ggS_RX11_243_X11_needArgument rfl rfl rfl (by decide +kernel) ⟨Nat.le_of_ble_eq_true rfl, Nat.le_of_ble_eq_true rfl⟩) (G_pS hK hY) rfl rfl hl.1 rfl (lv_room (Nat.le_of_ble_eq_true rfl)) dX11_breaks_79 ⟨Nat.le_of_ble_eq_true rfl, Nat.le_of_ble_eq_true rfl⟩) ?_
  clear hY
  rintro H locs hY
  refine lv_aload hx hb dX11_breaks_82 (lv_at hl 5 rfl) ?_
  refine G_get (ci := 3) (j := 1) (C := RX3) (T := TX3) (N := 10) (v := .ref (ad (r6 + 1))) hx hb hg inlX3 hown hK hY (hL _ (gcl_lt hr6 (by decide))) hr6 (by decide) rfl (by decide) tX3_1 (hg _ gw_643) rfl dX11_breaks_84 ?_
  refine G_get (ci := 8) (j := 1) (C := RX8) (T := TX8) (N := 2) (v := .int (σ.1 (r6 + 1) 1)) hx hb hg inlX8 hown hK hY (hL _ (gcl_lt (gcl_chk hr6) (by decide))) (gcl_chk hr6) (by decide) rfl (by decide) tX8_1 (hg _ gw_178) rfl dX11_breaks_87 ?_
  refine lv_bipush (v := 24) hx hb dX11_breaks_90 (by decide +kernel) ?_
  refine lv_icmp_ge (tgt := 99) hx hb dX11_breaks_92 (by decide) (fun z_3 => ?_) (fun z_3 => ?_)
  ·
    rw [if_pos z_3] at h
    refine lv_iconst (v := 0) hx hb dX11_breaks_99 (by decide) ?_
    exact wX11_breaks_100 hx hb hr hml hown hg hlocks hK hA hL hr6 hY (lv_sub hl [0, 1, 2, 3, 4, 5] rfl) h
  ·
    rw [if_neg z_3] at h
    refine lv_iconst (v := 1) hx hb dX11_breaks_95 (by decide) ?_
    refine lv_goto (tgt := 100) hx hb dX11_breaks_96 (by decide) ?_
    exact wX11_breaks_100 hx hb hr hml hown hg hlocks hK hA hL hr6 hY (lv_sub hl [0, 1, 2, 3, 4, 5] rfl) h
def fX11_breaks_78 (N : Nat) (σ : gS) (x2 : Int32) (x3 : Int32) (x4 : Int32) (x5 : Int32) (r6 : Nat) : Option (Int32 × gS) := fX11_breaks_79 N σ x2 x3 x4 x5 r6 0
set_option maxRecDepth 100000 in
set_option maxHeartbeats 4000000 in
theorem wX11_breaks_78 {σ : gS} {x2 : Int32} {x3 : Int32} {x4 : Int32} {x5 : Int32} {r6 : Nat} (hx : p.tables.exec = Jvm.exec) (hb : c.code = cX11_breaks) (hr : meth.sig.returnType = (some .int)) (hml : c.maxLocals = 7) (hown : s.vm.findClass RX11 = some m.cls) (hg : ∀ w ∈ wsL_law, w.before args s = true) (hlocks : meth.locks = false) (hK : gK D y aS s) (hA : ∀ q, s.heap.size ≤ q → A q) (hL : ∀ k, k < 179 → k ∈ L) (hr6 : gcl r6 = 3) {H : Heap} {locs : List Loc} {ls : Array Slot} (hY : gY D y A s L ad σ H locs) (hl : lv_has ls 7 [(0, .ref (ad 0)), (2, .int x2), (3, .int x3), (4, .int x4), (5, .int x5), (6, .ref (ad r6))]) (h : fX11_breaks_78 N σ x2 x3 x4 x5 r6 = some res) : W p l e ({ frames := 1, cells := 0, slots := 0, locals := 22 } : Room) s m args below meth c H locs 0 0 (MQ below (va_Qi (fun (r : Int32) (_ : Unit) => r = res.1) (fun _ => gO D A (GW L y ad res.2)) A) args s 0 0 A) (F0 m 78 ls []) := by
  unfold fX11_breaks_78 at h
  refine lv_iconst (v := 0) hx hb dX11_breaks_78 (by decide) ?_
  exact wX11_breaks_79 hx hb hr hml hown hg hlocks hK hA hL hr6 hY (lv_sub hl [0, 1, 2, 3, 4, 5] rfl) h
end
def fX11_breaks (N : Nat) (σ : gS) (x1 : Int32) (x2 : Int32) (x3 : Int32) (x4 : Int32) (x5 : Int32) : Option (Int32 × gS) := (fX11_needPlace N σ x1 (σ.1 65 5)).bind fun r_1 => (fX11_needPlace N σ x2 (12 : Int32)).bind fun r_3 => (fX11_needPlace N σ x4 (12 : Int32)).bind fun r_5 => (fX11_needRange N σ x3 (0 : Int32) (9 : Int32)).bind fun r_7 => (fX11_needRange N σ x5 (0 : Int32) (9 : Int32)).bind fun r_9 => (fX7_at N σ x1).bind fun r_11 => (fX11_hasBit N σ (σ.1 r_11 2) x2).bind fun r_14 => if r_14 = 0 then (fX11_breaks_78 N σ x2 x3 x4 x5 r_11) else ((fX11_hasBit N σ (σ.1 r_11 2) x4).bind fun r_17 => if r_17 = 0 then (fX11_breaks_78 N σ x2 x3 x4 x5 r_11) else (fX11_breaks_79 N σ x2 x3 x4 x5 r_11 1))
set_option maxRecDepth 100000 in
set_option maxHeartbeats 4000000 in
theorem kX11_breaks (l : Launch) (D : va_G) (y : Nat → ClassId) (aS : Nat → Nat) (sz : Nat) (L : List Nat) (hL : ∀ k, k < 179 → k ∈ L) (ad : Nat → Nat) (N : Nat) (σ : gS) (x1 : Int32) (x2 : Int32) (x3 : Int32) (x4 : Int32) (x5 : Int32) (res : (Int32 × gS)) (h : fX11_breaks N σ x1 x2 x3 x4 x5 = some res) : Met l yX11_breaks (Cond.code yX11_breaks cX11_breaks 7 (some .int) :: wsL_law) ({ frames := 1, cells := 0, slots := 0, locals := 22 } : Room) (va_Pc [.ref (ad 0), .int x1, .int x2, .int x3, .int x4, .int x5] (gI D y aS (GW L y ad σ) sz)) (va_Qi (fun (r : Int32) (_ : Unit) => r = res.1) (fun _ => gO D (va_A (GW L y ad σ) sz) (GW L y ad res.2)) (va_A (GW L y ad σ) sz)) 0 0 (va_A (GW L y ad σ) sz) := by
  refine g_of (by decide) (Nat.le_of_ble_eq_true rfl) ?_
  intro p e s m below meth c ls A hx hb hr hml hown hg hlocks hin hsz hK hP hD hS hA hAe hl
  rw [← hAe]
  replace hown : s.vm.findClass RX11 = some m.cls := hown
  have hY : gY D y A s L ad σ s.heap [] := ⟨hP, hD, hS⟩
  clear hP hD hS
  replace hl : lv_has ls 7 [(0, .ref (ad 0)), (1, .int x1), (2, .int x2), (3, .int x3), (4, .int x4), (5, .int x5)] := hl
  unfold fX11_breaks at h
  refine lv_iload_n hx hb dX11_breaks_0 rfl (lv_at hl 1 rfl) ?_
  refine lv_aload_n hx hb dX11_breaks_1 rfl (lv_at hl 0 rfl) ?_
  refine G_get (ci := 11) (j := 1) (C := RX11) (T := TX11) (N := 19) (v := .ref (ad 65)) hx hb hg inlX11 hown hK hY (hL 0 (by decide)) gk_0 (by decide) rfl (by decide) tX11_1 (hg _ gw_20) rfl dX11_breaks_2 ?_
  refine G_get (ci := 7) (j := 5) (C := RX7) (T := TX7) (N := 6) (v := .int (σ.1 65 5)) hx hb hg inlX7 hown hK hY (hL 65 (by decide)) gk_65 (by decide) rfl (by decide) tX7_5 (hg _ gw_490) rfl dX11_breaks_5 ?_
  obtain ⟨r_1, e_2, h⟩ := g_bind h
  refine G_av hY hA (va_runS (As := [.int x1, .int (σ.1 65 5)]) (rest := []) ⟨hx, hb, hml, hown, hg⟩ (kX11_needPlace l D y aS s.heap.size L hL ad N σ x1 (σ.1 65 5) _ e_2) (va_cwS 2 hg ggS_RX11_106_X11_needPlace rfl rfl rfl (by decide +kernel) ⟨Nat.le_of_ble_eq_true rfl, Nat.le_of_ble_eq_true rfl⟩) (G_pS hK hY) rfl rfl hl.1 rfl (lv_room (Nat.le_of_ble_eq_true rfl)) dX11_breaks_8 ⟨Nat.le_of_ble_eq_true rfl, Nat.le_of_ble_eq_true rfl⟩) ?_
  clear hY
  rintro H locs hY
  refine lv_iload_n hx hb dX11_breaks_11 rfl (lv_at hl 2 rfl) ?_
  refine lv_bipush (v := 12) hx hb dX11_breaks_12 (by decide +kernel) ?_
  obtain ⟨r_3, e_4, h⟩ := g_bind h
  refine G_av hY hA (va_runS (As := [.int x2, .int 12]) (rest := []) ⟨hx, hb, hml, hown, hg⟩ (kX11_needPlace l D y aS H.size L hL ad N σ x2 (12 : Int32) _ e_4) (va_cwS 2 hg ggS_RX11_106_X11_needPlace rfl rfl rfl (by decide +kernel) ⟨Nat.le_of_ble_eq_true rfl, Nat.le_of_ble_eq_true rfl⟩) (G_pS hK hY) rfl rfl hl.1 rfl (lv_room (Nat.le_of_ble_eq_true rfl)) dX11_breaks_14 ⟨Nat.le_of_ble_eq_true rfl, Nat.le_of_ble_eq_true rfl⟩) ?_
  clear hY
  rintro H locs hY
  refine lv_iload hx hb dX11_breaks_17 (lv_at hl 4 rfl) ?_
  refine lv_bipush (v := 12) hx hb dX11_breaks_19 (by decide +kernel) ?_
  obtain ⟨r_5, e_6, h⟩ := g_bind h
  refine G_av hY hA (va_runS (As := [.int x4, .int 12]) (rest := []) ⟨hx, hb, hml, hown, hg⟩ (kX11_needPlace l D y aS H.size L hL ad N σ x4 (12 : Int32) _ e_6) (va_cwS 2 hg ggS_RX11_106_X11_needPlace rfl rfl rfl (by decide +kernel) ⟨Nat.le_of_ble_eq_true rfl, Nat.le_of_ble_eq_true rfl⟩) (G_pS hK hY) rfl rfl hl.1 rfl (lv_room (Nat.le_of_ble_eq_true rfl)) dX11_breaks_21 ⟨Nat.le_of_ble_eq_true rfl, Nat.le_of_ble_eq_true rfl⟩) ?_
  clear hY
  rintro H locs hY
  refine lv_iload_n hx hb dX11_breaks_24 rfl (lv_at hl 3 rfl) ?_
  refine lv_iconst (v := 0) hx hb dX11_breaks_25 (by decide) ?_
  refine lv_bipush (v := 9) hx hb dX11_breaks_26 (by decide +kernel) ?_
  obtain ⟨r_7, e_8, h⟩ := g_bind h
  refine G_av hY hA (va_runS (As := [.int x3, .int 0, .int 9]) (rest := []) ⟨hx, hb, hml, hown, hg⟩ (kX11_needRange l D y aS H.size L hL ad N σ x3 (0 : Int32) (9 : Int32) _ e_8) (va_cwS 3 hg ggS_RX11_133_X11_needRange rfl rfl rfl (by decide +kernel) ⟨Nat.le_of_ble_eq_true rfl, Nat.le_of_ble_eq_true rfl⟩) (G_pS hK hY) rfl rfl hl.1 rfl (lv_room (Nat.le_of_ble_eq_true rfl)) dX11_breaks_28 ⟨Nat.le_of_ble_eq_true rfl, Nat.le_of_ble_eq_true rfl⟩) ?_
  clear hY
  rintro H locs hY
  refine lv_iload hx hb dX11_breaks_31 (lv_at hl 5 rfl) ?_
  refine lv_iconst (v := 0) hx hb dX11_breaks_33 (by decide) ?_
  refine lv_bipush (v := 9) hx hb dX11_breaks_34 (by decide +kernel) ?_
  obtain ⟨r_9, e_10, h⟩ := g_bind h
  refine G_av hY hA (va_runS (As := [.int x5, .int 0, .int 9]) (rest := []) ⟨hx, hb, hml, hown, hg⟩ (kX11_needRange l D y aS H.size L hL ad N σ x5 (0 : Int32) (9 : Int32) _ e_10) (va_cwS 3 hg ggS_RX11_133_X11_needRange rfl rfl rfl (by decide +kernel) ⟨Nat.le_of_ble_eq_true rfl, Nat.le_of_ble_eq_true rfl⟩) (G_pS hK hY) rfl rfl hl.1 rfl (lv_room (Nat.le_of_ble_eq_true rfl)) dX11_breaks_36 ⟨Nat.le_of_ble_eq_true rfl, Nat.le_of_ble_eq_true rfl⟩) ?_
  clear hY
  rintro H locs hY
  refine lv_aload_n hx hb dX11_breaks_39 rfl (lv_at hl 0 rfl) ?_
  refine G_get (ci := 11) (j := 1) (C := RX11) (T := TX11) (N := 19) (v := .ref (ad 65)) hx hb hg inlX11 hown hK hY (hL 0 (by decide)) gk_0 (by decide) rfl (by decide) tX11_1 (hg _ gw_20) rfl dX11_breaks_40 ?_
  refine lv_iload_n hx hb dX11_breaks_43 rfl (lv_at hl 1 rfl) ?_
  obtain ⟨r_11, e_12, h⟩ := g_bind h
  refine G_ar hY hA (va_runV (As := [.int x1]) (rest := []) ⟨hx, hb, hml, hown, hg⟩ (kX7_at l D y aS H.size L hL ad N σ x1 _ e_12) (cwV 1 hg ggV_RX11_237_X7_at rfl rfl rfl (by decide +kernel) ⟨Nat.le_of_ble_eq_true rfl, Nat.le_of_ble_eq_true rfl⟩) (G_pV (q := (RX7, TX7, 6)) hK hY (hL 65 (by decide)) gk_65 (by decide) rfl) rfl rfl hl.1 rfl (lv_room (Nat.le_of_ble_eq_true rfl)) dX11_breaks_44 ⟨Nat.le_of_ble_eq_true rfl, Nat.le_of_ble_eq_true rfl⟩) ?_
  clear hY
  rintro H locs k_13 hY
  refine lv_astore (lv' := [(6, .ref (ad r_11)), (0, .ref (ad 0)), (1, .int x1), (2, .int x2), (3, .int x3), (4, .int x4), (5, .int x5)]) hx hb dX11_breaks_47 hl (by decide) rfl ?_
  clear hl
  intro ls hl
  refine lv_aload hx hb dX11_breaks_49 (lv_at hl 0 rfl) ?_
  refine G_get (ci := 3) (j := 2) (C := RX3) (T := TX3) (N := 10) (v := .int (σ.1 r_11 2)) hx hb hg inlX3 hown hK hY (hL _ (gcl_lt k_13 (by decide))) k_13 (by decide) rfl (by decide) tX3_2 (hg _ gw_642) rfl dX11_breaks_51 ?_
  refine lv_iload_n hx hb dX11_breaks_54 rfl (lv_at hl 3 rfl) ?_
  obtain ⟨r_14, e_15, h⟩ := g_bind h
  refine G_ai hY hA (va_runS (As := [.int (σ.1 r_11 2), .int x2]) (rest := []) ⟨hx, hb, hml, hown, hg⟩ (kX11_hasBit l D y aS H.size L hL ad N σ (σ.1 r_11 2) x2 _ e_15) (va_cwS 2 hg ggS_RX11_175_X11_hasBit rfl rfl rfl (by decide +kernel) ⟨Nat.le_of_ble_eq_true rfl, Nat.le_of_ble_eq_true rfl⟩) (G_pS hK hY) rfl rfl hl.1 rfl (lv_room (Nat.le_of_ble_eq_true rfl)) dX11_breaks_55 ⟨Nat.le_of_ble_eq_true rfl, Nat.le_of_ble_eq_true rfl⟩) ?_
  clear hY
  rintro _ H locs rfl hY
  refine lv_if_eq (tgt := 78) hx hb dX11_breaks_58 (by decide) (fun z_16 => ?_) (fun z_16 => ?_)
  ·
    rw [if_pos z_16] at h
    exact wX11_breaks_78 hx hb hr hml hown hg hlocks hK hA hL k_13 hY (lv_sub hl [1, 3, 4, 5, 6, 0] rfl) h
  ·
    rw [if_neg z_16] at h
    refine lv_aload hx hb dX11_breaks_61 (lv_at hl 0 rfl) ?_
    refine G_get (ci := 3) (j := 2) (C := RX3) (T := TX3) (N := 10) (v := .int (σ.1 r_11 2)) hx hb hg inlX3 hown hK hY (hL _ (gcl_lt k_13 (by decide))) k_13 (by decide) rfl (by decide) tX3_2 (hg _ gw_642) rfl dX11_breaks_63 ?_
    refine lv_iload hx hb dX11_breaks_66 (lv_at hl 5 rfl) ?_
    obtain ⟨r_17, e_18, h⟩ := g_bind h
    refine G_ai hY hA (va_runS (As := [.int (σ.1 r_11 2), .int x4]) (rest := []) ⟨hx, hb, hml, hown, hg⟩ (kX11_hasBit l D y aS H.size L hL ad N σ (σ.1 r_11 2) x4 _ e_18) (va_cwS 2 hg ggS_RX11_175_X11_hasBit rfl rfl rfl (by decide +kernel) ⟨Nat.le_of_ble_eq_true rfl, Nat.le_of_ble_eq_true rfl⟩) (G_pS hK hY) rfl rfl hl.1 rfl (lv_room (Nat.le_of_ble_eq_true rfl)) dX11_breaks_68 ⟨Nat.le_of_ble_eq_true rfl, Nat.le_of_ble_eq_true rfl⟩) ?_
    clear hY
    rintro _ H locs rfl hY
    refine lv_if_eq (tgt := 78) hx hb dX11_breaks_71 (by decide) (fun z_19 => ?_) (fun z_19 => ?_)
    ·
      rw [if_pos z_19] at h
      exact wX11_breaks_78 hx hb hr hml hown hg hlocks hK hA hL k_13 hY (lv_sub hl [1, 3, 4, 5, 6, 0] rfl) h
    ·
      rw [if_neg z_19] at h
      refine lv_iconst (v := 1) hx hb dX11_breaks_74 (by decide) ?_
      refine lv_goto (tgt := 79) hx hb dX11_breaks_75 (by decide) ?_
      exact wX11_breaks_79 hx hb hr hml hown hg hlocks hK hA hL k_13 hY (lv_sub hl [1, 3, 4, 5, 6, 0] rfl) h
section
variable {p : Program} {l : Launch} {e : Env} {s : State} {m : MethodId} {args : Array Value} {below : List Frame} {meth : Method} {c : Code} {D : va_G} {y : Nat → ClassId} {aS : Nat → Nat} {A : Nat → Prop} {L : List Nat} {ad : Nat → Nat} {N : Nat} {res : (Int32 × gS)}
def fX11_outside_45 (N : Nat) (σ : gS) (x4 : Int32) : Option (Int32 × gS) := if ¬ (x4 = 0 ∨ x4 = 1) then none else (some (x4, σ))
set_option maxRecDepth 100000 in
set_option maxHeartbeats 4000000 in
theorem wX11_outside_45 {σ : gS} {x4 : Int32} (hx : p.tables.exec = Jvm.exec) (hb : c.code = cX11_outside) (hr : meth.sig.returnType = (some .boolean)) (hml : c.maxLocals = 5) (hown : s.vm.findClass RX11 = some m.cls) (hg : ∀ w ∈ wsL_law, w.before args s = true) (hlocks : meth.locks = false) (hK : gK D y aS s) (hA : ∀ q, s.heap.size ≤ q → A q) (hL : ∀ k, k < 179 → k ∈ L) {H : Heap} {locs : List Loc} {ls : Array Slot} (hY : gY D y A s L ad σ H locs) (hl : lv_has ls 5 [(4, .int x4)]) (h : fX11_outside_45 N σ x4 = some res) : W p l e ({ frames := 1, cells := 0, slots := 0, locals := 22 } : Room) s m args below meth c H locs 0 0 (MQ below (va_Qi (fun (r : Int32) (_ : Unit) => r = res.1) (fun _ => gO D A (GW L y ad res.2)) A) args s 0 0 A) (F0 m 45 ls []) := by
  unfold fX11_outside_45 at h
  refine lv_iload hx hb dX11_outside_45 (lv_at hl 0 rfl) ?_
  obtain ⟨z_1, h⟩ := g_guard h
  cases h
  exact g_iret hx hb hr hlocks () hY.1 hY.2.1 hY.2.2 (g_nz (Classical.not_not.mp z_1)) rfl (Nat.le_of_ble_eq_true rfl) (Nat.le_of_ble_eq_true rfl) dX11_outside_47
end
def fX11_outside (N : Nat) (σ : gS) (x1 : Int32) (x2 : Int32) : Option (Int32 × gS) := (fX11_needPlace N σ x1 (σ.1 65 5)).bind fun r_1 => (fX7_at N σ x1).bind fun r_3 => if (σ.1 r_3 6) = x2 then (fX11_outside_45 N σ (σ.1 r_3 6)) else (if ¬ (x2 = 0 ∨ x2 = 1) then none else ((fX3_reopen N (sI σ r_3 6 x2) r_3).bind fun r_8 => (fX11_stir N r_8).bind fun r_10 => fX11_outside_45 N r_10 (σ.1 r_3 6)))
set_option maxRecDepth 100000 in
set_option maxHeartbeats 4000000 in
theorem kX11_outside (l : Launch) (D : va_G) (y : Nat → ClassId) (aS : Nat → Nat) (sz : Nat) (L : List Nat) (hL : ∀ k, k < 179 → k ∈ L) (ad : Nat → Nat) (N : Nat) (σ : gS) (x1 : Int32) (x2 : Int32) (res : (Int32 × gS)) (h : fX11_outside N σ x1 x2 = some res) : Met l yX11_outside (Cond.code yX11_outside cX11_outside 5 (some .boolean) :: wsL_law) ({ frames := 1, cells := 0, slots := 0, locals := 22 } : Room) (va_Pc [.ref (ad 0), .int x1, .int x2] (gI D y aS (GW L y ad σ) sz)) (va_Qi (fun (r : Int32) (_ : Unit) => r = res.1) (fun _ => gO D (va_A (GW L y ad σ) sz) (GW L y ad res.2)) (va_A (GW L y ad σ) sz)) 0 0 (va_A (GW L y ad σ) sz) := by
  refine g_of (by decide) (Nat.le_of_ble_eq_true rfl) ?_
  intro p e s m below meth c ls A hx hb hr hml hown hg hlocks hin hsz hK hP hD hS hA hAe hl
  rw [← hAe]
  replace hown : s.vm.findClass RX11 = some m.cls := hown
  have hY : gY D y A s L ad σ s.heap [] := ⟨hP, hD, hS⟩
  clear hP hD hS
  replace hl : lv_has ls 5 [(0, .ref (ad 0)), (1, .int x1), (2, .int x2)] := hl
  unfold fX11_outside at h
  refine lv_iload_n hx hb dX11_outside_0 rfl (lv_at hl 1 rfl) ?_
  refine lv_aload_n hx hb dX11_outside_1 rfl (lv_at hl 0 rfl) ?_
  refine G_get (ci := 11) (j := 1) (C := RX11) (T := TX11) (N := 19) (v := .ref (ad 65)) hx hb hg inlX11 hown hK hY (hL 0 (by decide)) gk_0 (by decide) rfl (by decide) tX11_1 (hg _ gw_20) rfl dX11_outside_2 ?_
  refine G_get (ci := 7) (j := 5) (C := RX7) (T := TX7) (N := 6) (v := .int (σ.1 65 5)) hx hb hg inlX7 hown hK hY (hL 65 (by decide)) gk_65 (by decide) rfl (by decide) tX7_5 (hg _ gw_490) rfl dX11_outside_5 ?_
  obtain ⟨r_1, e_2, h⟩ := g_bind h
  refine G_av hY hA (va_runS (As := [.int x1, .int (σ.1 65 5)]) (rest := []) ⟨hx, hb, hml, hown, hg⟩ (kX11_needPlace l D y aS s.heap.size L hL ad N σ x1 (σ.1 65 5) _ e_2) (va_cwS 2 hg ggS_RX11_106_X11_needPlace rfl rfl rfl (by decide +kernel) ⟨Nat.le_of_ble_eq_true rfl, Nat.le_of_ble_eq_true rfl⟩) (G_pS hK hY) rfl rfl hl.1 rfl (lv_room (Nat.le_of_ble_eq_true rfl)) dX11_outside_8 ⟨Nat.le_of_ble_eq_true rfl, Nat.le_of_ble_eq_true rfl⟩) ?_
  clear hY
  rintro H locs hY
  refine lv_aload_n hx hb dX11_outside_11 rfl (lv_at hl 0 rfl) ?_
  refine G_get (ci := 11) (j := 1) (C := RX11) (T := TX11) (N := 19) (v := .ref (ad 65)) hx hb hg inlX11 hown hK hY (hL 0 (by decide)) gk_0 (by decide) rfl (by decide) tX11_1 (hg _ gw_20) rfl dX11_outside_12 ?_
  refine lv_iload_n hx hb dX11_outside_15 rfl (lv_at hl 1 rfl) ?_
  obtain ⟨r_3, e_4, h⟩ := g_bind h
  refine G_ar hY hA (va_runV (As := [.int x1]) (rest := []) ⟨hx, hb, hml, hown, hg⟩ (kX7_at l D y aS H.size L hL ad N σ x1 _ e_4) (cwV 1 hg ggV_RX11_237_X7_at rfl rfl rfl (by decide +kernel) ⟨Nat.le_of_ble_eq_true rfl, Nat.le_of_ble_eq_true rfl⟩) (G_pV (q := (RX7, TX7, 6)) hK hY (hL 65 (by decide)) gk_65 (by decide) rfl) rfl rfl hl.1 rfl (lv_room (Nat.le_of_ble_eq_true rfl)) dX11_outside_16 ⟨Nat.le_of_ble_eq_true rfl, Nat.le_of_ble_eq_true rfl⟩) ?_
  clear hY
  rintro H locs k_5 hY
  refine lv_astore_n (lv' := [(3, .ref (ad r_3)), (0, .ref (ad 0)), (1, .int x1), (2, .int x2)]) hx hb dX11_outside_19 rfl hl (by decide) rfl ?_
  clear hl
  intro ls hl
  refine lv_aload_n hx hb dX11_outside_20 rfl (lv_at hl 0 rfl) ?_
  refine G_get (ci := 3) (j := 6) (C := RX3) (T := TX3) (N := 10) (v := .int (σ.1 r_3 6)) hx hb hg inlX3 hown hK hY (hL _ (gcl_lt k_5 (by decide))) k_5 (by decide) rfl (by decide) tX3_6 (hg _ gw_660) rfl dX11_outside_21 ?_
  refine lv_istore (lv' := [(4, .int (σ.1 r_3 6)), (3, .ref (ad r_3)), (0, .ref (ad 0)), (1, .int x1), (2, .int x2)]) hx hb dX11_outside_24 hl (by decide) rfl ?_
  clear hl
  intro ls hl
  refine lv_iload hx hb dX11_outside_26 (lv_at hl 0 rfl) ?_
  refine lv_iload_n hx hb dX11_outside_28 rfl (lv_at hl 4 rfl) ?_
  refine lv_icmp_eq (tgt := 45) hx hb dX11_outside_29 (by decide) (fun z_6 => ?_) (fun z_6 => ?_)
  ·
    rw [if_pos z_6] at h
    exact wX11_outside_45 hx hb hr hml hown hg hlocks hK hA hL hY (lv_sub hl [0] rfl) h
  ·
    rw [if_neg z_6] at h
    refine lv_aload_n hx hb dX11_outside_32 rfl (lv_at hl 1 rfl) ?_
    refine lv_iload_n hx hb dX11_outside_33 rfl (lv_at hl 4 rfl) ?_
    obtain ⟨z_7, h⟩ := g_guard h
    refine G_putI (ci := 3) (j := 6) (C := RX3) (T := TX3) (N := 10) (v := x2) (ty := .boolean) hx hb hg inlX3 tyX3 tyX3_ok nmX3 hown hK hY (hL _ (gcl_lt k_5 (by decide))) k_5 (by decide) rfl (by decide) tX3_6 (hg _ gw_660) (by decide +kernel) (g_nz (Classical.not_not.mp z_7)) (g_nf (Classical.not_not.mp z_7)) (fun _ _ => rfl) (fun _ _ => Nat.le_of_ble_eq_true rfl) dX11_outside_34 ?_
    clear hY
    intro H locs hY
    refine lv_aload_n hx hb dX11_outside_37 rfl (lv_at hl 1 rfl) ?_
    obtain ⟨r_8, e_9, h⟩ := g_bind h
    refine G_av hY hA (va_runV (As := []) (rest := []) ⟨hx, hb, hml, hown, hg⟩ (kX3_reopen l D y aS H.size L hL ad N (sI σ r_3 6 x2) r_3 _ k_5 e_9) (cwV 0 hg ggV_RX11_249_X3_reopen rfl rfl rfl (by decide +kernel) ⟨Nat.le_of_ble_eq_true rfl, Nat.le_of_ble_eq_true rfl⟩) (G_pV (q := (RX3, TX3, 10)) hK hY (hL _ (gcl_lt k_5 (by decide))) k_5 (by decide) rfl) rfl rfl hl.1 rfl (lv_room (Nat.le_of_ble_eq_true rfl)) dX11_outside_38 ⟨Nat.le_of_ble_eq_true rfl, Nat.le_of_ble_eq_true rfl⟩) ?_
    clear hY
    rintro H locs hY
    refine lv_aload_n hx hb dX11_outside_41 rfl (lv_at hl 2 rfl) ?_
    obtain ⟨r_10, e_11, h⟩ := g_bind h
    refine G_av hY hA (va_runV (As := []) (rest := []) ⟨hx, hb, hml, hown, hg⟩ (kX11_stir l D y aS H.size L hL ad N r_8 _ e_11) (cwV 0 hg ggV_RX11_230_X11_stir rfl rfl rfl (by decide +kernel) ⟨Nat.le_of_ble_eq_true rfl, Nat.le_of_ble_eq_true rfl⟩) (G_pV (q := (RX11, TX11, 19)) hK hY (hL 0 (by decide)) gk_0 (by decide) rfl) rfl rfl hl.1 rfl (lv_room (Nat.le_of_ble_eq_true rfl)) dX11_outside_42 ⟨Nat.le_of_ble_eq_true rfl, Nat.le_of_ble_eq_true rfl⟩) ?_
    clear hY
    rintro H locs hY
    exact wX11_outside_45 hx hb hr hml hown hg hlocks hK hA hL hY (lv_sub hl [0] rfl) h
theorem ggV_RX11_258_X7_addLine : GoodIn wsL_law (wsV RX11 258 RX7 yX7_addLine (Cond.code yX7_addLine cX7_addLine 4 (some .int) :: wsL_law)) := g_gi (fun _ h => h) gW_good (List.forall_mem_cons.mpr ⟨⟨gw_666, rfl⟩, List.forall_mem_cons.mpr ⟨⟨gw_667, rfl⟩, List.forall_mem_cons.mpr ⟨⟨gw_668, rfl⟩, List.forall_mem_cons.mpr ⟨⟨gw_19, rfl⟩, fun _ h => nomatch h⟩⟩⟩⟩) ⟨gw_669, rfl⟩
section
variable {p : Program} {l : Launch} {e : Env} {s : State} {m : MethodId} {args : Array Value} {below : List Frame} {meth : Method} {c : Code} {D : va_G} {y : Nat → ClassId} {aS : Nat → Nat} {A : Nat → Prop} {L : List Nat} {ad : Nat → Nat} {N : Nat} {res : (Int32 × gS)}
def fX11_line_61 (N : Nat) (σ : gS) (x1 : Int32) (x2 : Int32) (x3 : Int32) (xs0 : Int32) : Option (Int32 × gS) := (fX11_needState N σ xs0).bind fun r_1 => (fX11_stir N σ).bind fun r_3 => (fX7_addLine N r_3 x1 x2 x3).bind fun r_5 => some (r_5.1, r_5.2)
set_option maxRecDepth 100000 in
set_option maxHeartbeats 4000000 in
theorem wX11_line_61 {σ : gS} {x1 : Int32} {x2 : Int32} {x3 : Int32} {xs0 : Int32} (hx : p.tables.exec = Jvm.exec) (hb : c.code = cX11_line) (hr : meth.sig.returnType = (some .int)) (hml : c.maxLocals = 4) (hown : s.vm.findClass RX11 = some m.cls) (hg : ∀ w ∈ wsL_law, w.before args s = true) (hlocks : meth.locks = false) (hK : gK D y aS s) (hA : ∀ q, s.heap.size ≤ q → A q) (hL : ∀ k, k < 179 → k ∈ L) {H : Heap} {locs : List Loc} {ls : Array Slot} (hY : gY D y A s L ad σ H locs) (hl : lv_has ls 4 [(0, .ref (ad 0)), (1, .int x1), (2, .int x2), (3, .int x3)]) (h : fX11_line_61 N σ x1 x2 x3 xs0 = some res) : W p l e ({ frames := 2, cells := 0, slots := 0, locals := 45 } : Room) s m args below meth c H locs 0 0 (MQ below (va_Qi (fun (r : Int32) (_ : Unit) => r = res.1) (fun _ => gO D A (GW L y ad res.2)) A) args s 0 0 A) (F0 m 61 ls [.int xs0]) := by
  unfold fX11_line_61 at h
  obtain ⟨r_1, e_2, h⟩ := g_bind h
  refine G_av hY hA (va_runS (As := [.int xs0]) (rest := []) ⟨hx, hb, hml, hown, hg⟩ (kX11_needState l D y aS H.size L hL ad N σ xs0 _ e_2) (va_cwS 1 hg ggS_RX11_123_X11_needState rfl rfl rfl (by decide +kernel) ⟨Nat.le_of_ble_eq_true rfl, Nat.le_of_ble_eq_true rfl⟩) (G_pS hK hY) rfl rfl hl.1 rfl (lv_room (Nat.le_of_ble_eq_true rfl)) dX11_line_61 ⟨Nat.le_of_ble_eq_true rfl, Nat.le_of_ble_eq_true rfl⟩) ?_
  clear hY
  rintro H locs hY
  refine lv_aload_n hx hb dX11_line_64 rfl (lv_at hl 0 rfl) ?_
  obtain ⟨r_3, e_4, h⟩ := g_bind h
  refine G_av hY hA (va_runV (As := []) (rest := []) ⟨hx, hb, hml, hown, hg⟩ (kX11_stir l D y aS H.size L hL ad N σ _ e_4) (cwV 0 hg ggV_RX11_230_X11_stir rfl rfl rfl (by decide +kernel) ⟨Nat.le_of_ble_eq_true rfl, Nat.le_of_ble_eq_true rfl⟩) (G_pV (q := (RX11, TX11, 19)) hK hY (hL 0 (by decide)) gk_0 (by decide) rfl) rfl rfl hl.1 rfl (lv_room (Nat.le_of_ble_eq_true rfl)) dX11_line_65 ⟨Nat.le_of_ble_eq_true rfl, Nat.le_of_ble_eq_true rfl⟩) ?_
  clear hY
  rintro H locs hY
  refine lv_aload_n hx hb dX11_line_68 rfl (lv_at hl 0 rfl) ?_
  refine G_get (ci := 11) (j := 1) (C := RX11) (T := TX11) (N := 19) (v := .ref (ad 65)) hx hb hg inlX11 hown hK hY (hL 0 (by decide)) gk_0 (by decide) rfl (by decide) tX11_1 (hg _ gw_20) rfl dX11_line_69 ?_
  refine lv_iload_n hx hb dX11_line_72 rfl (lv_at hl 1 rfl) ?_
  refine lv_iload_n hx hb dX11_line_73 rfl (lv_at hl 2 rfl) ?_
  refine lv_iload_n hx hb dX11_line_74 rfl (lv_at hl 3 rfl) ?_
  obtain ⟨r_5, e_6, h⟩ := g_bind h
  refine G_ai hY hA (va_runV (As := [.int x1, .int x2, .int x3]) (rest := []) ⟨hx, hb, hml, hown, hg⟩ (kX7_addLine l D y aS H.size L hL ad N r_3 x1 x2 x3 _ e_6) (cwV 3 hg ggV_RX11_258_X7_addLine rfl rfl rfl (by decide +kernel) ⟨Nat.le_of_ble_eq_true rfl, Nat.le_of_ble_eq_true rfl⟩) (G_pV (q := (RX7, TX7, 6)) hK hY (hL 65 (by decide)) gk_65 (by decide) rfl) rfl rfl hl.1 rfl (lv_room (Nat.le_of_ble_eq_true rfl)) dX11_line_75 ⟨Nat.le_of_ble_eq_true rfl, Nat.le_of_ble_eq_true rfl⟩) ?_
  clear hY
  rintro _ H locs rfl hY
  cases h
  exact g_iret hx hb hr hlocks () hY.1 hY.2.1 hY.2.2 rfl rfl (Nat.le_of_ble_eq_true rfl) (Nat.le_of_ble_eq_true rfl) dX11_line_78
def fX11_line_38 (N : Nat) (σ : gS) (x1 : Int32) (x2 : Int32) (x3 : Int32) (xs0 : Int32) (xs1 : Int32) (xs2 : Int32) : Option (Int32 × gS) := (fX11_needRange N σ xs2 xs1 xs0).bind fun r_1 => if 12 ≤ (σ.1 70 1) then (fX11_line_61 N σ x1 x2 x3 0) else (fX11_line_61 N σ x1 x2 x3 1)
set_option maxRecDepth 100000 in
set_option maxHeartbeats 4000000 in
theorem wX11_line_38 {σ : gS} {x1 : Int32} {x2 : Int32} {x3 : Int32} {xs0 : Int32} {xs1 : Int32} {xs2 : Int32} (hx : p.tables.exec = Jvm.exec) (hb : c.code = cX11_line) (hr : meth.sig.returnType = (some .int)) (hml : c.maxLocals = 4) (hown : s.vm.findClass RX11 = some m.cls) (hg : ∀ w ∈ wsL_law, w.before args s = true) (hlocks : meth.locks = false) (hK : gK D y aS s) (hA : ∀ q, s.heap.size ≤ q → A q) (hL : ∀ k, k < 179 → k ∈ L) {H : Heap} {locs : List Loc} {ls : Array Slot} (hY : gY D y A s L ad σ H locs) (hl : lv_has ls 4 [(0, .ref (ad 0)), (1, .int x1), (2, .int x2), (3, .int x3)]) (h : fX11_line_38 N σ x1 x2 x3 xs0 xs1 xs2 = some res) : W p l e ({ frames := 2, cells := 0, slots := 0, locals := 45 } : Room) s m args below meth c H locs 0 0 (MQ below (va_Qi (fun (r : Int32) (_ : Unit) => r = res.1) (fun _ => gO D A (GW L y ad res.2)) A) args s 0 0 A) (F0 m 38 ls [.int xs0, .int xs1, .int xs2]) := by
  unfold fX11_line_38 at h
  obtain ⟨r_1, e_2, h⟩ := g_bind h
  refine G_av hY hA (va_runS (As := [.int xs2, .int xs1, .int xs0]) (rest := []) ⟨hx, hb, hml, hown, hg⟩ (kX11_needRange l D y aS H.size L hL ad N σ xs2 xs1 xs0 _ e_2) (va_cwS 3 hg ggS_RX11_133_X11_needRange rfl rfl rfl (by decide +kernel) ⟨Nat.le_of_ble_eq_true rfl, Nat.le_of_ble_eq_true rfl⟩) (G_pS hK hY) rfl rfl hl.1 rfl (lv_room (Nat.le_of_ble_eq_true rfl)) dX11_line_38 ⟨Nat.le_of_ble_eq_true rfl, Nat.le_of_ble_eq_true rfl⟩) ?_
  clear hY
  rintro H locs hY
  refine lv_aload_n hx hb dX11_line_41 rfl (lv_at hl 0 rfl) ?_
  refine G_get (ci := 11) (j := 1) (C := RX11) (T := TX11) (N := 19) (v := .ref (ad 65)) hx hb hg inlX11 hown hK hY (hL 0 (by decide)) gk_0 (by decide) rfl (by decide) tX11_1 (hg _ gw_20) rfl dX11_line_42 ?_
  refine G_get (ci := 7) (j := 2) (C := RX7) (T := TX7) (N := 6) (v := .ref (ad 70)) hx hb hg inlX7 hown hK hY (hL 65 (by decide)) gk_65 (by decide) rfl (by decide) tX7_2 (hg _ gw_665) rfl dX11_line_45 ?_
  refine G_get (ci := 8) (j := 1) (C := RX8) (T := TX8) (N := 2) (v := .int (σ.1 70 1)) hx hb hg inlX8 hown hK hY (hL 70 (by decide)) gk_70 (by decide) rfl (by decide) tX8_1 (hg _ gw_178) rfl dX11_line_48 ?_
  refine lv_bipush (v := 12) hx hb dX11_line_51 (by decide +kernel) ?_
  refine lv_icmp_ge (tgt := 60) hx hb dX11_line_53 (by decide) (fun z_3 => ?_) (fun z_3 => ?_)
  ·
    rw [if_pos z_3] at h
    refine lv_iconst (v := 0) hx hb dX11_line_60 (by decide) ?_
    exact wX11_line_61 hx hb hr hml hown hg hlocks hK hA hL hY (lv_sub hl [0, 1, 2, 3] rfl) h
  ·
    rw [if_neg z_3] at h
    refine lv_iconst (v := 1) hx hb dX11_line_56 (by decide) ?_
    refine lv_goto (tgt := 61) hx hb dX11_line_57 (by decide) ?_
    exact wX11_line_61 hx hb hr hml hown hg hlocks hK hA hL hY (lv_sub hl [0, 1, 2, 3] rfl) h
end
def fX11_line (N : Nat) (σ : gS) (x1 : Int32) (x2 : Int32) (x3 : Int32) : Option (Int32 × gS) := (fX11_needPlace N σ x1 (σ.1 65 5)).bind fun r_1 => (fX11_needRange N σ x2 (0 : Int32) (2 : Int32)).bind fun r_3 => if x2 = 0 then (fX11_line_38 N σ x1 x2 x3 0 0 x3) else (if x2 = 1 then (fX11_line_38 N σ x1 x2 x3 11 0 x3) else (fX11_line_38 N σ x1 x2 x3 2 0 x3))
set_option maxRecDepth 100000 in
set_option maxHeartbeats 4000000 in
theorem kX11_line (l : Launch) (D : va_G) (y : Nat → ClassId) (aS : Nat → Nat) (sz : Nat) (L : List Nat) (hL : ∀ k, k < 179 → k ∈ L) (ad : Nat → Nat) (N : Nat) (σ : gS) (x1 : Int32) (x2 : Int32) (x3 : Int32) (res : (Int32 × gS)) (h : fX11_line N σ x1 x2 x3 = some res) : Met l yX11_line (Cond.code yX11_line cX11_line 4 (some .int) :: wsL_law) ({ frames := 2, cells := 0, slots := 0, locals := 45 } : Room) (va_Pc [.ref (ad 0), .int x1, .int x2, .int x3] (gI D y aS (GW L y ad σ) sz)) (va_Qi (fun (r : Int32) (_ : Unit) => r = res.1) (fun _ => gO D (va_A (GW L y ad σ) sz) (GW L y ad res.2)) (va_A (GW L y ad σ) sz)) 0 0 (va_A (GW L y ad σ) sz) := by
  refine g_of (by decide) (Nat.le_of_ble_eq_true rfl) ?_
  intro p e s m below meth c ls A hx hb hr hml hown hg hlocks hin hsz hK hP hD hS hA hAe hl
  rw [← hAe]
  replace hown : s.vm.findClass RX11 = some m.cls := hown
  have hY : gY D y A s L ad σ s.heap [] := ⟨hP, hD, hS⟩
  clear hP hD hS
  replace hl : lv_has ls 4 [(0, .ref (ad 0)), (1, .int x1), (2, .int x2), (3, .int x3)] := hl
  unfold fX11_line at h
  refine lv_iload_n hx hb dX11_line_0 rfl (lv_at hl 1 rfl) ?_
  refine lv_aload_n hx hb dX11_line_1 rfl (lv_at hl 0 rfl) ?_
  refine G_get (ci := 11) (j := 1) (C := RX11) (T := TX11) (N := 19) (v := .ref (ad 65)) hx hb hg inlX11 hown hK hY (hL 0 (by decide)) gk_0 (by decide) rfl (by decide) tX11_1 (hg _ gw_20) rfl dX11_line_2 ?_
  refine G_get (ci := 7) (j := 5) (C := RX7) (T := TX7) (N := 6) (v := .int (σ.1 65 5)) hx hb hg inlX7 hown hK hY (hL 65 (by decide)) gk_65 (by decide) rfl (by decide) tX7_5 (hg _ gw_490) rfl dX11_line_5 ?_
  obtain ⟨r_1, e_2, h⟩ := g_bind h
  refine G_av hY hA (va_runS (As := [.int x1, .int (σ.1 65 5)]) (rest := []) ⟨hx, hb, hml, hown, hg⟩ (kX11_needPlace l D y aS s.heap.size L hL ad N σ x1 (σ.1 65 5) _ e_2) (va_cwS 2 hg ggS_RX11_106_X11_needPlace rfl rfl rfl (by decide +kernel) ⟨Nat.le_of_ble_eq_true rfl, Nat.le_of_ble_eq_true rfl⟩) (G_pS hK hY) rfl rfl hl.1 rfl (lv_room (Nat.le_of_ble_eq_true rfl)) dX11_line_8 ⟨Nat.le_of_ble_eq_true rfl, Nat.le_of_ble_eq_true rfl⟩) ?_
  clear hY
  rintro H locs hY
  refine lv_iload_n hx hb dX11_line_11 rfl (lv_at hl 2 rfl) ?_
  refine lv_iconst (v := 0) hx hb dX11_line_12 (by decide) ?_
  refine lv_iconst (v := 2) hx hb dX11_line_13 (by decide) ?_
  obtain ⟨r_3, e_4, h⟩ := g_bind h
  refine G_av hY hA (va_runS (As := [.int x2, .int 0, .int 2]) (rest := []) ⟨hx, hb, hml, hown, hg⟩ (kX11_needRange l D y aS H.size L hL ad N σ x2 (0 : Int32) (2 : Int32) _ e_4) (va_cwS 3 hg ggS_RX11_133_X11_needRange rfl rfl rfl (by decide +kernel) ⟨Nat.le_of_ble_eq_true rfl, Nat.le_of_ble_eq_true rfl⟩) (G_pS hK hY) rfl rfl hl.1 rfl (lv_room (Nat.le_of_ble_eq_true rfl)) dX11_line_14 ⟨Nat.le_of_ble_eq_true rfl, Nat.le_of_ble_eq_true rfl⟩) ?_
  clear hY
  rintro H locs hY
  refine lv_iload_n hx hb dX11_line_17 rfl (lv_at hl 3 rfl) ?_
  refine lv_iconst (v := 0) hx hb dX11_line_18 (by decide) ?_
  refine lv_iload_n hx hb dX11_line_19 rfl (lv_at hl 2 rfl) ?_
  refine lv_if_ne (tgt := 27) hx hb dX11_line_20 (by decide) (fun z_5 => ?_) (fun z_5 => ?_)
  ·
    rw [if_neg z_5] at h
    refine lv_iload_n hx hb dX11_line_27 rfl (lv_at hl 2 rfl) ?_
    refine lv_iconst (v := 1) hx hb dX11_line_28 (by decide) ?_
    refine lv_icmp_ne (tgt := 37) hx hb dX11_line_29 (by decide) (fun z_6 => ?_) (fun z_6 => ?_)
    ·
      rw [if_neg z_6] at h
      refine lv_iconst (v := 2) hx hb dX11_line_37 (by decide) ?_
      exact wX11_line_38 hx hb hr hml hown hg hlocks hK hA hL hY (lv_sub hl [0, 1, 2, 3] rfl) h
    ·
      rw [if_pos z_6] at h
      refine lv_bipush (v := 11) hx hb dX11_line_32 (by decide +kernel) ?_
      refine lv_goto (tgt := 38) hx hb dX11_line_34 (by decide) ?_
      exact wX11_line_38 hx hb hr hml hown hg hlocks hK hA hL hY (lv_sub hl [0, 1, 2, 3] rfl) h
  ·
    rw [if_pos z_5] at h
    refine lv_iconst (v := 0) hx hb dX11_line_23 (by decide) ?_
    refine lv_goto (tgt := 38) hx hb dX11_line_24 (by decide) ?_
    exact wX11_line_38 hx hb hr hml hown hg hlocks hK hA hL hY (lv_sub hl [0, 1, 2, 3] rfl) h
theorem ggV_RX11_261_X3_isInQuarantine : GoodIn wsL_law (wsV RX11 261 RX3 yX3_isInQuarantine (Cond.code yX3_isInQuarantine cX3_isInQuarantine 1 (some .boolean) :: wsL_law)) := g_gi (fun _ h => h) gW_good (List.forall_mem_cons.mpr ⟨⟨gw_529, rfl⟩, List.forall_mem_cons.mpr ⟨⟨gw_530, rfl⟩, List.forall_mem_cons.mpr ⟨⟨gw_531, rfl⟩, List.forall_mem_cons.mpr ⟨⟨gw_81, rfl⟩, fun _ h => nomatch h⟩⟩⟩⟩) ⟨gw_532, rfl⟩
section
variable {p : Program} {l : Launch} {e : Env} {s : State} {m : MethodId} {args : Array Value} {below : List Frame} {meth : Method} {c : Code} {D : va_G} {y : Nat → ClassId} {aS : Nat → Nat} {A : Nat → Prop} {L : List Nat} {ad : Nat → Nat} {N : Nat} {res : (Int32 × gS)}
end
def fX11_letBack (N : Nat) (σ : gS) (x1 : Int32) : Option (Int32 × gS) := (fX11_needPlace N σ x1 (σ.1 65 5)).bind fun r_1 => (fX7_at N σ x1).bind fun r_3 => (fX3_isInQuarantine N σ r_3).bind fun r_6 => (fX11_stir N (sI σ r_3 9 0)).bind fun r_8 => if ¬ (r_6 = 0 ∨ r_6 = 1) then none else (some (r_6, r_8))
set_option maxRecDepth 100000 in
set_option maxHeartbeats 4000000 in
theorem kX11_letBack (l : Launch) (D : va_G) (y : Nat → ClassId) (aS : Nat → Nat) (sz : Nat) (L : List Nat) (hL : ∀ k, k < 179 → k ∈ L) (ad : Nat → Nat) (N : Nat) (σ : gS) (x1 : Int32) (res : (Int32 × gS)) (h : fX11_letBack N σ x1 = some res) : Met l yX11_letBack (Cond.code yX11_letBack cX11_letBack 4 (some .boolean) :: wsL_law) ({ frames := 1, cells := 0, slots := 0, locals := 22 } : Room) (va_Pc [.ref (ad 0), .int x1] (gI D y aS (GW L y ad σ) sz)) (va_Qi (fun (r : Int32) (_ : Unit) => r = res.1) (fun _ => gO D (va_A (GW L y ad σ) sz) (GW L y ad res.2)) (va_A (GW L y ad σ) sz)) 0 0 (va_A (GW L y ad σ) sz) := by
  refine g_of (by decide) (Nat.le_of_ble_eq_true rfl) ?_
  intro p e s m below meth c ls A hx hb hr hml hown hg hlocks hin hsz hK hP hD hS hA hAe hl
  rw [← hAe]
  replace hown : s.vm.findClass RX11 = some m.cls := hown
  have hY : gY D y A s L ad σ s.heap [] := ⟨hP, hD, hS⟩
  clear hP hD hS
  replace hl : lv_has ls 4 [(0, .ref (ad 0)), (1, .int x1)] := hl
  unfold fX11_letBack at h
  refine lv_iload_n hx hb dX11_letBack_0 rfl (lv_at hl 1 rfl) ?_
  refine lv_aload_n hx hb dX11_letBack_1 rfl (lv_at hl 0 rfl) ?_
  refine G_get (ci := 11) (j := 1) (C := RX11) (T := TX11) (N := 19) (v := .ref (ad 65)) hx hb hg inlX11 hown hK hY (hL 0 (by decide)) gk_0 (by decide) rfl (by decide) tX11_1 (hg _ gw_20) rfl dX11_letBack_2 ?_
  refine G_get (ci := 7) (j := 5) (C := RX7) (T := TX7) (N := 6) (v := .int (σ.1 65 5)) hx hb hg inlX7 hown hK hY (hL 65 (by decide)) gk_65 (by decide) rfl (by decide) tX7_5 (hg _ gw_490) rfl dX11_letBack_5 ?_
  obtain ⟨r_1, e_2, h⟩ := g_bind h
  refine G_av hY hA (va_runS (As := [.int x1, .int (σ.1 65 5)]) (rest := []) ⟨hx, hb, hml, hown, hg⟩ (kX11_needPlace l D y aS s.heap.size L hL ad N σ x1 (σ.1 65 5) _ e_2) (va_cwS 2 hg ggS_RX11_106_X11_needPlace rfl rfl rfl (by decide +kernel) ⟨Nat.le_of_ble_eq_true rfl, Nat.le_of_ble_eq_true rfl⟩) (G_pS hK hY) rfl rfl hl.1 rfl (lv_room (Nat.le_of_ble_eq_true rfl)) dX11_letBack_8 ⟨Nat.le_of_ble_eq_true rfl, Nat.le_of_ble_eq_true rfl⟩) ?_
  clear hY
  rintro H locs hY
  refine lv_aload_n hx hb dX11_letBack_11 rfl (lv_at hl 0 rfl) ?_
  refine G_get (ci := 11) (j := 1) (C := RX11) (T := TX11) (N := 19) (v := .ref (ad 65)) hx hb hg inlX11 hown hK hY (hL 0 (by decide)) gk_0 (by decide) rfl (by decide) tX11_1 (hg _ gw_20) rfl dX11_letBack_12 ?_
  refine lv_iload_n hx hb dX11_letBack_15 rfl (lv_at hl 1 rfl) ?_
  obtain ⟨r_3, e_4, h⟩ := g_bind h
  refine G_ar hY hA (va_runV (As := [.int x1]) (rest := []) ⟨hx, hb, hml, hown, hg⟩ (kX7_at l D y aS H.size L hL ad N σ x1 _ e_4) (cwV 1 hg ggV_RX11_237_X7_at rfl rfl rfl (by decide +kernel) ⟨Nat.le_of_ble_eq_true rfl, Nat.le_of_ble_eq_true rfl⟩) (G_pV (q := (RX7, TX7, 6)) hK hY (hL 65 (by decide)) gk_65 (by decide) rfl) rfl rfl hl.1 rfl (lv_room (Nat.le_of_ble_eq_true rfl)) dX11_letBack_16 ⟨Nat.le_of_ble_eq_true rfl, Nat.le_of_ble_eq_true rfl⟩) ?_
  clear hY
  rintro H locs k_5 hY
  refine lv_astore_n (lv' := [(2, .ref (ad r_3)), (0, .ref (ad 0)), (1, .int x1)]) hx hb dX11_letBack_19 rfl hl (by decide) rfl ?_
  clear hl
  intro ls hl
  refine lv_aload_n hx hb dX11_letBack_20 rfl (lv_at hl 0 rfl) ?_
  obtain ⟨r_6, e_7, h⟩ := g_bind h
  refine G_ai hY hA (va_runV (As := []) (rest := []) ⟨hx, hb, hml, hown, hg⟩ (kX3_isInQuarantine l D y aS H.size L hL ad N σ r_3 _ k_5 e_7) (cwV 0 hg ggV_RX11_261_X3_isInQuarantine rfl rfl rfl (by decide +kernel) ⟨Nat.le_of_ble_eq_true rfl, Nat.le_of_ble_eq_true rfl⟩) (G_pV (q := (RX3, TX3, 10)) hK hY (hL _ (gcl_lt k_5 (by decide))) k_5 (by decide) rfl) rfl rfl hl.1 rfl (lv_room (Nat.le_of_ble_eq_true rfl)) dX11_letBack_21 ⟨Nat.le_of_ble_eq_true rfl, Nat.le_of_ble_eq_true rfl⟩) ?_
  clear hY
  rintro _ H locs rfl hY
  refine lv_istore_n (lv' := [(3, .int r_6), (2, .ref (ad r_3)), (0, .ref (ad 0)), (1, .int x1)]) hx hb dX11_letBack_24 rfl hl (by decide) rfl ?_
  clear hl
  intro ls hl
  refine lv_aload_n hx hb dX11_letBack_25 rfl (lv_at hl 1 rfl) ?_
  refine lv_iconst (v := 0) hx hb dX11_letBack_26 (by decide) ?_
  refine G_putI (ci := 3) (j := 9) (C := RX3) (T := TX3) (N := 10) (v := 0) (ty := .int) hx hb hg inlX3 tyX3 tyX3_ok nmX3 hown hK hY (hL _ (gcl_lt k_5 (by decide))) k_5 (by decide) rfl (by decide) tX3_9 (hg _ gw_524) (by decide +kernel) rfl rfl (fun _ _ => rfl) (fun _ _ => Nat.le_of_ble_eq_true rfl) dX11_letBack_27 ?_
  clear hY
  intro H locs hY
  refine lv_aload_n hx hb dX11_letBack_30 rfl (lv_at hl 2 rfl) ?_
  obtain ⟨r_8, e_9, h⟩ := g_bind h
  refine G_av hY hA (va_runV (As := []) (rest := []) ⟨hx, hb, hml, hown, hg⟩ (kX11_stir l D y aS H.size L hL ad N (sI σ r_3 9 0) _ e_9) (cwV 0 hg ggV_RX11_230_X11_stir rfl rfl rfl (by decide +kernel) ⟨Nat.le_of_ble_eq_true rfl, Nat.le_of_ble_eq_true rfl⟩) (G_pV (q := (RX11, TX11, 19)) hK hY (hL 0 (by decide)) gk_0 (by decide) rfl) rfl rfl hl.1 rfl (lv_room (Nat.le_of_ble_eq_true rfl)) dX11_letBack_31 ⟨Nat.le_of_ble_eq_true rfl, Nat.le_of_ble_eq_true rfl⟩) ?_
  clear hY
  rintro H locs hY
  refine lv_iload_n hx hb dX11_letBack_34 rfl (lv_at hl 0 rfl) ?_
  obtain ⟨z_10, h⟩ := g_guard h
  cases h
  exact g_iret hx hb hr hlocks () hY.1 hY.2.1 hY.2.2 (g_nz (Classical.not_not.mp z_10)) rfl (Nat.le_of_ble_eq_true rfl) (Nat.le_of_ble_eq_true rfl) dX11_letBack_35
section
variable {p : Program} {l : Launch} {e : Env} {s : State} {m : MethodId} {args : Array Value} {below : List Frame} {meth : Method} {c : Code} {D : va_G} {y : Nat → ClassId} {aS : Nat → Nat} {A : Nat → Prop} {L : List Nat} {ad : Nat → Nat} {N : Nat} {res : (Int32 × gS)}
end
def fX11_batches (N : Nat) (σ : gS) (x1 : Int32) (x2 : Int32) : Option (Int32 × gS) := (fX11_needRange N σ x1 (1 : Int32) (8 : Int32)).bind fun r_1 => (fX11_needRange N σ x2 (1 : Int32) (4 : Int32)).bind fun r_3 => (fX11_stir N (sI (sI σ 109 0 x1) 109 1 x2)).bind fun r_5 => some (((10 * (σ.1 109 0)) + (σ.1 109 1)), r_5)
set_option maxRecDepth 100000 in
set_option maxHeartbeats 4000000 in
theorem kX11_batches (l : Launch) (D : va_G) (y : Nat → ClassId) (aS : Nat → Nat) (sz : Nat) (L : List Nat) (hL : ∀ k, k < 179 → k ∈ L) (ad : Nat → Nat) (N : Nat) (σ : gS) (x1 : Int32) (x2 : Int32) (res : (Int32 × gS)) (h : fX11_batches N σ x1 x2 = some res) : Met l yX11_batches (Cond.code yX11_batches cX11_batches 4 (some .int) :: wsL_law) ({ frames := 1, cells := 0, slots := 0, locals := 22 } : Room) (va_Pc [.ref (ad 0), .int x1, .int x2] (gI D y aS (GW L y ad σ) sz)) (va_Qi (fun (r : Int32) (_ : Unit) => r = res.1) (fun _ => gO D (va_A (GW L y ad σ) sz) (GW L y ad res.2)) (va_A (GW L y ad σ) sz)) 0 0 (va_A (GW L y ad σ) sz) := by
  refine g_of (by decide) (Nat.le_of_ble_eq_true rfl) ?_
  intro p e s m below meth c ls A hx hb hr hml hown hg hlocks hin hsz hK hP hD hS hA hAe hl
  rw [← hAe]
  replace hown : s.vm.findClass RX11 = some m.cls := hown
  have hY : gY D y A s L ad σ s.heap [] := ⟨hP, hD, hS⟩
  clear hP hD hS
  replace hl : lv_has ls 4 [(0, .ref (ad 0)), (1, .int x1), (2, .int x2)] := hl
  unfold fX11_batches at h
  refine lv_iload_n hx hb dX11_batches_0 rfl (lv_at hl 1 rfl) ?_
  refine lv_iconst (v := 1) hx hb dX11_batches_1 (by decide) ?_
  refine lv_bipush (v := 8) hx hb dX11_batches_2 (by decide +kernel) ?_
  obtain ⟨r_1, e_2, h⟩ := g_bind h
  refine G_av hY hA (va_runS (As := [.int x1, .int 1, .int 8]) (rest := []) ⟨hx, hb, hml, hown, hg⟩ (kX11_needRange l D y aS s.heap.size L hL ad N σ x1 (1 : Int32) (8 : Int32) _ e_2) (va_cwS 3 hg ggS_RX11_133_X11_needRange rfl rfl rfl (by decide +kernel) ⟨Nat.le_of_ble_eq_true rfl, Nat.le_of_ble_eq_true rfl⟩) (G_pS hK hY) rfl rfl hl.1 rfl (lv_room (Nat.le_of_ble_eq_true rfl)) dX11_batches_4 ⟨Nat.le_of_ble_eq_true rfl, Nat.le_of_ble_eq_true rfl⟩) ?_
  clear hY
  rintro H locs hY
  refine lv_iload_n hx hb dX11_batches_7 rfl (lv_at hl 2 rfl) ?_
  refine lv_iconst (v := 1) hx hb dX11_batches_8 (by decide) ?_
  refine lv_iconst (v := 4) hx hb dX11_batches_9 (by decide) ?_
  obtain ⟨r_3, e_4, h⟩ := g_bind h
  refine G_av hY hA (va_runS (As := [.int x2, .int 1, .int 4]) (rest := []) ⟨hx, hb, hml, hown, hg⟩ (kX11_needRange l D y aS H.size L hL ad N σ x2 (1 : Int32) (4 : Int32) _ e_4) (va_cwS 3 hg ggS_RX11_133_X11_needRange rfl rfl rfl (by decide +kernel) ⟨Nat.le_of_ble_eq_true rfl, Nat.le_of_ble_eq_true rfl⟩) (G_pS hK hY) rfl rfl hl.1 rfl (lv_room (Nat.le_of_ble_eq_true rfl)) dX11_batches_10 ⟨Nat.le_of_ble_eq_true rfl, Nat.le_of_ble_eq_true rfl⟩) ?_
  clear hY
  rintro H locs hY
  refine lv_bipush (v := 10) hx hb dX11_batches_13 (by decide +kernel) ?_
  refine lv_aload_n hx hb dX11_batches_15 rfl (lv_at hl 0 rfl) ?_
  refine G_get (ci := 11) (j := 3) (C := RX11) (T := TX11) (N := 19) (v := .ref (ad 109)) hx hb hg inlX11 hown hK hY (hL 0 (by decide)) gk_0 (by decide) rfl (by decide) tX11_3 (hg _ gw_28) rfl dX11_batches_16 ?_
  refine G_get (ci := 4) (j := 0) (C := RX4) (T := TX4) (N := 9) (v := .int (σ.1 109 0)) hx hb hg inlX4 hown hK hY (hL 109 (by decide)) gk_109 (by decide) rfl (by decide) tX4_0 (hg _ gw_679) rfl dX11_batches_19 ?_
  refine lv_imul hx hb dX11_batches_22 ?_
  refine lv_aload_n hx hb dX11_batches_23 rfl (lv_at hl 0 rfl) ?_
  refine G_get (ci := 11) (j := 3) (C := RX11) (T := TX11) (N := 19) (v := .ref (ad 109)) hx hb hg inlX11 hown hK hY (hL 0 (by decide)) gk_0 (by decide) rfl (by decide) tX11_3 (hg _ gw_28) rfl dX11_batches_24 ?_
  refine G_get (ci := 4) (j := 1) (C := RX4) (T := TX4) (N := 9) (v := .int (σ.1 109 1)) hx hb hg inlX4 hown hK hY (hL 109 (by decide)) gk_109 (by decide) rfl (by decide) tX4_1 (hg _ gw_680) rfl dX11_batches_27 ?_
  refine lv_iadd hx hb dX11_batches_30 ?_
  refine lv_istore_n (lv' := [(3, .int ((10 * (σ.1 109 0)) + (σ.1 109 1))), (0, .ref (ad 0)), (1, .int x1), (2, .int x2)]) hx hb dX11_batches_31 rfl hl (by decide) rfl ?_
  clear hl
  intro ls hl
  refine lv_aload_n hx hb dX11_batches_32 rfl (lv_at hl 1 rfl) ?_
  refine G_get (ci := 11) (j := 3) (C := RX11) (T := TX11) (N := 19) (v := .ref (ad 109)) hx hb hg inlX11 hown hK hY (hL 0 (by decide)) gk_0 (by decide) rfl (by decide) tX11_3 (hg _ gw_28) rfl dX11_batches_33 ?_
  refine lv_iload_n hx hb dX11_batches_36 rfl (lv_at hl 2 rfl) ?_
  refine G_putI (ci := 4) (j := 0) (C := RX4) (T := TX4) (N := 9) (v := x1) (ty := .int) hx hb hg inlX4 tyX4 tyX4_ok nmX4 hown hK hY (hL 109 (by decide)) gk_109 (by decide) rfl (by decide) tX4_0 (hg _ gw_679) (by decide +kernel) rfl rfl (fun _ _ => rfl) (fun _ _ => Nat.le_of_ble_eq_true rfl) dX11_batches_37 ?_
  clear hY
  intro H locs hY
  refine lv_aload_n hx hb dX11_batches_40 rfl (lv_at hl 1 rfl) ?_
  refine G_get (ci := 11) (j := 3) (C := RX11) (T := TX11) (N := 19) (v := .ref (ad 109)) hx hb hg inlX11 hown hK hY (hL 0 (by decide)) gk_0 (by decide) rfl (by decide) tX11_3 (hg _ gw_28) rfl dX11_batches_41 ?_
  refine lv_iload_n hx hb dX11_batches_44 rfl (lv_at hl 3 rfl) ?_
  refine G_putI (ci := 4) (j := 1) (C := RX4) (T := TX4) (N := 9) (v := x2) (ty := .int) hx hb hg inlX4 tyX4 tyX4_ok nmX4 hown hK hY (hL 109 (by decide)) gk_109 (by decide) rfl (by decide) tX4_1 (hg _ gw_680) (by decide +kernel) rfl rfl (fun _ _ => rfl) (fun _ _ => Nat.le_of_ble_eq_true rfl) dX11_batches_45 ?_
  clear hY
  intro H locs hY
  refine lv_aload_n hx hb dX11_batches_48 rfl (lv_at hl 1 rfl) ?_
  obtain ⟨r_5, e_6, h⟩ := g_bind h
  refine G_av hY hA (va_runV (As := []) (rest := []) ⟨hx, hb, hml, hown, hg⟩ (kX11_stir l D y aS H.size L hL ad N (sI (sI σ 109 0 x1) 109 1 x2) _ e_6) (cwV 0 hg ggV_RX11_230_X11_stir rfl rfl rfl (by decide +kernel) ⟨Nat.le_of_ble_eq_true rfl, Nat.le_of_ble_eq_true rfl⟩) (G_pV (q := (RX11, TX11, 19)) hK hY (hL 0 (by decide)) gk_0 (by decide) rfl) rfl rfl hl.1 rfl (lv_room (Nat.le_of_ble_eq_true rfl)) dX11_batches_49 ⟨Nat.le_of_ble_eq_true rfl, Nat.le_of_ble_eq_true rfl⟩) ?_
  clear hY
  rintro H locs hY
  refine lv_iload_n hx hb dX11_batches_52 rfl (lv_at hl 0 rfl) ?_
  cases h
  exact g_iret hx hb hr hlocks () hY.1 hY.2.1 hY.2.2 rfl rfl (Nat.le_of_ble_eq_true rfl) (Nat.le_of_ble_eq_true rfl) dX11_batches_53
section
variable {p : Program} {l : Launch} {e : Env} {s : State} {m : MethodId} {args : Array Value} {below : List Frame} {meth : Method} {c : Code} {D : va_G} {y : Nat → ClassId} {aS : Nat → Nat} {A : Nat → Prop} {L : List Nat} {ad : Nat → Nat} {N : Nat} {res : Nat}
def fX11_machineAt_26 (N : Nat) (σ : gS) : Option Nat := some 150
set_option maxRecDepth 100000 in
set_option maxHeartbeats 4000000 in
theorem wX11_machineAt_26 {σ : gS} (hx : p.tables.exec = Jvm.exec) (hb : c.code = cX11_machineAt) (hr : meth.sig.returnType = (some (.object "Greentrunk$Machine"))) (hml : c.maxLocals = 3) (hown : s.vm.findClass RX11 = some m.cls) (hg : ∀ w ∈ wsL_law, w.before args s = true) (hlocks : meth.locks = false) (hK : gK D y aS s) (hA : ∀ q, s.heap.size ≤ q → A q) (hL : ∀ k, k < 179 → k ∈ L) {H : Heap} {locs : List Loc} {ls : Array Slot} (hY : gY D y A s L ad σ H locs) (hl : lv_has ls 3 [(0, .ref (ad 0))]) (h : fX11_machineAt_26 N σ = some res) : W p l e ({ frames := 0, cells := 0, slots := 0, locals := 0 } : Room) s m args below meth c H locs 0 0 (MQ below (va_Qr (fun (_ : Unit) => gcl res = 6) (fun u b t => b = (fun _ : Unit => ad res) u ∧ gO D A (GW L y ad σ) t) A) args s 0 0 A) (F0 m 26 ls []) := by
  unfold fX11_machineAt_26 at h
  refine lv_aload_n hx hb dX11_machineAt_26 rfl (lv_at hl 0 rfl) ?_
  refine G_get (ci := 11) (j := 8) (C := RX11) (T := TX11) (N := 19) (v := .ref (ad 150)) hx hb hg inlX11 hown hK hY (hL 0 (by decide)) gk_0 (by decide) rfl (by decide) tX11_8 (hg _ gw_45) rfl dX11_machineAt_27 ?_
  cases h
  exact g_aret hx hb hr hlocks () hY.1 hY.2.1 hY.2.2 rfl gk_150 (Nat.le_of_ble_eq_true rfl) (Nat.le_of_ble_eq_true rfl) dX11_machineAt_30
end
def fX11_machineAt (N : Nat) (σ : gS) (x1 : Int32) : Option Nat := if x1 < 0 then (fX11_machineAt_26 N σ) else (if 6 ≤ x1 then (fX11_machineAt_26 N σ) else (if x1 < 0 ∨ 6 ≤ x1.toNatClampNeg then none else (some (144 + x1.toNatClampNeg))))
set_option maxRecDepth 100000 in
set_option maxHeartbeats 4000000 in
theorem kX11_machineAt (l : Launch) (D : va_G) (y : Nat → ClassId) (aS : Nat → Nat) (sz : Nat) (L : List Nat) (hL : ∀ k, k < 179 → k ∈ L) (ad : Nat → Nat) (N : Nat) (σ : gS) (x1 : Int32) (res : Nat) (h : fX11_machineAt N σ x1 = some res) : Met l yX11_machineAt (Cond.code yX11_machineAt cX11_machineAt 3 (some (.object "Greentrunk$Machine")) :: wsL_law) ({ frames := 0, cells := 0, slots := 0, locals := 0 } : Room) (va_Pc [.ref (ad 0), .int x1] (gI D y aS (GW L y ad σ) sz)) (va_Qr (fun (_ : Unit) => gcl res = 6) (fun u b t => b = (fun _ : Unit => ad res) u ∧ gO D (va_A (GW L y ad σ) sz) (GW L y ad σ) t) (va_A (GW L y ad σ) sz)) 0 0 (va_A (GW L y ad σ) sz) := by
  refine g_of (by decide) (Nat.le_of_ble_eq_true rfl) ?_
  intro p e s m below meth c ls A hx hb hr hml hown hg hlocks hin hsz hK hP hD hS hA hAe hl
  rw [← hAe]
  replace hown : s.vm.findClass RX11 = some m.cls := hown
  have hY : gY D y A s L ad σ s.heap [] := ⟨hP, hD, hS⟩
  clear hP hD hS
  replace hl : lv_has ls 3 [(0, .ref (ad 0)), (1, .int x1)] := hl
  unfold fX11_machineAt at h
  refine lv_iload_n hx hb dX11_machineAt_0 rfl (lv_at hl 1 rfl) ?_
  refine lv_if_lt (tgt := 26) hx hb dX11_machineAt_1 (by decide) (fun z_1 => ?_) (fun z_1 => ?_)
  ·
    rw [if_pos z_1] at h
    exact wX11_machineAt_26 hx hb hr hml hown hg hlocks hK hA hL hY (lv_sub hl [0] rfl) h
  ·
    rw [if_neg z_1] at h
    refine lv_iload_n hx hb dX11_machineAt_4 rfl (lv_at hl 1 rfl) ?_
    refine lv_aload_n hx hb dX11_machineAt_5 rfl (lv_at hl 0 rfl) ?_
    refine G_get (ci := 11) (j := 7) (C := RX11) (T := TX11) (N := 19) (v := .ref (ad 143)) hx hb hg inlX11 hown hK hY (hL 0 (by decide)) gk_0 (by decide) rfl (by decide) tX11_7 (hg _ gw_42) rfl dX11_machineAt_6 ?_
    refine G_alen25 hx hb hK hY (hL 143 (by decide)) gk_143 dX11_machineAt_9 ?_
    refine lv_icmp_ge (tgt := 26) hx hb dX11_machineAt_10 (by decide) (fun z_2 => ?_) (fun z_2 => ?_)
    ·
      rw [if_pos z_2] at h
      exact wX11_machineAt_26 hx hb hr hml hown hg hlocks hK hA hL hY (lv_sub hl [0] rfl) h
    ·
      rw [if_neg z_2] at h
      refine lv_aload_n hx hb dX11_machineAt_13 rfl (lv_at hl 0 rfl) ?_
      refine G_get (ci := 11) (j := 7) (C := RX11) (T := TX11) (N := 19) (v := .ref (ad 143)) hx hb hg inlX11 hown hK hY (hL 0 (by decide)) gk_0 (by decide) rfl (by decide) tX11_7 (hg _ gw_42) rfl dX11_machineAt_14 ?_
      refine lv_iload_n hx hb dX11_machineAt_17 rfl (lv_at hl 1 rfl) ?_
      obtain ⟨z_3, h⟩ := g_guard h
      refine G_aald25 (j := x1.toNatClampNeg) hx hb hK hY (hL 143 (by decide)) gk_143 z_3 rfl dX11_machineAt_18 ?_
      refine lv_astore_n (lv' := [(2, .ref (ad (144 + x1.toNatClampNeg))), (0, .ref (ad 0)), (1, .int x1)]) hx hb dX11_machineAt_19 rfl hl (by decide) rfl ?_
      clear hl
      intro ls hl
      refine lv_aload_n hx hb dX11_machineAt_20 rfl (lv_at hl 0 rfl) ?_
      refine lv_ifnull hx hb dX11_machineAt_21 ?_
      refine lv_aload_n hx hb dX11_machineAt_24 rfl (lv_at hl 0 rfl) ?_
      cases h
      exact g_aret hx hb hr hlocks () hY.1 hY.2.1 hY.2.2 rfl (gc_25 z_3 rfl) (Nat.le_of_ble_eq_true rfl) (Nat.le_of_ble_eq_true rfl) dX11_machineAt_25
theorem ggV_RX11_273_X11_machineAt : GoodIn wsL_law (wsV RX11 273 RX11 yX11_machineAt (Cond.code yX11_machineAt cX11_machineAt 3 (some (.object "Greentrunk$Machine")) :: wsL_law)) := g_gi (fun _ h => h) gW_good (List.forall_mem_cons.mpr ⟨⟨gw_547, rfl⟩, List.forall_mem_cons.mpr ⟨⟨gw_548, rfl⟩, List.forall_mem_cons.mpr ⟨⟨gw_549, rfl⟩, List.forall_mem_cons.mpr ⟨⟨gw_2, rfl⟩, fun _ h => nomatch h⟩⟩⟩⟩) ⟨gw_550, rfl⟩
section
variable {p : Program} {l : Launch} {e : Env} {s : State} {m : MethodId} {args : Array Value} {below : List Frame} {meth : Method} {c : Code} {D : va_G} {y : Nat → ClassId} {aS : Nat → Nat} {A : Nat → Prop} {L : List Nat} {ad : Nat → Nat} {N : Nat} {res : (Int32 × gS)}
def fX11_come_35 (N : Nat) (σ : gS) (xs0 : Int32) : Option (Int32 × gS) := if ¬ (xs0 = 0 ∨ xs0 = 1) then none else (some (xs0, σ))
set_option maxRecDepth 100000 in
set_option maxHeartbeats 4000000 in
theorem wX11_come_35 {σ : gS} {xs0 : Int32} (hx : p.tables.exec = Jvm.exec) (hb : c.code = cX11_come) (hr : meth.sig.returnType = (some .boolean)) (hml : c.maxLocals = 4) (hown : s.vm.findClass RX11 = some m.cls) (hg : ∀ w ∈ wsL_law, w.before args s = true) (hlocks : meth.locks = false) (hK : gK D y aS s) (hA : ∀ q, s.heap.size ≤ q → A q) (hL : ∀ k, k < 179 → k ∈ L) {H : Heap} {locs : List Loc} {ls : Array Slot} (hY : gY D y A s L ad σ H locs) (hl : lv_has ls 4 []) (h : fX11_come_35 N σ xs0 = some res) : W p l e ({ frames := 1, cells := 0, slots := 0, locals := 22 } : Room) s m args below meth c H locs 0 0 (MQ below (va_Qi (fun (r : Int32) (_ : Unit) => r = res.1) (fun _ => gO D A (GW L y ad res.2)) A) args s 0 0 A) (F0 m 35 ls [.int xs0]) := by
  unfold fX11_come_35 at h
  obtain ⟨z_1, h⟩ := g_guard h
  cases h
  exact g_iret hx hb hr hlocks () hY.1 hY.2.1 hY.2.2 (g_nz (Classical.not_not.mp z_1)) rfl (Nat.le_of_ble_eq_true rfl) (Nat.le_of_ble_eq_true rfl) dX11_come_35
end
def fX11_come (N : Nat) (σ : gS) (x1 : Int32) : Option (Int32 × gS) := (fX11_needPlace N σ x1 (6 : Int32)).bind fun r_1 => (fX11_machineAt N σ x1).bind fun r_3 => (fX11_stir N (sI σ r_3 0 1)).bind fun r_6 => if (σ.1 r_3 0) = 0 then (fX11_come_35 N r_6 1) else (fX11_come_35 N r_6 0)
set_option maxRecDepth 100000 in
set_option maxHeartbeats 4000000 in
theorem kX11_come (l : Launch) (D : va_G) (y : Nat → ClassId) (aS : Nat → Nat) (sz : Nat) (L : List Nat) (hL : ∀ k, k < 179 → k ∈ L) (ad : Nat → Nat) (N : Nat) (σ : gS) (x1 : Int32) (res : (Int32 × gS)) (h : fX11_come N σ x1 = some res) : Met l yX11_come (Cond.code yX11_come cX11_come 4 (some .boolean) :: wsL_law) ({ frames := 1, cells := 0, slots := 0, locals := 22 } : Room) (va_Pc [.ref (ad 0), .int x1] (gI D y aS (GW L y ad σ) sz)) (va_Qi (fun (r : Int32) (_ : Unit) => r = res.1) (fun _ => gO D (va_A (GW L y ad σ) sz) (GW L y ad res.2)) (va_A (GW L y ad σ) sz)) 0 0 (va_A (GW L y ad σ) sz) := by
  refine g_of (by decide) (Nat.le_of_ble_eq_true rfl) ?_
  intro p e s m below meth c ls A hx hb hr hml hown hg hlocks hin hsz hK hP hD hS hA hAe hl
  rw [← hAe]
  replace hown : s.vm.findClass RX11 = some m.cls := hown
  have hY : gY D y A s L ad σ s.heap [] := ⟨hP, hD, hS⟩
  clear hP hD hS
  replace hl : lv_has ls 4 [(0, .ref (ad 0)), (1, .int x1)] := hl
  unfold fX11_come at h
  refine lv_iload_n hx hb dX11_come_0 rfl (lv_at hl 1 rfl) ?_
  refine lv_bipush (v := 6) hx hb dX11_come_1 (by decide +kernel) ?_
  obtain ⟨r_1, e_2, h⟩ := g_bind h
  refine G_av hY hA (va_runS (As := [.int x1, .int 6]) (rest := []) ⟨hx, hb, hml, hown, hg⟩ (kX11_needPlace l D y aS s.heap.size L hL ad N σ x1 (6 : Int32) _ e_2) (va_cwS 2 hg ggS_RX11_106_X11_needPlace rfl rfl rfl (by decide +kernel) ⟨Nat.le_of_ble_eq_true rfl, Nat.le_of_ble_eq_true rfl⟩) (G_pS hK hY) rfl rfl hl.1 rfl (lv_room (Nat.le_of_ble_eq_true rfl)) dX11_come_3 ⟨Nat.le_of_ble_eq_true rfl, Nat.le_of_ble_eq_true rfl⟩) ?_
  clear hY
  rintro H locs hY
  refine lv_aload_n hx hb dX11_come_6 rfl (lv_at hl 0 rfl) ?_
  refine lv_iload_n hx hb dX11_come_7 rfl (lv_at hl 1 rfl) ?_
  obtain ⟨r_3, e_4, h⟩ := g_bind h
  refine G_ar hY hA (va_runV (As := [.int x1]) (rest := []) ⟨hx, hb, hml, hown, hg⟩ (kX11_machineAt l D y aS H.size L hL ad N σ x1 _ e_4) (cwV 1 hg ggV_RX11_273_X11_machineAt rfl rfl rfl (by decide +kernel) ⟨Nat.le_of_ble_eq_true rfl, Nat.le_of_ble_eq_true rfl⟩) (G_pV (q := (RX11, TX11, 19)) hK hY (hL 0 (by decide)) gk_0 (by decide) rfl) rfl rfl hl.1 rfl (lv_room (Nat.le_of_ble_eq_true rfl)) dX11_come_8 ⟨Nat.le_of_ble_eq_true rfl, Nat.le_of_ble_eq_true rfl⟩) ?_
  clear hY
  rintro H locs k_5 hY
  refine lv_astore_n (lv' := [(2, .ref (ad r_3)), (0, .ref (ad 0)), (1, .int x1)]) hx hb dX11_come_11 rfl hl (by decide) rfl ?_
  clear hl
  intro ls hl
  refine lv_aload_n hx hb dX11_come_12 rfl (lv_at hl 0 rfl) ?_
  refine G_get (ci := 6) (j := 0) (C := RX6) (T := TX6) (N := 6) (v := .int (σ.1 r_3 0)) hx hb hg inlX6 hown hK hY (hL _ (gcl_lt k_5 (by decide))) k_5 (by decide) rfl (by decide) tX6_0 (hg _ gw_685) rfl dX11_come_13 ?_
  refine lv_istore_n (lv' := [(3, .int (σ.1 r_3 0)), (2, .ref (ad r_3)), (0, .ref (ad 0)), (1, .int x1)]) hx hb dX11_come_16 rfl hl (by decide) rfl ?_
  clear hl
  intro ls hl
  refine lv_aload_n hx hb dX11_come_17 rfl (lv_at hl 1 rfl) ?_
  refine lv_iconst (v := 1) hx hb dX11_come_18 (by decide) ?_
  refine G_putI (ci := 6) (j := 0) (C := RX6) (T := TX6) (N := 6) (v := 1) (ty := .boolean) hx hb hg inlX6 tyX6 tyX6_ok nmX6 hown hK hY (hL _ (gcl_lt k_5 (by decide))) k_5 (by decide) rfl (by decide) tX6_0 (hg _ gw_685) (by decide +kernel) rfl rfl (fun _ _ => rfl) (fun _ _ => Nat.le_of_ble_eq_true rfl) dX11_come_19 ?_
  clear hY
  intro H locs hY
  refine lv_aload_n hx hb dX11_come_22 rfl (lv_at hl 2 rfl) ?_
  obtain ⟨r_6, e_7, h⟩ := g_bind h
  refine G_av hY hA (va_runV (As := []) (rest := []) ⟨hx, hb, hml, hown, hg⟩ (kX11_stir l D y aS H.size L hL ad N (sI σ r_3 0 1) _ e_7) (cwV 0 hg ggV_RX11_230_X11_stir rfl rfl rfl (by decide +kernel) ⟨Nat.le_of_ble_eq_true rfl, Nat.le_of_ble_eq_true rfl⟩) (G_pV (q := (RX11, TX11, 19)) hK hY (hL 0 (by decide)) gk_0 (by decide) rfl) rfl rfl hl.1 rfl (lv_room (Nat.le_of_ble_eq_true rfl)) dX11_come_23 ⟨Nat.le_of_ble_eq_true rfl, Nat.le_of_ble_eq_true rfl⟩) ?_
  clear hY
  rintro H locs hY
  refine lv_iload_n hx hb dX11_come_26 rfl (lv_at hl 0 rfl) ?_
  refine lv_if_ne (tgt := 34) hx hb dX11_come_27 (by decide) (fun z_8 => ?_) (fun z_8 => ?_)
  ·
    rw [if_neg z_8] at h
    refine lv_iconst (v := 0) hx hb dX11_come_34 (by decide) ?_
    exact wX11_come_35 hx hb hr hml hown hg hlocks hK hA hL hY (lv_sub hl [] rfl) h
  ·
    rw [if_pos z_8] at h
    refine lv_iconst (v := 1) hx hb dX11_come_30 (by decide) ?_
    refine lv_goto (tgt := 35) hx hb dX11_come_31 (by decide) ?_
    exact wX11_come_35 hx hb hr hml hown hg hlocks hK hA hL hY (lv_sub hl [] rfl) h
theorem ggV_RX11_283_X6_leave : GoodIn wsL_law (wsV RX11 283 RX6 yX6_leave (Cond.code yX6_leave cX6_leave 1 none :: wsL_law)) := g_gi (fun _ h => h) gW_good (List.forall_mem_cons.mpr ⟨⟨gw_690, rfl⟩, List.forall_mem_cons.mpr ⟨⟨gw_691, rfl⟩, List.forall_mem_cons.mpr ⟨⟨gw_692, rfl⟩, List.forall_mem_cons.mpr ⟨⟨gw_44, rfl⟩, fun _ h => nomatch h⟩⟩⟩⟩) ⟨gw_693, rfl⟩
section
variable {p : Program} {l : Launch} {e : Env} {s : State} {m : MethodId} {args : Array Value} {below : List Frame} {meth : Method} {c : Code} {D : va_G} {y : Nat → ClassId} {aS : Nat → Nat} {A : Nat → Prop} {L : List Nat} {ad : Nat → Nat} {N : Nat} {res : (Int32 × gS)}
def fX11_vanish_25 (N : Nat) (σ : gS) (r2 : Nat) (xs0 : Int32) : Option (Int32 × gS) := (fX6_leave N σ r2).bind fun r_1 => (fX11_stir N r_1).bind fun r_3 => if ¬ (xs0 = 0 ∨ xs0 = 1) then none else (some (xs0, r_3))
set_option maxRecDepth 100000 in
set_option maxHeartbeats 4000000 in
theorem wX11_vanish_25 {σ : gS} {r2 : Nat} {xs0 : Int32} (hx : p.tables.exec = Jvm.exec) (hb : c.code = cX11_vanish) (hr : meth.sig.returnType = (some .boolean)) (hml : c.maxLocals = 4) (hown : s.vm.findClass RX11 = some m.cls) (hg : ∀ w ∈ wsL_law, w.before args s = true) (hlocks : meth.locks = false) (hK : gK D y aS s) (hA : ∀ q, s.heap.size ≤ q → A q) (hL : ∀ k, k < 179 → k ∈ L) (hr2 : gcl r2 = 6) {H : Heap} {locs : List Loc} {ls : Array Slot} (hY : gY D y A s L ad σ H locs) (hl : lv_has ls 4 [(0, .ref (ad 0)), (2, .ref (ad r2))]) (h : fX11_vanish_25 N σ r2 xs0 = some res) : W p l e ({ frames := 1, cells := 0, slots := 0, locals := 22 } : Room) s m args below meth c H locs 0 0 (MQ below (va_Qi (fun (r : Int32) (_ : Unit) => r = res.1) (fun _ => gO D A (GW L y ad res.2)) A) args s 0 0 A) (F0 m 25 ls [.int xs0]) := by
  unfold fX11_vanish_25 at h
  refine lv_istore_n (lv' := [(3, .int xs0), (0, .ref (ad 0)), (2, .ref (ad r2))]) hx hb dX11_vanish_25 rfl hl (by decide) rfl ?_
  clear hl
  intro ls hl
  refine lv_aload_n hx hb dX11_vanish_26 rfl (lv_at hl 2 rfl) ?_
  obtain ⟨r_1, e_2, h⟩ := g_bind h
  refine G_av hY hA (va_runV (As := []) (rest := []) ⟨hx, hb, hml, hown, hg⟩ (kX6_leave l D y aS H.size L hL ad N σ r2 _ hr2 e_2) (cwV 0 hg ggV_RX11_283_X6_leave rfl rfl rfl (by decide +kernel) ⟨Nat.le_of_ble_eq_true rfl, Nat.le_of_ble_eq_true rfl⟩) (G_pV (q := (RX6, TX6, 6)) hK hY (hL _ (gcl_lt hr2 (by decide))) hr2 (by decide) rfl) rfl rfl hl.1 rfl (lv_room (Nat.le_of_ble_eq_true rfl)) dX11_vanish_27 ⟨Nat.le_of_ble_eq_true rfl, Nat.le_of_ble_eq_true rfl⟩) ?_
  clear hY
  rintro H locs hY
  refine lv_aload_n hx hb dX11_vanish_30 rfl (lv_at hl 1 rfl) ?_
  obtain ⟨r_3, e_4, h⟩ := g_bind h
  refine G_av hY hA (va_runV (As := []) (rest := []) ⟨hx, hb, hml, hown, hg⟩ (kX11_stir l D y aS H.size L hL ad N r_1 _ e_4) (cwV 0 hg ggV_RX11_230_X11_stir rfl rfl rfl (by decide +kernel) ⟨Nat.le_of_ble_eq_true rfl, Nat.le_of_ble_eq_true rfl⟩) (G_pV (q := (RX11, TX11, 19)) hK hY (hL 0 (by decide)) gk_0 (by decide) rfl) rfl rfl hl.1 rfl (lv_room (Nat.le_of_ble_eq_true rfl)) dX11_vanish_31 ⟨Nat.le_of_ble_eq_true rfl, Nat.le_of_ble_eq_true rfl⟩) ?_
  clear hY
  rintro H locs hY
  refine lv_iload_n hx hb dX11_vanish_34 rfl (lv_at hl 0 rfl) ?_
  obtain ⟨z_5, h⟩ := g_guard h
  cases h
  exact g_iret hx hb hr hlocks () hY.1 hY.2.1 hY.2.2 (g_nz (Classical.not_not.mp z_5)) rfl (Nat.le_of_ble_eq_true rfl) (Nat.le_of_ble_eq_true rfl) dX11_vanish_35
end
def fX11_vanish (N : Nat) (σ : gS) (x1 : Int32) : Option (Int32 × gS) := (fX11_needPlace N σ x1 (6 : Int32)).bind fun r_1 => (fX11_machineAt N σ x1).bind fun r_3 => if (σ.1 r_3 2) = (-1) then (fX11_vanish_25 N σ r_3 0) else (fX11_vanish_25 N σ r_3 1)
set_option maxRecDepth 100000 in
set_option maxHeartbeats 4000000 in
theorem kX11_vanish (l : Launch) (D : va_G) (y : Nat → ClassId) (aS : Nat → Nat) (sz : Nat) (L : List Nat) (hL : ∀ k, k < 179 → k ∈ L) (ad : Nat → Nat) (N : Nat) (σ : gS) (x1 : Int32) (res : (Int32 × gS)) (h : fX11_vanish N σ x1 = some res) : Met l yX11_vanish (Cond.code yX11_vanish cX11_vanish 4 (some .boolean) :: wsL_law) ({ frames := 1, cells := 0, slots := 0, locals := 22 } : Room) (va_Pc [.ref (ad 0), .int x1] (gI D y aS (GW L y ad σ) sz)) (va_Qi (fun (r : Int32) (_ : Unit) => r = res.1) (fun _ => gO D (va_A (GW L y ad σ) sz) (GW L y ad res.2)) (va_A (GW L y ad σ) sz)) 0 0 (va_A (GW L y ad σ) sz) := by
  refine g_of (by decide) (Nat.le_of_ble_eq_true rfl) ?_
  intro p e s m below meth c ls A hx hb hr hml hown hg hlocks hin hsz hK hP hD hS hA hAe hl
  rw [← hAe]
  replace hown : s.vm.findClass RX11 = some m.cls := hown
  have hY : gY D y A s L ad σ s.heap [] := ⟨hP, hD, hS⟩
  clear hP hD hS
  replace hl : lv_has ls 4 [(0, .ref (ad 0)), (1, .int x1)] := hl
  unfold fX11_vanish at h
  refine lv_iload_n hx hb dX11_vanish_0 rfl (lv_at hl 1 rfl) ?_
  refine lv_bipush (v := 6) hx hb dX11_vanish_1 (by decide +kernel) ?_
  obtain ⟨r_1, e_2, h⟩ := g_bind h
  refine G_av hY hA (va_runS (As := [.int x1, .int 6]) (rest := []) ⟨hx, hb, hml, hown, hg⟩ (kX11_needPlace l D y aS s.heap.size L hL ad N σ x1 (6 : Int32) _ e_2) (va_cwS 2 hg ggS_RX11_106_X11_needPlace rfl rfl rfl (by decide +kernel) ⟨Nat.le_of_ble_eq_true rfl, Nat.le_of_ble_eq_true rfl⟩) (G_pS hK hY) rfl rfl hl.1 rfl (lv_room (Nat.le_of_ble_eq_true rfl)) dX11_vanish_3 ⟨Nat.le_of_ble_eq_true rfl, Nat.le_of_ble_eq_true rfl⟩) ?_
  clear hY
  rintro H locs hY
  refine lv_aload_n hx hb dX11_vanish_6 rfl (lv_at hl 0 rfl) ?_
  refine lv_iload_n hx hb dX11_vanish_7 rfl (lv_at hl 1 rfl) ?_
  obtain ⟨r_3, e_4, h⟩ := g_bind h
  refine G_ar hY hA (va_runV (As := [.int x1]) (rest := []) ⟨hx, hb, hml, hown, hg⟩ (kX11_machineAt l D y aS H.size L hL ad N σ x1 _ e_4) (cwV 1 hg ggV_RX11_273_X11_machineAt rfl rfl rfl (by decide +kernel) ⟨Nat.le_of_ble_eq_true rfl, Nat.le_of_ble_eq_true rfl⟩) (G_pV (q := (RX11, TX11, 19)) hK hY (hL 0 (by decide)) gk_0 (by decide) rfl) rfl rfl hl.1 rfl (lv_room (Nat.le_of_ble_eq_true rfl)) dX11_vanish_8 ⟨Nat.le_of_ble_eq_true rfl, Nat.le_of_ble_eq_true rfl⟩) ?_
  clear hY
  rintro H locs k_5 hY
  refine lv_astore_n (lv' := [(2, .ref (ad r_3)), (0, .ref (ad 0)), (1, .int x1)]) hx hb dX11_vanish_11 rfl hl (by decide) rfl ?_
  clear hl
  intro ls hl
  refine lv_aload_n hx hb dX11_vanish_12 rfl (lv_at hl 0 rfl) ?_
  refine G_get (ci := 6) (j := 2) (C := RX6) (T := TX6) (N := 6) (v := .int (σ.1 r_3 2)) hx hb hg inlX6 hown hK hY (hL _ (gcl_lt k_5 (by decide))) k_5 (by decide) rfl (by decide) tX6_2 (hg _ gw_546) rfl dX11_vanish_13 ?_
  refine lv_iconst (v := (-1)) hx hb dX11_vanish_16 (by decide) ?_
  refine lv_icmp_eq (tgt := 24) hx hb dX11_vanish_17 (by decide) (fun z_6 => ?_) (fun z_6 => ?_)
  ·
    rw [if_pos z_6] at h
    refine lv_iconst (v := 0) hx hb dX11_vanish_24 (by decide) ?_
    exact wX11_vanish_25 hx hb hr hml hown hg hlocks hK hA hL k_5 hY (lv_sub hl [1, 0] rfl) h
  ·
    rw [if_neg z_6] at h
    refine lv_iconst (v := 1) hx hb dX11_vanish_20 (by decide) ?_
    refine lv_goto (tgt := 25) hx hb dX11_vanish_21 (by decide) ?_
    exact wX11_vanish_25 hx hb hr hml hown hg hlocks hK hA hL k_5 hY (lv_sub hl [1, 0] rfl) h
theorem ggV_RX11_190_X8_set : GoodIn wsL_law (wsV RX11 190 RX8 yX8_set (Cond.code yX8_set cX8_set 4 none :: wsL_law)) := g_gi (fun _ h => h) gW_good (List.forall_mem_cons.mpr ⟨⟨gw_698, rfl⟩, List.forall_mem_cons.mpr ⟨⟨gw_699, rfl⟩, List.forall_mem_cons.mpr ⟨⟨gw_700, rfl⟩, List.forall_mem_cons.mpr ⟨⟨gw_48, rfl⟩, fun _ h => nomatch h⟩⟩⟩⟩) ⟨gw_701, rfl⟩
section
variable {p : Program} {l : Launch} {e : Env} {s : State} {m : MethodId} {args : Array Value} {below : List Frame} {meth : Method} {c : Code} {D : va_G} {y : Nat → ClassId} {aS : Nat → Nat} {A : Nat → Prop} {L : List Nat} {ad : Nat → Nat} {N : Nat} {res : (Int32 × gS)}
end
def fX11_weigh (N : Nat) (σ : gS) (x1 : Int32) (x2 : Int32) : Option (Int32 × gS) := (fX11_needPlace N σ x1 (3 : Int32)).bind fun r_1 => (fX11_needRange N σ x2 (1 : Int32) (10 : Int32)).bind fun r_3 => (fX8_whole N σ 155 x1).bind fun r_5 => (fX8_set N σ 155 x1 (x2.toInt64)).bind fun r_7 => (fX11_stir N r_7).bind fun r_9 => some (r_5, r_9)
set_option maxRecDepth 100000 in
set_option maxHeartbeats 4000000 in
theorem kX11_weigh (l : Launch) (D : va_G) (y : Nat → ClassId) (aS : Nat → Nat) (sz : Nat) (L : List Nat) (hL : ∀ k, k < 179 → k ∈ L) (ad : Nat → Nat) (N : Nat) (σ : gS) (x1 : Int32) (x2 : Int32) (res : (Int32 × gS)) (h : fX11_weigh N σ x1 x2 = some res) : Met l yX11_weigh (Cond.code yX11_weigh cX11_weigh 4 (some .int) :: wsL_law) ({ frames := 1, cells := 0, slots := 0, locals := 23 } : Room) (va_Pc [.ref (ad 0), .int x1, .int x2] (gI D y aS (GW L y ad σ) sz)) (va_Qi (fun (r : Int32) (_ : Unit) => r = res.1) (fun _ => gO D (va_A (GW L y ad σ) sz) (GW L y ad res.2)) (va_A (GW L y ad σ) sz)) 0 0 (va_A (GW L y ad σ) sz) := by
  refine g_of (by decide) (Nat.le_of_ble_eq_true rfl) ?_
  intro p e s m below meth c ls A hx hb hr hml hown hg hlocks hin hsz hK hP hD hS hA hAe hl
  rw [← hAe]
  replace hown : s.vm.findClass RX11 = some m.cls := hown
  have hY : gY D y A s L ad σ s.heap [] := ⟨hP, hD, hS⟩
  clear hP hD hS
  replace hl : lv_has ls 4 [(0, .ref (ad 0)), (1, .int x1), (2, .int x2)] := hl
  unfold fX11_weigh at h
  refine lv_iload_n hx hb dX11_weigh_0 rfl (lv_at hl 1 rfl) ?_
  refine lv_iconst (v := 3) hx hb dX11_weigh_1 (by decide) ?_
  obtain ⟨r_1, e_2, h⟩ := g_bind h
  refine G_av hY hA (va_runS (As := [.int x1, .int 3]) (rest := []) ⟨hx, hb, hml, hown, hg⟩ (kX11_needPlace l D y aS s.heap.size L hL ad N σ x1 (3 : Int32) _ e_2) (va_cwS 2 hg ggS_RX11_106_X11_needPlace rfl rfl rfl (by decide +kernel) ⟨Nat.le_of_ble_eq_true rfl, Nat.le_of_ble_eq_true rfl⟩) (G_pS hK hY) rfl rfl hl.1 rfl (lv_room (Nat.le_of_ble_eq_true rfl)) dX11_weigh_2 ⟨Nat.le_of_ble_eq_true rfl, Nat.le_of_ble_eq_true rfl⟩) ?_
  clear hY
  rintro H locs hY
  refine lv_iload_n hx hb dX11_weigh_5 rfl (lv_at hl 2 rfl) ?_
  refine lv_iconst (v := 1) hx hb dX11_weigh_6 (by decide) ?_
  refine lv_bipush (v := 10) hx hb dX11_weigh_7 (by decide +kernel) ?_
  obtain ⟨r_3, e_4, h⟩ := g_bind h
  refine G_av hY hA (va_runS (As := [.int x2, .int 1, .int 10]) (rest := []) ⟨hx, hb, hml, hown, hg⟩ (kX11_needRange l D y aS H.size L hL ad N σ x2 (1 : Int32) (10 : Int32) _ e_4) (va_cwS 3 hg ggS_RX11_133_X11_needRange rfl rfl rfl (by decide +kernel) ⟨Nat.le_of_ble_eq_true rfl, Nat.le_of_ble_eq_true rfl⟩) (G_pS hK hY) rfl rfl hl.1 rfl (lv_room (Nat.le_of_ble_eq_true rfl)) dX11_weigh_9 ⟨Nat.le_of_ble_eq_true rfl, Nat.le_of_ble_eq_true rfl⟩) ?_
  clear hY
  rintro H locs hY
  refine lv_aload_n hx hb dX11_weigh_12 rfl (lv_at hl 0 rfl) ?_
  refine G_get (ci := 11) (j := 11) (C := RX11) (T := TX11) (N := 19) (v := .ref (ad 155)) hx hb hg inlX11 hown hK hY (hL 0 (by decide)) gk_0 (by decide) rfl (by decide) tX11_11 (hg _ gw_52) rfl dX11_weigh_13 ?_
  refine lv_iload_n hx hb dX11_weigh_16 rfl (lv_at hl 1 rfl) ?_
  obtain ⟨r_5, e_6, h⟩ := g_bind h
  refine G_ai hY hA (va_runV (As := [.int x1]) (rest := []) ⟨hx, hb, hml, hown, hg⟩ (kX8_whole l D y aS H.size L hL ad N σ 155 x1 _ gk_155 e_6) (cwV 1 hg ggV_RX11_187_X8_whole rfl rfl rfl (by decide +kernel) ⟨Nat.le_of_ble_eq_true rfl, Nat.le_of_ble_eq_true rfl⟩) (G_pV (q := (RX8, TX8, 2)) hK hY (hL 155 (by decide)) gk_155 (by decide) rfl) rfl rfl hl.1 rfl (lv_room (Nat.le_of_ble_eq_true rfl)) dX11_weigh_17 ⟨Nat.le_of_ble_eq_true rfl, Nat.le_of_ble_eq_true rfl⟩) ?_
  clear hY
  rintro _ H locs rfl hY
  refine lv_istore_n (lv' := [(3, .int r_5), (0, .ref (ad 0)), (1, .int x1), (2, .int x2)]) hx hb dX11_weigh_20 rfl hl (by decide) rfl ?_
  clear hl
  intro ls hl
  refine lv_aload_n hx hb dX11_weigh_21 rfl (lv_at hl 1 rfl) ?_
  refine G_get (ci := 11) (j := 11) (C := RX11) (T := TX11) (N := 19) (v := .ref (ad 155)) hx hb hg inlX11 hown hK hY (hL 0 (by decide)) gk_0 (by decide) rfl (by decide) tX11_11 (hg _ gw_52) rfl dX11_weigh_22 ?_
  refine lv_iload_n hx hb dX11_weigh_25 rfl (lv_at hl 2 rfl) ?_
  refine lv_iload_n hx hb dX11_weigh_26 rfl (lv_at hl 3 rfl) ?_
  refine lv_i2l (v := (x2.toInt64)) hx hb dX11_weigh_27 rfl ?_
  obtain ⟨r_7, e_8, h⟩ := g_bind h
  refine G_av hY hA (va_runV (As := [.int x1, .long (x2.toInt64)]) (rest := []) ⟨hx, hb, hml, hown, hg⟩ (kX8_set l D y aS H.size L hL ad N σ 155 x1 (x2.toInt64) _ gk_155 e_8) (cwV 2 hg ggV_RX11_190_X8_set rfl rfl rfl (by decide +kernel) ⟨Nat.le_of_ble_eq_true rfl, Nat.le_of_ble_eq_true rfl⟩) (G_pV (q := (RX8, TX8, 2)) hK hY (hL 155 (by decide)) gk_155 (by decide) rfl) rfl rfl hl.1 rfl (lv_room (Nat.le_of_ble_eq_true rfl)) dX11_weigh_28 ⟨Nat.le_of_ble_eq_true rfl, Nat.le_of_ble_eq_true rfl⟩) ?_
  clear hY
  rintro H locs hY
  refine lv_aload_n hx hb dX11_weigh_31 rfl (lv_at hl 1 rfl) ?_
  obtain ⟨r_9, e_10, h⟩ := g_bind h
  refine G_av hY hA (va_runV (As := []) (rest := []) ⟨hx, hb, hml, hown, hg⟩ (kX11_stir l D y aS H.size L hL ad N r_7 _ e_10) (cwV 0 hg ggV_RX11_230_X11_stir rfl rfl rfl (by decide +kernel) ⟨Nat.le_of_ble_eq_true rfl, Nat.le_of_ble_eq_true rfl⟩) (G_pV (q := (RX11, TX11, 19)) hK hY (hL 0 (by decide)) gk_0 (by decide) rfl) rfl rfl hl.1 rfl (lv_room (Nat.le_of_ble_eq_true rfl)) dX11_weigh_32 ⟨Nat.le_of_ble_eq_true rfl, Nat.le_of_ble_eq_true rfl⟩) ?_
  clear hY
  rintro H locs hY
  refine lv_iload_n hx hb dX11_weigh_35 rfl (lv_at hl 0 rfl) ?_
  cases h
  exact g_iret hx hb hr hlocks () hY.1 hY.2.1 hY.2.2 rfl rfl (Nat.le_of_ble_eq_true rfl) (Nat.le_of_ble_eq_true rfl) dX11_weigh_36
section
variable {p : Program} {l : Launch} {e : Env} {s : State} {m : MethodId} {args : Array Value} {below : List Frame} {meth : Method} {c : Code} {D : va_G} {y : Nat → ClassId} {aS : Nat → Nat} {A : Nat → Prop} {L : List Nat} {ad : Nat → Nat} {N : Nat} {res : (Int32 × gS)}
def fX11_fullRun_23 (N : Nat) (σ : gS) (xs0 : Int32) : Option (Int32 × gS) := if ¬ (xs0 = 0 ∨ xs0 = 1) then none else (some (xs0, σ))
set_option maxRecDepth 100000 in
set_option maxHeartbeats 4000000 in
theorem wX11_fullRun_23 {σ : gS} {xs0 : Int32} (hx : p.tables.exec = Jvm.exec) (hb : c.code = cX11_fullRun) (hr : meth.sig.returnType = (some .boolean)) (hml : c.maxLocals = 2) (hown : s.vm.findClass RX11 = some m.cls) (hg : ∀ w ∈ wsL_law, w.before args s = true) (hlocks : meth.locks = false) (hK : gK D y aS s) (hA : ∀ q, s.heap.size ≤ q → A q) (hL : ∀ k, k < 179 → k ∈ L) {H : Heap} {locs : List Loc} {ls : Array Slot} (hY : gY D y A s L ad σ H locs) (hl : lv_has ls 2 []) (h : fX11_fullRun_23 N σ xs0 = some res) : W p l e ({ frames := 1, cells := 0, slots := 0, locals := 20 } : Room) s m args below meth c H locs 0 0 (MQ below (va_Qi (fun (r : Int32) (_ : Unit) => r = res.1) (fun _ => gO D A (GW L y ad res.2)) A) args s 0 0 A) (F0 m 23 ls [.int xs0]) := by
  unfold fX11_fullRun_23 at h
  obtain ⟨z_1, h⟩ := g_guard h
  cases h
  exact g_iret hx hb hr hlocks () hY.1 hY.2.1 hY.2.2 (g_nz (Classical.not_not.mp z_1)) rfl (Nat.le_of_ble_eq_true rfl) (Nat.le_of_ble_eq_true rfl) dX11_fullRun_23
end
def fX11_fullRun (N : Nat) (σ : gS) : Option (Int32 × gS) := (fX11_stir N (sI σ 0 17 1)).bind fun r_1 => if (σ.1 0 17) = 0 then (fX11_fullRun_23 N r_1 1) else (fX11_fullRun_23 N r_1 0)
set_option maxRecDepth 100000 in
set_option maxHeartbeats 4000000 in
theorem kX11_fullRun (l : Launch) (D : va_G) (y : Nat → ClassId) (aS : Nat → Nat) (sz : Nat) (L : List Nat) (hL : ∀ k, k < 179 → k ∈ L) (ad : Nat → Nat) (N : Nat) (σ : gS) (res : (Int32 × gS)) (h : fX11_fullRun N σ = some res) : Met l yX11_fullRun (Cond.code yX11_fullRun cX11_fullRun 2 (some .boolean) :: wsL_law) ({ frames := 1, cells := 0, slots := 0, locals := 20 } : Room) (va_Pc [.ref (ad 0)] (gI D y aS (GW L y ad σ) sz)) (va_Qi (fun (r : Int32) (_ : Unit) => r = res.1) (fun _ => gO D (va_A (GW L y ad σ) sz) (GW L y ad res.2)) (va_A (GW L y ad σ) sz)) 0 0 (va_A (GW L y ad σ) sz) := by
  refine g_of (by decide) (Nat.le_of_ble_eq_true rfl) ?_
  intro p e s m below meth c ls A hx hb hr hml hown hg hlocks hin hsz hK hP hD hS hA hAe hl
  rw [← hAe]
  replace hown : s.vm.findClass RX11 = some m.cls := hown
  have hY : gY D y A s L ad σ s.heap [] := ⟨hP, hD, hS⟩
  clear hP hD hS
  replace hl : lv_has ls 2 [(0, .ref (ad 0))] := hl
  unfold fX11_fullRun at h
  refine lv_aload_n hx hb dX11_fullRun_0 rfl (lv_at hl 0 rfl) ?_
  refine G_get (ci := 11) (j := 17) (C := RX11) (T := TX11) (N := 19) (v := .int (σ.1 0 17)) hx hb hg inlX11 hown hK hY (hL 0 (by decide)) gk_0 (by decide) rfl (by decide) tX11_17 (hg _ gw_706) rfl dX11_fullRun_1 ?_
  refine lv_istore_n (lv' := [(1, .int (σ.1 0 17)), (0, .ref (ad 0))]) hx hb dX11_fullRun_4 rfl hl (by decide) rfl ?_
  clear hl
  intro ls hl
  refine lv_aload_n hx hb dX11_fullRun_5 rfl (lv_at hl 1 rfl) ?_
  refine lv_iconst (v := 1) hx hb dX11_fullRun_6 (by decide) ?_
  refine G_putI (ci := 11) (j := 17) (C := RX11) (T := TX11) (N := 19) (v := 1) (ty := .boolean) hx hb hg inlX11 tyX11 tyX11_ok nmX11 hown hK hY (hL 0 (by decide)) gk_0 (by decide) rfl (by decide) tX11_17 (hg _ gw_706) (by decide +kernel) rfl rfl (fun _ _ => rfl) (fun _ _ => Nat.le_of_ble_eq_true rfl) dX11_fullRun_7 ?_
  clear hY
  intro H locs hY
  refine lv_aload_n hx hb dX11_fullRun_10 rfl (lv_at hl 1 rfl) ?_
  obtain ⟨r_1, e_2, h⟩ := g_bind h
  refine G_av hY hA (va_runV (As := []) (rest := []) ⟨hx, hb, hml, hown, hg⟩ (kX11_stir l D y aS H.size L hL ad N (sI σ 0 17 1) _ e_2) (cwV 0 hg ggV_RX11_230_X11_stir rfl rfl rfl (by decide +kernel) ⟨Nat.le_of_ble_eq_true rfl, Nat.le_of_ble_eq_true rfl⟩) (G_pV (q := (RX11, TX11, 19)) hK hY (hL 0 (by decide)) gk_0 (by decide) rfl) rfl rfl hl.1 rfl (lv_room (Nat.le_of_ble_eq_true rfl)) dX11_fullRun_11 ⟨Nat.le_of_ble_eq_true rfl, Nat.le_of_ble_eq_true rfl⟩) ?_
  clear hY
  rintro H locs hY
  refine lv_iload_n hx hb dX11_fullRun_14 rfl (lv_at hl 0 rfl) ?_
  refine lv_if_ne (tgt := 22) hx hb dX11_fullRun_15 (by decide) (fun z_3 => ?_) (fun z_3 => ?_)
  ·
    rw [if_neg z_3] at h
    refine lv_iconst (v := 0) hx hb dX11_fullRun_22 (by decide) ?_
    exact wX11_fullRun_23 hx hb hr hml hown hg hlocks hK hA hL hY (lv_sub hl [] rfl) h
  ·
    rw [if_pos z_3] at h
    refine lv_iconst (v := 1) hx hb dX11_fullRun_18 (by decide) ?_
    refine lv_goto (tgt := 23) hx hb dX11_fullRun_19 (by decide) ?_
    exact wX11_fullRun_23 hx hb hr hml hown hg hlocks hK hA hL hY (lv_sub hl [] rfl) h
section
variable {p : Program} {l : Launch} {e : Env} {s : State} {m : MethodId} {args : Array Value} {below : List Frame} {meth : Method} {c : Code} {D : va_G} {y : Nat → ClassId} {aS : Nat → Nat} {A : Nat → Prop} {L : List Nat} {ad : Nat → Nat} {N : Nat} {res : Int32}
end
def fX11_clock (N : Nat) (σ : gS) : Option Int32 := some (σ.1 0 14)
set_option maxRecDepth 100000 in
set_option maxHeartbeats 4000000 in
theorem kX11_clock (l : Launch) (D : va_G) (y : Nat → ClassId) (aS : Nat → Nat) (sz : Nat) (L : List Nat) (hL : ∀ k, k < 179 → k ∈ L) (ad : Nat → Nat) (N : Nat) (σ : gS) (res : Int32) (h : fX11_clock N σ = some res) : Met l yX11_clock (Cond.code yX11_clock cX11_clock 1 (some .int) :: wsL_law) ({ frames := 0, cells := 0, slots := 0, locals := 0 } : Room) (va_Pc [.ref (ad 0)] (gI D y aS (GW L y ad σ) sz)) (va_Qi (fun (r : Int32) (_ : Unit) => r = res) (fun _ => gO D (va_A (GW L y ad σ) sz) (GW L y ad σ)) (va_A (GW L y ad σ) sz)) 0 0 (va_A (GW L y ad σ) sz) := by
  refine g_of (by decide) (Nat.le_of_ble_eq_true rfl) ?_
  intro p e s m below meth c ls A hx hb hr hml hown hg hlocks hin hsz hK hP hD hS hA hAe hl
  rw [← hAe]
  replace hown : s.vm.findClass RX11 = some m.cls := hown
  have hY : gY D y A s L ad σ s.heap [] := ⟨hP, hD, hS⟩
  clear hP hD hS
  replace hl : lv_has ls 1 [(0, .ref (ad 0))] := hl
  unfold fX11_clock at h
  refine lv_aload_n hx hb dX11_clock_0 rfl (lv_at hl 0 rfl) ?_
  refine G_get (ci := 11) (j := 14) (C := RX11) (T := TX11) (N := 19) (v := .int (σ.1 0 14)) hx hb hg inlX11 hown hK hY (hL 0 (by decide)) gk_0 (by decide) rfl (by decide) tX11_14 (hg _ gw_168) rfl dX11_clock_1 ?_
  cases h
  exact g_iret hx hb hr hlocks () hY.1 hY.2.1 hY.2.2 rfl rfl (Nat.le_of_ble_eq_true rfl) (Nat.le_of_ble_eq_true rfl) dX11_clock_4
section
variable {p : Program} {l : Launch} {e : Env} {s : State} {m : MethodId} {args : Array Value} {below : List Frame} {meth : Method} {c : Code} {D : va_G} {y : Nat → ClassId} {aS : Nat → Nat} {A : Nat → Prop} {L : List Nat} {ad : Nat → Nat} {N : Nat} {res : Int32}
end
def fX11_changes (N : Nat) (σ : gS) : Option Int32 := some (σ.1 1 4)
set_option maxRecDepth 100000 in
set_option maxHeartbeats 4000000 in
theorem kX11_changes (l : Launch) (D : va_G) (y : Nat → ClassId) (aS : Nat → Nat) (sz : Nat) (L : List Nat) (hL : ∀ k, k < 179 → k ∈ L) (ad : Nat → Nat) (N : Nat) (σ : gS) (res : Int32) (h : fX11_changes N σ = some res) : Met l yX11_changes (Cond.code yX11_changes cX11_changes 1 (some .int) :: wsL_law) ({ frames := 0, cells := 0, slots := 0, locals := 0 } : Room) (va_Pc [.ref (ad 0)] (gI D y aS (GW L y ad σ) sz)) (va_Qi (fun (r : Int32) (_ : Unit) => r = res) (fun _ => gO D (va_A (GW L y ad σ) sz) (GW L y ad σ)) (va_A (GW L y ad σ) sz)) 0 0 (va_A (GW L y ad σ) sz) := by
  refine g_of (by decide) (Nat.le_of_ble_eq_true rfl) ?_
  intro p e s m below meth c ls A hx hb hr hml hown hg hlocks hin hsz hK hP hD hS hA hAe hl
  rw [← hAe]
  replace hown : s.vm.findClass RX11 = some m.cls := hown
  have hY : gY D y A s L ad σ s.heap [] := ⟨hP, hD, hS⟩
  clear hP hD hS
  replace hl : lv_has ls 1 [(0, .ref (ad 0))] := hl
  unfold fX11_changes at h
  refine lv_aload_n hx hb dX11_changes_0 rfl (lv_at hl 0 rfl) ?_
  refine G_get (ci := 11) (j := 0) (C := RX11) (T := TX11) (N := 19) (v := .ref (ad 1)) hx hb hg inlX11 hown hK hY (hL 0 (by decide)) gk_0 (by decide) rfl (by decide) tX11_0 (hg _ gw_16) rfl dX11_changes_1 ?_
  refine G_get (ci := 2) (j := 4) (C := RX2) (T := TX2) (N := 5) (v := .int (σ.1 1 4)) hx hb hg inlX2 hown hK hY (hL 1 (by decide)) gk_1 (by decide) rfl (by decide) tX2_4 (hg _ gw_173) rfl dX11_changes_4 ?_
  cases h
  exact g_iret hx hb hr hlocks () hY.1 hY.2.1 hY.2.2 rfl rfl (Nat.le_of_ble_eq_true rfl) (Nat.le_of_ble_eq_true rfl) dX11_changes_7
section
variable {p : Program} {l : Launch} {e : Env} {s : State} {m : MethodId} {args : Array Value} {below : List Frame} {meth : Method} {c : Code} {D : va_G} {y : Nat → ClassId} {aS : Nat → Nat} {A : Nat → Prop} {L : List Nat} {ad : Nat → Nat} {N : Nat} {res : Int32}
end
def fX11_state (N : Nat) (σ : gS) (x1 : Int32) : Option Int32 := (fX11_needPlace N σ x1 (σ.1 1 4)).bind fun r_1 => (fX2_at N σ x1).bind fun r_3 => some (σ.1 r_3 3)
set_option maxRecDepth 100000 in
set_option maxHeartbeats 4000000 in
theorem kX11_state (l : Launch) (D : va_G) (y : Nat → ClassId) (aS : Nat → Nat) (sz : Nat) (L : List Nat) (hL : ∀ k, k < 179 → k ∈ L) (ad : Nat → Nat) (N : Nat) (σ : gS) (x1 : Int32) (res : Int32) (h : fX11_state N σ x1 = some res) : Met l yX11_state (Cond.code yX11_state cX11_state 2 (some .int) :: wsL_law) ({ frames := 1, cells := 0, slots := 0, locals := 22 } : Room) (va_Pc [.ref (ad 0), .int x1] (gI D y aS (GW L y ad σ) sz)) (va_Qi (fun (r : Int32) (_ : Unit) => r = res) (fun _ => gO D (va_A (GW L y ad σ) sz) (GW L y ad σ)) (va_A (GW L y ad σ) sz)) 0 0 (va_A (GW L y ad σ) sz) := by
  refine g_of (by decide) (Nat.le_of_ble_eq_true rfl) ?_
  intro p e s m below meth c ls A hx hb hr hml hown hg hlocks hin hsz hK hP hD hS hA hAe hl
  rw [← hAe]
  replace hown : s.vm.findClass RX11 = some m.cls := hown
  have hY : gY D y A s L ad σ s.heap [] := ⟨hP, hD, hS⟩
  clear hP hD hS
  replace hl : lv_has ls 2 [(0, .ref (ad 0)), (1, .int x1)] := hl
  unfold fX11_state at h
  refine lv_iload_n hx hb dX11_state_0 rfl (lv_at hl 1 rfl) ?_
  refine lv_aload_n hx hb dX11_state_1 rfl (lv_at hl 0 rfl) ?_
  refine G_get (ci := 11) (j := 0) (C := RX11) (T := TX11) (N := 19) (v := .ref (ad 1)) hx hb hg inlX11 hown hK hY (hL 0 (by decide)) gk_0 (by decide) rfl (by decide) tX11_0 (hg _ gw_16) rfl dX11_state_2 ?_
  refine G_get (ci := 2) (j := 4) (C := RX2) (T := TX2) (N := 5) (v := .int (σ.1 1 4)) hx hb hg inlX2 hown hK hY (hL 1 (by decide)) gk_1 (by decide) rfl (by decide) tX2_4 (hg _ gw_173) rfl dX11_state_5 ?_
  obtain ⟨r_1, e_2, h⟩ := g_bind h
  refine G_av hY hA (va_runS (As := [.int x1, .int (σ.1 1 4)]) (rest := []) ⟨hx, hb, hml, hown, hg⟩ (kX11_needPlace l D y aS s.heap.size L hL ad N σ x1 (σ.1 1 4) _ e_2) (va_cwS 2 hg ggS_RX11_106_X11_needPlace rfl rfl rfl (by decide +kernel) ⟨Nat.le_of_ble_eq_true rfl, Nat.le_of_ble_eq_true rfl⟩) (G_pS hK hY) rfl rfl hl.1 rfl (lv_room (Nat.le_of_ble_eq_true rfl)) dX11_state_8 ⟨Nat.le_of_ble_eq_true rfl, Nat.le_of_ble_eq_true rfl⟩) ?_
  clear hY
  rintro H locs hY
  refine lv_aload_n hx hb dX11_state_11 rfl (lv_at hl 0 rfl) ?_
  refine G_get (ci := 11) (j := 0) (C := RX11) (T := TX11) (N := 19) (v := .ref (ad 1)) hx hb hg inlX11 hown hK hY (hL 0 (by decide)) gk_0 (by decide) rfl (by decide) tX11_0 (hg _ gw_16) rfl dX11_state_12 ?_
  refine lv_iload_n hx hb dX11_state_15 rfl (lv_at hl 1 rfl) ?_
  obtain ⟨r_3, e_4, h⟩ := g_bind h
  refine G_ar hY hA (va_runV (As := [.int x1]) (rest := []) ⟨hx, hb, hml, hown, hg⟩ (kX2_at l D y aS H.size L hL ad N σ x1 _ e_4) (cwV 1 hg ggV_RX11_113_X2_at rfl rfl rfl (by decide +kernel) ⟨Nat.le_of_ble_eq_true rfl, Nat.le_of_ble_eq_true rfl⟩) (G_pV (q := (RX2, TX2, 5)) hK hY (hL 1 (by decide)) gk_1 (by decide) rfl) rfl rfl hl.1 rfl (lv_room (Nat.le_of_ble_eq_true rfl)) dX11_state_16 ⟨Nat.le_of_ble_eq_true rfl, Nat.le_of_ble_eq_true rfl⟩) ?_
  clear hY
  rintro H locs k_5 hY
  refine G_get (ci := 1) (j := 3) (C := RX1) (T := TX1) (N := 14) (v := .int (σ.1 r_3 3)) hx hb hg inlX1 hown hK hY (hL _ (gcl_lt k_5 (by decide))) k_5 (by decide) rfl (by decide) tX1_3 (hg _ gw_379) rfl dX11_state_19 ?_
  cases h
  exact g_iret hx hb hr hlocks () hY.1 hY.2.1 hY.2.2 rfl rfl (Nat.le_of_ble_eq_true rfl) (Nat.le_of_ble_eq_true rfl) dX11_state_22
section
variable {p : Program} {l : Launch} {e : Env} {s : State} {m : MethodId} {args : Array Value} {below : List Frame} {meth : Method} {c : Code} {D : va_G} {y : Nat → ClassId} {aS : Nat → Nat} {A : Nat → Prop} {L : List Nat} {ad : Nat → Nat} {N : Nat} {res : Int32}
end
def fX11_requires (N : Nat) (σ : gS) (x1 : Int32) : Option Int32 := (fX11_needPlace N σ x1 (σ.1 1 4)).bind fun r_1 => (fX2_at N σ x1).bind fun r_3 => (fX7_requiredBy N σ r_3).bind fun r_6 => some r_6
set_option maxRecDepth 100000 in
set_option maxHeartbeats 4000000 in
theorem kX11_requires (l : Launch) (D : va_G) (y : Nat → ClassId) (aS : Nat → Nat) (sz : Nat) (L : List Nat) (hL : ∀ k, k < 179 → k ∈ L) (ad : Nat → Nat) (N : Nat) (σ : gS) (x1 : Int32) (res : Int32) (h : fX11_requires N σ x1 = some res) : Met l yX11_requires (Cond.code yX11_requires cX11_requires 2 (some .int) :: wsL_law) ({ frames := 3, cells := 0, slots := 0, locals := 66 } : Room) (va_Pc [.ref (ad 0), .int x1] (gI D y aS (GW L y ad σ) sz)) (va_Qi (fun (r : Int32) (_ : Unit) => r = res) (fun _ => gO D (va_A (GW L y ad σ) sz) (GW L y ad σ)) (va_A (GW L y ad σ) sz)) 0 0 (va_A (GW L y ad σ) sz) := by
  refine g_of (by decide) (Nat.le_of_ble_eq_true rfl) ?_
  intro p e s m below meth c ls A hx hb hr hml hown hg hlocks hin hsz hK hP hD hS hA hAe hl
  rw [← hAe]
  replace hown : s.vm.findClass RX11 = some m.cls := hown
  have hY : gY D y A s L ad σ s.heap [] := ⟨hP, hD, hS⟩
  clear hP hD hS
  replace hl : lv_has ls 2 [(0, .ref (ad 0)), (1, .int x1)] := hl
  unfold fX11_requires at h
  refine lv_iload_n hx hb dX11_requires_0 rfl (lv_at hl 1 rfl) ?_
  refine lv_aload_n hx hb dX11_requires_1 rfl (lv_at hl 0 rfl) ?_
  refine G_get (ci := 11) (j := 0) (C := RX11) (T := TX11) (N := 19) (v := .ref (ad 1)) hx hb hg inlX11 hown hK hY (hL 0 (by decide)) gk_0 (by decide) rfl (by decide) tX11_0 (hg _ gw_16) rfl dX11_requires_2 ?_
  refine G_get (ci := 2) (j := 4) (C := RX2) (T := TX2) (N := 5) (v := .int (σ.1 1 4)) hx hb hg inlX2 hown hK hY (hL 1 (by decide)) gk_1 (by decide) rfl (by decide) tX2_4 (hg _ gw_173) rfl dX11_requires_5 ?_
  obtain ⟨r_1, e_2, h⟩ := g_bind h
  refine G_av hY hA (va_runS (As := [.int x1, .int (σ.1 1 4)]) (rest := []) ⟨hx, hb, hml, hown, hg⟩ (kX11_needPlace l D y aS s.heap.size L hL ad N σ x1 (σ.1 1 4) _ e_2) (va_cwS 2 hg ggS_RX11_106_X11_needPlace rfl rfl rfl (by decide +kernel) ⟨Nat.le_of_ble_eq_true rfl, Nat.le_of_ble_eq_true rfl⟩) (G_pS hK hY) rfl rfl hl.1 rfl (lv_room (Nat.le_of_ble_eq_true rfl)) dX11_requires_8 ⟨Nat.le_of_ble_eq_true rfl, Nat.le_of_ble_eq_true rfl⟩) ?_
  clear hY
  rintro H locs hY
  refine lv_aload_n hx hb dX11_requires_11 rfl (lv_at hl 0 rfl) ?_
  refine G_get (ci := 11) (j := 1) (C := RX11) (T := TX11) (N := 19) (v := .ref (ad 65)) hx hb hg inlX11 hown hK hY (hL 0 (by decide)) gk_0 (by decide) rfl (by decide) tX11_1 (hg _ gw_20) rfl dX11_requires_12 ?_
  refine lv_aload_n hx hb dX11_requires_15 rfl (lv_at hl 0 rfl) ?_
  refine G_get (ci := 11) (j := 0) (C := RX11) (T := TX11) (N := 19) (v := .ref (ad 1)) hx hb hg inlX11 hown hK hY (hL 0 (by decide)) gk_0 (by decide) rfl (by decide) tX11_0 (hg _ gw_16) rfl dX11_requires_16 ?_
  refine lv_iload_n hx hb dX11_requires_19 rfl (lv_at hl 1 rfl) ?_
  obtain ⟨r_3, e_4, h⟩ := g_bind h
  refine G_ar hY hA (va_runV (As := [.int x1]) (rest := [.ref (ad 65)]) ⟨hx, hb, hml, hown, hg⟩ (kX2_at l D y aS H.size L hL ad N σ x1 _ e_4) (cwV 1 hg ggV_RX11_113_X2_at rfl rfl rfl (by decide +kernel) ⟨Nat.le_of_ble_eq_true rfl, Nat.le_of_ble_eq_true rfl⟩) (G_pV (q := (RX2, TX2, 5)) hK hY (hL 1 (by decide)) gk_1 (by decide) rfl) rfl rfl hl.1 rfl (lv_room (Nat.le_of_ble_eq_true rfl)) dX11_requires_20 ⟨Nat.le_of_ble_eq_true rfl, Nat.le_of_ble_eq_true rfl⟩) ?_
  clear hY
  rintro H locs k_5 hY
  obtain ⟨r_6, e_7, h⟩ := g_bind h
  refine G_ai hY hA (va_runV (As := [.ref (ad r_3)]) (rest := []) ⟨hx, hb, hml, hown, hg⟩ (kX7_requiredBy l D y aS H.size L hL ad N σ r_3 _ k_5 e_7) (cwV 1 hg ggV_RX11_298_X7_requiredBy rfl rfl rfl (by decide +kernel) ⟨Nat.le_of_ble_eq_true rfl, Nat.le_of_ble_eq_true rfl⟩) (G_pV (q := (RX7, TX7, 6)) hK hY (hL 65 (by decide)) gk_65 (by decide) rfl) rfl rfl hl.1 rfl (lv_room (Nat.le_of_ble_eq_true rfl)) dX11_requires_23 ⟨Nat.le_of_ble_eq_true rfl, Nat.le_of_ble_eq_true rfl⟩) ?_
  clear hY
  rintro _ H locs rfl hY
  cases h
  exact g_iret hx hb hr hlocks () hY.1 hY.2.1 hY.2.2 rfl rfl (Nat.le_of_ble_eq_true rfl) (Nat.le_of_ble_eq_true rfl) dX11_requires_26
section
variable {p : Program} {l : Launch} {e : Env} {s : State} {m : MethodId} {args : Array Value} {below : List Frame} {meth : Method} {c : Code} {D : va_G} {y : Nat → ClassId} {aS : Nat → Nat} {A : Nat → Prop} {L : List Nat} {ad : Nat → Nat} {N : Nat} {res : (Int32 × gS)}
end
def fX11_queued (N : Nat) (σ : gS) : Option (Int32 × gS) := (fX11_formBatches N σ).bind fun r_1 => some ((r_1.1 110 1), r_1)
set_option maxRecDepth 100000 in
set_option maxHeartbeats 4000000 in
theorem kX11_queued (l : Launch) (D : va_G) (y : Nat → ClassId) (aS : Nat → Nat) (sz : Nat) (L : List Nat) (hL : ∀ k, k < 179 → k ∈ L) (ad : Nat → Nat) (N : Nat) (σ : gS) (res : (Int32 × gS)) (h : fX11_queued N σ = some res) : Met l yX11_queued (Cond.code yX11_queued cX11_queued 1 (some .int) :: wsL_law) ({ frames := 4, cells := 0, slots := 0, locals := 101 } : Room) (va_Pc [.ref (ad 0)] (gI D y aS (GW L y ad σ) sz)) (va_Qi (fun (r : Int32) (_ : Unit) => r = res.1) (fun _ => gO D (va_A (GW L y ad σ) sz) (GW L y ad res.2)) (va_A (GW L y ad σ) sz)) 0 0 (va_A (GW L y ad σ) sz) := by
  refine g_of (by decide) (Nat.le_of_ble_eq_true rfl) ?_
  intro p e s m below meth c ls A hx hb hr hml hown hg hlocks hin hsz hK hP hD hS hA hAe hl
  rw [← hAe]
  replace hown : s.vm.findClass RX11 = some m.cls := hown
  have hY : gY D y A s L ad σ s.heap [] := ⟨hP, hD, hS⟩
  clear hP hD hS
  replace hl : lv_has ls 1 [(0, .ref (ad 0))] := hl
  unfold fX11_queued at h
  refine lv_aload_n hx hb dX11_queued_0 rfl (lv_at hl 0 rfl) ?_
  obtain ⟨r_1, e_2, h⟩ := g_bind h
  refine G_av hY hA (va_runV (As := []) (rest := []) ⟨hx, hb, hml, hown, hg⟩ (kX11_formBatches l D y aS s.heap.size L hL ad N σ _ e_2) (cwV 0 hg ggV_RX11_204_X11_formBatches rfl rfl rfl (by decide +kernel) ⟨Nat.le_of_ble_eq_true rfl, Nat.le_of_ble_eq_true rfl⟩) (G_pV (q := (RX11, TX11, 19)) hK hY (hL 0 (by decide)) gk_0 (by decide) rfl) rfl rfl hl.1 rfl (lv_room (Nat.le_of_ble_eq_true rfl)) dX11_queued_1 ⟨Nat.le_of_ble_eq_true rfl, Nat.le_of_ble_eq_true rfl⟩) ?_
  clear hY
  rintro H locs hY
  refine lv_aload_n hx hb dX11_queued_4 rfl (lv_at hl 0 rfl) ?_
  refine G_get (ci := 11) (j := 3) (C := RX11) (T := TX11) (N := 19) (v := .ref (ad 109)) hx hb hg inlX11 hown hK hY (hL 0 (by decide)) gk_0 (by decide) rfl (by decide) tX11_3 (hg _ gw_28) rfl dX11_queued_5 ?_
  refine G_get (ci := 4) (j := 4) (C := RX4) (T := TX4) (N := 9) (v := .ref (ad 110)) hx hb hg inlX4 hown hK hY (hL 109 (by decide)) gk_109 (by decide) rfl (by decide) tX4_4 (hg _ gw_190) rfl dX11_queued_8 ?_
  refine G_get (ci := 8) (j := 1) (C := RX8) (T := TX8) (N := 2) (v := .int (r_1.1 110 1)) hx hb hg inlX8 hown hK hY (hL 110 (by decide)) gk_110 (by decide) rfl (by decide) tX8_1 (hg _ gw_178) rfl dX11_queued_11 ?_
  cases h
  exact g_iret hx hb hr hlocks () hY.1 hY.2.1 hY.2.2 rfl rfl (Nat.le_of_ble_eq_true rfl) (Nat.le_of_ble_eq_true rfl) dX11_queued_14
section
variable {p : Program} {l : Launch} {e : Env} {s : State} {m : MethodId} {args : Array Value} {below : List Frame} {meth : Method} {c : Code} {D : va_G} {y : Nat → ClassId} {aS : Nat → Nat} {A : Nat → Prop} {L : List Nat} {ad : Nat → Nat} {N : Nat} {res : (Int32 × gS)}
end
def fX11_queuedAt (N : Nat) (σ : gS) (x1 : Int32) : Option (Int32 × gS) := (fX11_formBatches N σ).bind fun r_1 => (fX11_needPlace N r_1 x1 (r_1.1 110 1)).bind fun r_3 => (fX8_whole N r_1 110 x1).bind fun r_5 => some (r_5, r_1)
set_option maxRecDepth 100000 in
set_option maxHeartbeats 4000000 in
theorem kX11_queuedAt (l : Launch) (D : va_G) (y : Nat → ClassId) (aS : Nat → Nat) (sz : Nat) (L : List Nat) (hL : ∀ k, k < 179 → k ∈ L) (ad : Nat → Nat) (N : Nat) (σ : gS) (x1 : Int32) (res : (Int32 × gS)) (h : fX11_queuedAt N σ x1 = some res) : Met l yX11_queuedAt (Cond.code yX11_queuedAt cX11_queuedAt 2 (some .int) :: wsL_law) ({ frames := 4, cells := 0, slots := 0, locals := 101 } : Room) (va_Pc [.ref (ad 0), .int x1] (gI D y aS (GW L y ad σ) sz)) (va_Qi (fun (r : Int32) (_ : Unit) => r = res.1) (fun _ => gO D (va_A (GW L y ad σ) sz) (GW L y ad res.2)) (va_A (GW L y ad σ) sz)) 0 0 (va_A (GW L y ad σ) sz) := by
  refine g_of (by decide) (Nat.le_of_ble_eq_true rfl) ?_
  intro p e s m below meth c ls A hx hb hr hml hown hg hlocks hin hsz hK hP hD hS hA hAe hl
  rw [← hAe]
  replace hown : s.vm.findClass RX11 = some m.cls := hown
  have hY : gY D y A s L ad σ s.heap [] := ⟨hP, hD, hS⟩
  clear hP hD hS
  replace hl : lv_has ls 2 [(0, .ref (ad 0)), (1, .int x1)] := hl
  unfold fX11_queuedAt at h
  refine lv_aload_n hx hb dX11_queuedAt_0 rfl (lv_at hl 0 rfl) ?_
  obtain ⟨r_1, e_2, h⟩ := g_bind h
  refine G_av hY hA (va_runV (As := []) (rest := []) ⟨hx, hb, hml, hown, hg⟩ (kX11_formBatches l D y aS s.heap.size L hL ad N σ _ e_2) (cwV 0 hg ggV_RX11_204_X11_formBatches rfl rfl rfl (by decide +kernel) ⟨Nat.le_of_ble_eq_true rfl, Nat.le_of_ble_eq_true rfl⟩) (G_pV (q := (RX11, TX11, 19)) hK hY (hL 0 (by decide)) gk_0 (by decide) rfl) rfl rfl hl.1 rfl (lv_room (Nat.le_of_ble_eq_true rfl)) dX11_queuedAt_1 ⟨Nat.le_of_ble_eq_true rfl, Nat.le_of_ble_eq_true rfl⟩) ?_
  clear hY
  rintro H locs hY
  refine lv_iload_n hx hb dX11_queuedAt_4 rfl (lv_at hl 1 rfl) ?_
  refine lv_aload_n hx hb dX11_queuedAt_5 rfl (lv_at hl 0 rfl) ?_
  refine G_get (ci := 11) (j := 3) (C := RX11) (T := TX11) (N := 19) (v := .ref (ad 109)) hx hb hg inlX11 hown hK hY (hL 0 (by decide)) gk_0 (by decide) rfl (by decide) tX11_3 (hg _ gw_28) rfl dX11_queuedAt_6 ?_
  refine G_get (ci := 4) (j := 4) (C := RX4) (T := TX4) (N := 9) (v := .ref (ad 110)) hx hb hg inlX4 hown hK hY (hL 109 (by decide)) gk_109 (by decide) rfl (by decide) tX4_4 (hg _ gw_190) rfl dX11_queuedAt_9 ?_
  refine G_get (ci := 8) (j := 1) (C := RX8) (T := TX8) (N := 2) (v := .int (r_1.1 110 1)) hx hb hg inlX8 hown hK hY (hL 110 (by decide)) gk_110 (by decide) rfl (by decide) tX8_1 (hg _ gw_178) rfl dX11_queuedAt_12 ?_
  obtain ⟨r_3, e_4, h⟩ := g_bind h
  refine G_av hY hA (va_runS (As := [.int x1, .int (r_1.1 110 1)]) (rest := []) ⟨hx, hb, hml, hown, hg⟩ (kX11_needPlace l D y aS H.size L hL ad N r_1 x1 (r_1.1 110 1) _ e_4) (va_cwS 2 hg ggS_RX11_106_X11_needPlace rfl rfl rfl (by decide +kernel) ⟨Nat.le_of_ble_eq_true rfl, Nat.le_of_ble_eq_true rfl⟩) (G_pS hK hY) rfl rfl hl.1 rfl (lv_room (Nat.le_of_ble_eq_true rfl)) dX11_queuedAt_15 ⟨Nat.le_of_ble_eq_true rfl, Nat.le_of_ble_eq_true rfl⟩) ?_
  clear hY
  rintro H locs hY
  refine lv_aload_n hx hb dX11_queuedAt_18 rfl (lv_at hl 0 rfl) ?_
  refine G_get (ci := 11) (j := 3) (C := RX11) (T := TX11) (N := 19) (v := .ref (ad 109)) hx hb hg inlX11 hown hK hY (hL 0 (by decide)) gk_0 (by decide) rfl (by decide) tX11_3 (hg _ gw_28) rfl dX11_queuedAt_19 ?_
  refine G_get (ci := 4) (j := 4) (C := RX4) (T := TX4) (N := 9) (v := .ref (ad 110)) hx hb hg inlX4 hown hK hY (hL 109 (by decide)) gk_109 (by decide) rfl (by decide) tX4_4 (hg _ gw_190) rfl dX11_queuedAt_22 ?_
  refine lv_iload_n hx hb dX11_queuedAt_25 rfl (lv_at hl 1 rfl) ?_
  obtain ⟨r_5, e_6, h⟩ := g_bind h
  refine G_ai hY hA (va_runV (As := [.int x1]) (rest := []) ⟨hx, hb, hml, hown, hg⟩ (kX8_whole l D y aS H.size L hL ad N r_1 110 x1 _ gk_110 e_6) (cwV 1 hg ggV_RX11_187_X8_whole rfl rfl rfl (by decide +kernel) ⟨Nat.le_of_ble_eq_true rfl, Nat.le_of_ble_eq_true rfl⟩) (G_pV (q := (RX8, TX8, 2)) hK hY (hL 110 (by decide)) gk_110 (by decide) rfl) rfl rfl hl.1 rfl (lv_room (Nat.le_of_ble_eq_true rfl)) dX11_queuedAt_26 ⟨Nat.le_of_ble_eq_true rfl, Nat.le_of_ble_eq_true rfl⟩) ?_
  clear hY
  rintro _ H locs rfl hY
  cases h
  exact g_iret hx hb hr hlocks () hY.1 hY.2.1 hY.2.2 rfl rfl (Nat.le_of_ble_eq_true rfl) (Nat.le_of_ble_eq_true rfl) dX11_queuedAt_29
theorem ggV_RX11_302_X4_batchWith : GoodIn wsL_law (wsV RX11 302 RX4 yX4_batchWith (Cond.code yX4_batchWith cX4_batchWith 4 (some .int) :: wsL_law)) := g_gi (fun _ h => h) gW_good (List.forall_mem_cons.mpr ⟨⟨gw_474, rfl⟩, List.forall_mem_cons.mpr ⟨⟨gw_475, rfl⟩, List.forall_mem_cons.mpr ⟨⟨gw_476, rfl⟩, List.forall_mem_cons.mpr ⟨⟨gw_27, rfl⟩, fun _ h => nomatch h⟩⟩⟩⟩) ⟨gw_477, rfl⟩
section
variable {p : Program} {l : Launch} {e : Env} {s : State} {m : MethodId} {args : Array Value} {below : List Frame} {meth : Method} {c : Code} {D : va_G} {y : Nat → ClassId} {aS : Nat → Nat} {A : Nat → Prop} {L : List Nat} {ad : Nat → Nat} {N : Nat} {res : (Int32 × gS)}
end
def fX11_batchOf (N : Nat) (σ : gS) (x1 : Int32) : Option (Int32 × gS) := (fX11_needPlace N σ x1 (σ.1 1 4)).bind fun r_1 => (fX11_formBatches N σ).bind fun r_3 => (fX4_batchWith N r_3 x1).bind fun r_5 => some (r_5, r_3)
set_option maxRecDepth 100000 in
set_option maxHeartbeats 4000000 in
theorem kX11_batchOf (l : Launch) (D : va_G) (y : Nat → ClassId) (aS : Nat → Nat) (sz : Nat) (L : List Nat) (hL : ∀ k, k < 179 → k ∈ L) (ad : Nat → Nat) (N : Nat) (σ : gS) (x1 : Int32) (res : (Int32 × gS)) (h : fX11_batchOf N σ x1 = some res) : Met l yX11_batchOf (Cond.code yX11_batchOf cX11_batchOf 2 (some .int) :: wsL_law) ({ frames := 4, cells := 0, slots := 0, locals := 101 } : Room) (va_Pc [.ref (ad 0), .int x1] (gI D y aS (GW L y ad σ) sz)) (va_Qi (fun (r : Int32) (_ : Unit) => r = res.1) (fun _ => gO D (va_A (GW L y ad σ) sz) (GW L y ad res.2)) (va_A (GW L y ad σ) sz)) 0 0 (va_A (GW L y ad σ) sz) := by
  refine g_of (by decide) (Nat.le_of_ble_eq_true rfl) ?_
  intro p e s m below meth c ls A hx hb hr hml hown hg hlocks hin hsz hK hP hD hS hA hAe hl
  rw [← hAe]
  replace hown : s.vm.findClass RX11 = some m.cls := hown
  have hY : gY D y A s L ad σ s.heap [] := ⟨hP, hD, hS⟩
  clear hP hD hS
  replace hl : lv_has ls 2 [(0, .ref (ad 0)), (1, .int x1)] := hl
  unfold fX11_batchOf at h
  refine lv_iload_n hx hb dX11_batchOf_0 rfl (lv_at hl 1 rfl) ?_
  refine lv_aload_n hx hb dX11_batchOf_1 rfl (lv_at hl 0 rfl) ?_
  refine G_get (ci := 11) (j := 0) (C := RX11) (T := TX11) (N := 19) (v := .ref (ad 1)) hx hb hg inlX11 hown hK hY (hL 0 (by decide)) gk_0 (by decide) rfl (by decide) tX11_0 (hg _ gw_16) rfl dX11_batchOf_2 ?_
  refine G_get (ci := 2) (j := 4) (C := RX2) (T := TX2) (N := 5) (v := .int (σ.1 1 4)) hx hb hg inlX2 hown hK hY (hL 1 (by decide)) gk_1 (by decide) rfl (by decide) tX2_4 (hg _ gw_173) rfl dX11_batchOf_5 ?_
  obtain ⟨r_1, e_2, h⟩ := g_bind h
  refine G_av hY hA (va_runS (As := [.int x1, .int (σ.1 1 4)]) (rest := []) ⟨hx, hb, hml, hown, hg⟩ (kX11_needPlace l D y aS s.heap.size L hL ad N σ x1 (σ.1 1 4) _ e_2) (va_cwS 2 hg ggS_RX11_106_X11_needPlace rfl rfl rfl (by decide +kernel) ⟨Nat.le_of_ble_eq_true rfl, Nat.le_of_ble_eq_true rfl⟩) (G_pS hK hY) rfl rfl hl.1 rfl (lv_room (Nat.le_of_ble_eq_true rfl)) dX11_batchOf_8 ⟨Nat.le_of_ble_eq_true rfl, Nat.le_of_ble_eq_true rfl⟩) ?_
  clear hY
  rintro H locs hY
  refine lv_aload_n hx hb dX11_batchOf_11 rfl (lv_at hl 0 rfl) ?_
  obtain ⟨r_3, e_4, h⟩ := g_bind h
  refine G_av hY hA (va_runV (As := []) (rest := []) ⟨hx, hb, hml, hown, hg⟩ (kX11_formBatches l D y aS H.size L hL ad N σ _ e_4) (cwV 0 hg ggV_RX11_204_X11_formBatches rfl rfl rfl (by decide +kernel) ⟨Nat.le_of_ble_eq_true rfl, Nat.le_of_ble_eq_true rfl⟩) (G_pV (q := (RX11, TX11, 19)) hK hY (hL 0 (by decide)) gk_0 (by decide) rfl) rfl rfl hl.1 rfl (lv_room (Nat.le_of_ble_eq_true rfl)) dX11_batchOf_12 ⟨Nat.le_of_ble_eq_true rfl, Nat.le_of_ble_eq_true rfl⟩) ?_
  clear hY
  rintro H locs hY
  refine lv_aload_n hx hb dX11_batchOf_15 rfl (lv_at hl 0 rfl) ?_
  refine G_get (ci := 11) (j := 3) (C := RX11) (T := TX11) (N := 19) (v := .ref (ad 109)) hx hb hg inlX11 hown hK hY (hL 0 (by decide)) gk_0 (by decide) rfl (by decide) tX11_3 (hg _ gw_28) rfl dX11_batchOf_16 ?_
  refine lv_iload_n hx hb dX11_batchOf_19 rfl (lv_at hl 1 rfl) ?_
  obtain ⟨r_5, e_6, h⟩ := g_bind h
  refine G_ai hY hA (va_runV (As := [.int x1]) (rest := []) ⟨hx, hb, hml, hown, hg⟩ (kX4_batchWith l D y aS H.size L hL ad N r_3 x1 _ e_6) (cwV 1 hg ggV_RX11_302_X4_batchWith rfl rfl rfl (by decide +kernel) ⟨Nat.le_of_ble_eq_true rfl, Nat.le_of_ble_eq_true rfl⟩) (G_pV (q := (RX4, TX4, 9)) hK hY (hL 109 (by decide)) gk_109 (by decide) rfl) rfl rfl hl.1 rfl (lv_room (Nat.le_of_ble_eq_true rfl)) dX11_batchOf_20 ⟨Nat.le_of_ble_eq_true rfl, Nat.le_of_ble_eq_true rfl⟩) ?_
  clear hY
  rintro _ H locs rfl hY
  cases h
  exact g_iret hx hb hr hlocks () hY.1 hY.2.1 hY.2.2 rfl rfl (Nat.le_of_ble_eq_true rfl) (Nat.le_of_ble_eq_true rfl) dX11_batchOf_23
theorem ggV_RX11_448_X0_between : GoodIn wsL_law (wsV RX11 448 RX0 yX0_between (Cond.code yX0_between cX0_between 4 (some .int) :: wsL_law)) := g_gi (fun _ h => h) gW_good (List.forall_mem_cons.mpr ⟨⟨gw_609, rfl⟩, List.forall_mem_cons.mpr ⟨⟨gw_610, rfl⟩, List.forall_mem_cons.mpr ⟨⟨gw_611, rfl⟩, List.forall_mem_cons.mpr ⟨⟨gw_31, rfl⟩, fun _ h => nomatch h⟩⟩⟩⟩) ⟨gw_612, rfl⟩
theorem ggV_RX11_338_X9_verdictOf : GoodIn wsL_law (wsV RX11 338 RX9 yX9_verdictOf (Cond.code yX9_verdictOf cX9_verdictOf 5 (some .int) :: wsL_law)) := g_gi (fun _ h => h) gW_good (List.forall_mem_cons.mpr ⟨⟨gw_492, rfl⟩, List.forall_mem_cons.mpr ⟨⟨gw_493, rfl⟩, List.forall_mem_cons.mpr ⟨⟨gw_494, rfl⟩, List.forall_mem_cons.mpr ⟨⟨gw_23, rfl⟩, fun _ h => nomatch h⟩⟩⟩⟩) ⟨gw_495, rfl⟩
section
variable {p : Program} {l : Launch} {e : Env} {s : State} {m : MethodId} {args : Array Value} {below : List Frame} {meth : Method} {c : Code} {D : va_G} {y : Nat → ClassId} {aS : Nat → Nat} {A : Nat → Prop} {L : List Nat} {ad : Nat → Nat} {N : Nat} {res : Int32}
def fX11_verdictOfBeginning_86 (N : Nat) (rec30 : (Int32 × Int32) → Option Int32) (σ : gS) (x2 : Int32) (x3 : Int64) (x5 : Int32) (x6 : Int32) : Option Int32 := rec30 (x5, (x6 + 1))
set_option maxRecDepth 100000 in
set_option maxHeartbeats 4000000 in
theorem wX11_verdictOfBeginning_86 {rec30 : (Int32 × Int32) → Option Int32} {σ : gS} {x2 : Int32} {x3 : Int64} {x5 : Int32} {x6 : Int32} (hx : p.tables.exec = Jvm.exec) (hb : c.code = cX11_verdictOfBeginning) (hr : meth.sig.returnType = (some .int)) (hml : c.maxLocals = 8) (hown : s.vm.findClass RX11 = some m.cls) (hg : ∀ w ∈ wsL_law, w.before args s = true) (hlocks : meth.locks = false) (hK : gK D y aS s) (hA : ∀ q, s.heap.size ≤ q → A q) (hL : ∀ k, k < 179 → k ∈ L) (hrec30 : ∀ {x5n9 : Int32} {x6n9 : Int32} (H : Heap) (locs : List Loc) (ls : Array Slot), gY D y A s L ad σ H locs → lv_has ls 8 [(0, .ref (ad 0)), (2, .int x2), (3, .long x3), (5, .int x5n9), (6, .int x6n9)] → rec30 (x5n9, x6n9) = some res → W p l e ({ frames := 2, cells := 0, slots := 0, locals := 48 } : Room) s m args below meth c H locs 0 0 (MQ below (va_Qi (fun (r : Int32) (_ : Unit) => r = res) (fun _ => gO D A (GW L y ad σ)) A) args s 0 0 A) (F0 m 30 ls [])) {H : Heap} {locs : List Loc} {ls : Array Slot} (hY : gY D y A s L ad σ H locs) (hl : lv_has ls 8 [(0, .ref (ad 0)), (2, .int x2), (3, .long x3), (5, .int x5), (6, .int x6)]) (h : fX11_verdictOfBeginning_86 N rec30 σ x2 x3 x5 x6 = some res) : W p l e ({ frames := 2, cells := 0, slots := 0, locals := 48 } : Room) s m args below meth c H locs 0 0 (MQ below (va_Qi (fun (r : Int32) (_ : Unit) => r = res) (fun _ => gO D A (GW L y ad σ)) A) args s 0 0 A) (F0 m 86 ls []) := by
  unfold fX11_verdictOfBeginning_86 at h
  refine lv_iinc (v := (x6 + 1)) (lv' := [(6, .int (x6 + 1)), (0, .ref (ad 0)), (2, .int x2), (3, .long x3), (5, .int x5)]) hx hb dX11_verdictOfBeginning_86 hl (k := 4) rfl rfl (by decide) rfl ?_
  clear hl
  intro ls hl
  refine lv_goto (tgt := 30) hx hb dX11_verdictOfBeginning_89 (by decide) ?_
  exact hrec30 _ _ _ hY (lv_sub hl [1, 2, 3, 4, 0] rfl) h
def fX11_verdictOfBeginning_30 (N : Nat) (σ : gS) (x2 : Int32) (x3 : Int64) (rec30 : (Int32 × Int32) → Option Int32) (xx : Int32 × Int32) : Option Int32 := match xx with
  | (x5, x6) => if (σ.1 65 5) ≤ x6 then (some x5) else ((fX11_hasBit N σ x2 x6).bind fun r_2 => if r_2 = 0 then (fX11_verdictOfBeginning_86 N rec30 σ x2 x3 x5 x6) else ((fX7_at N σ x6).bind fun r_5 => (fX9_verdictOf N σ r_5 x3).bind fun r_8 => if r_8 = 2 then (some 2) else (if r_8 = 0 then (fX11_verdictOfBeginning_86 N rec30 σ x2 x3 0 x6) else (fX11_verdictOfBeginning_86 N rec30 σ x2 x3 x5 x6))))
set_option maxRecDepth 100000 in
set_option maxHeartbeats 4000000 in
theorem wX11_verdictOfBeginning_30 {σ : gS} {x2 : Int32} {x3 : Int64} (hx : p.tables.exec = Jvm.exec) (hb : c.code = cX11_verdictOfBeginning) (hr : meth.sig.returnType = (some .int)) (hml : c.maxLocals = 8) (hown : s.vm.findClass RX11 = some m.cls) (hg : ∀ w ∈ wsL_law, w.before args s = true) (hlocks : meth.locks = false) (hK : gK D y aS s) (hA : ∀ q, s.heap.size ≤ q → A q) (hL : ∀ k, k < 179 → k ∈ L) : ∀ (n : Nat) {x5 : Int32} {x6 : Int32} (H : Heap) (locs : List Loc) (ls : Array Slot), gY D y A s L ad σ H locs → lv_has ls 8 [(0, .ref (ad 0)), (2, .int x2), (3, .long x3), (5, .int x5), (6, .int x6)] → lp (fX11_verdictOfBeginning_30 N σ x2 x3) n (x5, x6) = some res → W p l e ({ frames := 2, cells := 0, slots := 0, locals := 48 } : Room) s m args below meth c H locs 0 0 (MQ below (va_Qi (fun (r : Int32) (_ : Unit) => r = res) (fun _ => gO D A (GW L y ad σ)) A) args s 0 0 A) (F0 m 30 ls []) := by
  intro n
  induction n with
  | zero => intro x5 x6 H locs ls hY hl h; exact nomatch (show none = some res from h)
  | succ n hrec30 =>
    intro x5 x6 H locs ls hY hl h
    replace h : fX11_verdictOfBeginning_30 N σ x2 x3 (lp (fX11_verdictOfBeginning_30 N σ x2 x3) n) (x5, x6) = some res := h
    generalize lp (fX11_verdictOfBeginning_30 N σ x2 x3) n = rec30 at h hrec30
    unfold fX11_verdictOfBeginning_30 at h
    try dsimp only at h
    refine lv_iload hx hb dX11_verdictOfBeginning_30 (lv_at hl 4 rfl) ?_
    refine lv_aload_n hx hb dX11_verdictOfBeginning_32 rfl (lv_at hl 0 rfl) ?_
    refine G_get (ci := 11) (j := 1) (C := RX11) (T := TX11) (N := 19) (v := .ref (ad 65)) hx hb hg inlX11 hown hK hY (hL 0 (by decide)) gk_0 (by decide) rfl (by decide) tX11_1 (hg _ gw_20) rfl dX11_verdictOfBeginning_33 ?_
    refine G_get (ci := 7) (j := 5) (C := RX7) (T := TX7) (N := 6) (v := .int (σ.1 65 5)) hx hb hg inlX7 hown hK hY (hL 65 (by decide)) gk_65 (by decide) rfl (by decide) tX7_5 (hg _ gw_490) rfl dX11_verdictOfBeginning_36 ?_
    refine lv_icmp_ge (tgt := 92) hx hb dX11_verdictOfBeginning_39 (by decide) (fun z_1 => ?_) (fun z_1 => ?_)
    ·
      rw [if_pos z_1] at h
      refine lv_iload hx hb dX11_verdictOfBeginning_92 (lv_at hl 3 rfl) ?_
      cases h
      exact g_iret hx hb hr hlocks () hY.1 hY.2.1 hY.2.2 rfl rfl (Nat.le_of_ble_eq_true rfl) (Nat.le_of_ble_eq_true rfl) dX11_verdictOfBeginning_94
    ·
      rw [if_neg z_1] at h
      refine lv_iload_n hx hb dX11_verdictOfBeginning_42 rfl (lv_at hl 1 rfl) ?_
      refine lv_iload hx hb dX11_verdictOfBeginning_43 (lv_at hl 4 rfl) ?_
      obtain ⟨r_2, e_3, h⟩ := g_bind h
      refine G_ai hY hA (va_runS (As := [.int x2, .int x6]) (rest := []) ⟨hx, hb, hml, hown, hg⟩ (kX11_hasBit l D y aS H.size L hL ad N σ x2 x6 _ e_3) (va_cwS 2 hg ggS_RX11_175_X11_hasBit rfl rfl rfl (by decide +kernel) ⟨Nat.le_of_ble_eq_true rfl, Nat.le_of_ble_eq_true rfl⟩) (G_pS hK hY) rfl rfl hl.1 rfl (lv_room (Nat.le_of_ble_eq_true rfl)) dX11_verdictOfBeginning_45 ⟨Nat.le_of_ble_eq_true rfl, Nat.le_of_ble_eq_true rfl⟩) ?_
      clear hY
      rintro _ H locs rfl hY
      refine lv_if_eq (tgt := 86) hx hb dX11_verdictOfBeginning_48 (by decide) (fun z_4 => ?_) (fun z_4 => ?_)
      ·
        rw [if_pos z_4] at h
        exact wX11_verdictOfBeginning_86 hx hb hr hml hown hg hlocks hK hA hL hrec30 hY (lv_sub hl [0, 1, 2, 3, 4] rfl) h
      ·
        rw [if_neg z_4] at h
        refine lv_aload_n hx hb dX11_verdictOfBeginning_51 rfl (lv_at hl 0 rfl) ?_
        refine G_get (ci := 11) (j := 2) (C := RX11) (T := TX11) (N := 19) (v := .ref (ad 106)) hx hb hg inlX11 hown hK hY (hL 0 (by decide)) gk_0 (by decide) rfl (by decide) tX11_2 (hg _ gw_24) rfl dX11_verdictOfBeginning_52 ?_
        refine lv_aload_n hx hb dX11_verdictOfBeginning_55 rfl (lv_at hl 0 rfl) ?_
        refine G_get (ci := 11) (j := 1) (C := RX11) (T := TX11) (N := 19) (v := .ref (ad 65)) hx hb hg inlX11 hown hK hY (hL 0 (by decide)) gk_0 (by decide) rfl (by decide) tX11_1 (hg _ gw_20) rfl dX11_verdictOfBeginning_56 ?_
        refine lv_iload hx hb dX11_verdictOfBeginning_59 (lv_at hl 4 rfl) ?_
        obtain ⟨r_5, e_6, h⟩ := g_bind h
        refine G_ar hY hA (va_runV (As := [.int x6]) (rest := [.ref (ad 106)]) ⟨hx, hb, hml, hown, hg⟩ (kX7_at l D y aS H.size L hL ad N σ x6 _ e_6) (cwV 1 hg ggV_RX11_237_X7_at rfl rfl rfl (by decide +kernel) ⟨Nat.le_of_ble_eq_true rfl, Nat.le_of_ble_eq_true rfl⟩) (G_pV (q := (RX7, TX7, 6)) hK hY (hL 65 (by decide)) gk_65 (by decide) rfl) rfl rfl hl.1 rfl (lv_room (Nat.le_of_ble_eq_true rfl)) dX11_verdictOfBeginning_61 ⟨Nat.le_of_ble_eq_true rfl, Nat.le_of_ble_eq_true rfl⟩) ?_
        clear hY
        rintro H locs k_7 hY
        refine lv_lload_n hx hb dX11_verdictOfBeginning_64 rfl (lv_at hl 2 rfl) ?_
        obtain ⟨r_8, e_9, h⟩ := g_bind h
        refine G_ai hY hA (va_runV (As := [.ref (ad r_5), .long x3]) (rest := []) ⟨hx, hb, hml, hown, hg⟩ (kX9_verdictOf l D y aS H.size L hL ad N σ r_5 x3 _ k_7 e_9) (cwV 2 hg ggV_RX11_338_X9_verdictOf rfl rfl rfl (by decide +kernel) ⟨Nat.le_of_ble_eq_true rfl, Nat.le_of_ble_eq_true rfl⟩) (G_pV (q := (RX9, TX9, 3)) hK hY (hL 106 (by decide)) gk_106 (by decide) rfl) rfl rfl hl.1 rfl (lv_room (Nat.le_of_ble_eq_true rfl)) dX11_verdictOfBeginning_65 ⟨Nat.le_of_ble_eq_true rfl, Nat.le_of_ble_eq_true rfl⟩) ?_
        clear hY
        rintro _ H locs rfl hY
        refine lv_istore (lv' := [(7, .int r_8), (0, .ref (ad 0)), (2, .int x2), (3, .long x3), (5, .int x5), (6, .int x6)]) hx hb dX11_verdictOfBeginning_68 hl (by decide) rfl ?_
        clear hl
        intro ls hl
        refine lv_iload hx hb dX11_verdictOfBeginning_70 (lv_at hl 0 rfl) ?_
        refine lv_iconst (v := 2) hx hb dX11_verdictOfBeginning_72 (by decide) ?_
        refine lv_icmp_ne (tgt := 78) hx hb dX11_verdictOfBeginning_73 (by decide) (fun z_10 => ?_) (fun z_10 => ?_)
        ·
          rw [if_neg z_10] at h
          refine lv_iload hx hb dX11_verdictOfBeginning_78 (lv_at hl 0 rfl) ?_
          refine lv_if_ne (tgt := 86) hx hb dX11_verdictOfBeginning_80 (by decide) (fun z_11 => ?_) (fun z_11 => ?_)
          ·
            rw [if_neg z_11] at h
            exact wX11_verdictOfBeginning_86 hx hb hr hml hown hg hlocks hK hA hL hrec30 hY (lv_sub hl [1, 2, 3, 4, 5] rfl) h
          ·
            rw [if_pos z_11] at h
            refine lv_iconst (v := 0) hx hb dX11_verdictOfBeginning_83 (by decide) ?_
            refine lv_istore (lv' := [(5, .int 0), (7, .int r_8), (0, .ref (ad 0)), (2, .int x2), (3, .long x3), (6, .int x6)]) hx hb dX11_verdictOfBeginning_84 hl (by decide) rfl ?_
            clear hl
            intro ls hl
            exact wX11_verdictOfBeginning_86 hx hb hr hml hown hg hlocks hK hA hL hrec30 hY (lv_sub hl [2, 3, 4, 0, 5] rfl) h
        ·
          rw [if_pos z_10] at h
          refine lv_iconst (v := 2) hx hb dX11_verdictOfBeginning_76 (by decide) ?_
          cases h
          exact g_iret hx hb hr hlocks () hY.1 hY.2.1 hY.2.2 rfl rfl (Nat.le_of_ble_eq_true rfl) (Nat.le_of_ble_eq_true rfl) dX11_verdictOfBeginning_77
end
def fX11_verdictOfBeginning (N : Nat) (σ : gS) (x1 : Int32) : Option Int32 := (fX8_whole N σ 121 x1).bind fun r_1 => (fX8_get N σ 119 x1).bind fun r_3 => lp (fX11_verdictOfBeginning_30 N σ r_1 r_3) N (1, 0)
set_option maxRecDepth 100000 in
set_option maxHeartbeats 4000000 in
theorem kX11_verdictOfBeginning (l : Launch) (D : va_G) (y : Nat → ClassId) (aS : Nat → Nat) (sz : Nat) (L : List Nat) (hL : ∀ k, k < 179 → k ∈ L) (ad : Nat → Nat) (N : Nat) (σ : gS) (x1 : Int32) (res : Int32) (h : fX11_verdictOfBeginning N σ x1 = some res) : Met l yX11_verdictOfBeginning (Cond.code yX11_verdictOfBeginning cX11_verdictOfBeginning 8 (some .int) :: wsL_law) ({ frames := 2, cells := 0, slots := 0, locals := 48 } : Room) (va_Pc [.ref (ad 0), .int x1] (gI D y aS (GW L y ad σ) sz)) (va_Qi (fun (r : Int32) (_ : Unit) => r = res) (fun _ => gO D (va_A (GW L y ad σ) sz) (GW L y ad σ)) (va_A (GW L y ad σ) sz)) 0 0 (va_A (GW L y ad σ) sz) := by
  refine g_of (by decide) (Nat.le_of_ble_eq_true rfl) ?_
  intro p e s m below meth c ls A hx hb hr hml hown hg hlocks hin hsz hK hP hD hS hA hAe hl
  rw [← hAe]
  replace hown : s.vm.findClass RX11 = some m.cls := hown
  have hY : gY D y A s L ad σ s.heap [] := ⟨hP, hD, hS⟩
  clear hP hD hS
  replace hl : lv_has ls 8 [(0, .ref (ad 0)), (1, .int x1)] := hl
  unfold fX11_verdictOfBeginning at h
  refine lv_aload_n hx hb dX11_verdictOfBeginning_0 rfl (lv_at hl 0 rfl) ?_
  refine G_get (ci := 11) (j := 4) (C := RX11) (T := TX11) (N := 19) (v := .ref (ad 118)) hx hb hg inlX11 hown hK hY (hL 0 (by decide)) gk_0 (by decide) rfl (by decide) tX11_4 (hg _ gw_32) rfl dX11_verdictOfBeginning_1 ?_
  refine G_get (ci := 0) (j := 1) (C := RX0) (T := TX0) (N := 7) (v := .ref (ad 121)) hx hb hg inlX0 hown hK hY (hL 118 (by decide)) gk_118 (by decide) rfl (by decide) tX0_1 (hg _ gw_607) rfl dX11_verdictOfBeginning_4 ?_
  refine lv_iload_n hx hb dX11_verdictOfBeginning_7 rfl (lv_at hl 1 rfl) ?_
  obtain ⟨r_1, e_2, h⟩ := g_bind h
  refine G_ai hY hA (va_runV (As := [.int x1]) (rest := []) ⟨hx, hb, hml, hown, hg⟩ (kX8_whole l D y aS s.heap.size L hL ad N σ 121 x1 _ gk_121 e_2) (cwV 1 hg ggV_RX11_187_X8_whole rfl rfl rfl (by decide +kernel) ⟨Nat.le_of_ble_eq_true rfl, Nat.le_of_ble_eq_true rfl⟩) (G_pV (q := (RX8, TX8, 2)) hK hY (hL 121 (by decide)) gk_121 (by decide) rfl) rfl rfl hl.1 rfl (lv_room (Nat.le_of_ble_eq_true rfl)) dX11_verdictOfBeginning_8 ⟨Nat.le_of_ble_eq_true rfl, Nat.le_of_ble_eq_true rfl⟩) ?_
  clear hY
  rintro _ H locs rfl hY
  refine lv_istore_n (lv' := [(2, .int r_1), (0, .ref (ad 0)), (1, .int x1)]) hx hb dX11_verdictOfBeginning_11 rfl hl (by decide) rfl ?_
  clear hl
  intro ls hl
  refine lv_aload_n hx hb dX11_verdictOfBeginning_12 rfl (lv_at hl 1 rfl) ?_
  refine G_get (ci := 11) (j := 4) (C := RX11) (T := TX11) (N := 19) (v := .ref (ad 118)) hx hb hg inlX11 hown hK hY (hL 0 (by decide)) gk_0 (by decide) rfl (by decide) tX11_4 (hg _ gw_32) rfl dX11_verdictOfBeginning_13 ?_
  refine G_get (ci := 0) (j := 0) (C := RX0) (T := TX0) (N := 7) (v := .ref (ad 119)) hx hb hg inlX0 hown hK hY (hL 118 (by decide)) gk_118 (by decide) rfl (by decide) tX0_0 (hg _ gw_608) rfl dX11_verdictOfBeginning_16 ?_
  refine lv_iload_n hx hb dX11_verdictOfBeginning_19 rfl (lv_at hl 2 rfl) ?_
  obtain ⟨r_3, e_4, h⟩ := g_bind h
  refine G_al hY hA (va_runV (As := [.int x1]) (rest := []) ⟨hx, hb, hml, hown, hg⟩ (kX8_get l D y aS H.size L hL ad N σ 119 x1 _ gk_119 e_4) (cwV 1 hg ggV_RX11_218_X8_get rfl rfl rfl (by decide +kernel) ⟨Nat.le_of_ble_eq_true rfl, Nat.le_of_ble_eq_true rfl⟩) (G_pV (q := (RX8, TX8, 2)) hK hY (hL 119 (by decide)) gk_119 (by decide) rfl) rfl rfl hl.1 rfl (lv_room (Nat.le_of_ble_eq_true rfl)) dX11_verdictOfBeginning_20 ⟨Nat.le_of_ble_eq_true rfl, Nat.le_of_ble_eq_true rfl⟩) ?_
  clear hY
  rintro _ H locs rfl hY
  refine lv_lstore_n (lv' := [(3, .long r_3), (2, .int r_1), (0, .ref (ad 0)), (1, .int x1)]) hx hb dX11_verdictOfBeginning_23 rfl hl (by decide) rfl ?_
  clear hl
  intro ls hl
  refine lv_iconst (v := 1) hx hb dX11_verdictOfBeginning_24 (by decide) ?_
  refine lv_istore (lv' := [(5, .int 1), (3, .long r_3), (2, .int r_1), (0, .ref (ad 0)), (1, .int x1)]) hx hb dX11_verdictOfBeginning_25 hl (by decide) rfl ?_
  clear hl
  intro ls hl
  refine lv_iconst (v := 0) hx hb dX11_verdictOfBeginning_27 (by decide) ?_
  refine lv_istore (lv' := [(6, .int 0), (5, .int 1), (3, .long r_3), (2, .int r_1), (0, .ref (ad 0)), (1, .int x1)]) hx hb dX11_verdictOfBeginning_28 hl (by decide) rfl ?_
  clear hl
  intro ls hl
  exact wX11_verdictOfBeginning_30 hx hb hr hml hown hg hlocks hK hA hL N _ _ _ hY (lv_sub hl [4, 3, 2, 1, 0] rfl) h
theorem ggV_RX11_442_X11_verdictOfBeginning : GoodIn wsL_law (wsV RX11 442 RX11 yX11_verdictOfBeginning (Cond.code yX11_verdictOfBeginning cX11_verdictOfBeginning 8 (some .int) :: wsL_law)) := g_gi (fun _ h => h) gW_good (List.forall_mem_cons.mpr ⟨⟨gw_603, rfl⟩, List.forall_mem_cons.mpr ⟨⟨gw_604, rfl⟩, List.forall_mem_cons.mpr ⟨⟨gw_605, rfl⟩, List.forall_mem_cons.mpr ⟨⟨gw_2, rfl⟩, fun _ h => nomatch h⟩⟩⟩⟩) ⟨gw_606, rfl⟩
theorem ggV_RX11_431_X4_endOf : GoodIn wsL_law (wsV RX11 431 RX4 yX4_endOf (Cond.code yX4_endOf cX4_endOf 2 (some .int) :: wsL_law)) := g_gi (fun _ h => h) gW_good (List.forall_mem_cons.mpr ⟨⟨gw_592, rfl⟩, List.forall_mem_cons.mpr ⟨⟨gw_593, rfl⟩, List.forall_mem_cons.mpr ⟨⟨gw_594, rfl⟩, List.forall_mem_cons.mpr ⟨⟨gw_27, rfl⟩, fun _ h => nomatch h⟩⟩⟩⟩) ⟨gw_595, rfl⟩
theorem ggV_RX11_440_X0_add : GoodIn wsL_law (wsV RX11 440 RX0 yX0_add (Cond.code yX0_add cX0_add 3 none :: wsL_law)) := g_gi (fun _ h => h) gW_good (List.forall_mem_cons.mpr ⟨⟨gw_596, rfl⟩, List.forall_mem_cons.mpr ⟨⟨gw_597, rfl⟩, List.forall_mem_cons.mpr ⟨⟨gw_598, rfl⟩, List.forall_mem_cons.mpr ⟨⟨gw_31, rfl⟩, fun _ h => nomatch h⟩⟩⟩⟩) ⟨gw_599, rfl⟩
theorem ggV_RX11_437_X0_start : GoodIn wsL_law (wsV RX11 437 RX0 yX0_start (Cond.code yX0_start cX0_start 3 none :: wsL_law)) := g_gi (fun _ h => h) gW_good (List.forall_mem_cons.mpr ⟨⟨gw_583, rfl⟩, List.forall_mem_cons.mpr ⟨⟨gw_584, rfl⟩, List.forall_mem_cons.mpr ⟨⟨gw_585, rfl⟩, List.forall_mem_cons.mpr ⟨⟨gw_31, rfl⟩, fun _ h => nomatch h⟩⟩⟩⟩) ⟨gw_586, rfl⟩
section
variable {p : Program} {l : Launch} {e : Env} {s : State} {m : MethodId} {args : Array Value} {below : List Frame} {meth : Method} {c : Code} {D : va_G} {y : Nat → ClassId} {aS : Nat → Nat} {A : Nat → Prop} {L : List Nat} {ad : Nat → Nat} {N : Nat} {res : gS}
def fX11_lookAtFirstBatch_185 (N : Nat) (σ : gS) : Option gS := some σ
set_option maxRecDepth 100000 in
set_option maxHeartbeats 4000000 in
theorem wX11_lookAtFirstBatch_185 {σ : gS} (hx : p.tables.exec = Jvm.exec) (hb : c.code = cX11_lookAtFirstBatch) (hr : meth.sig.returnType = none) (hml : c.maxLocals = 4) (hown : s.vm.findClass RX11 = some m.cls) (hg : ∀ w ∈ wsL_law, w.before args s = true) (hlocks : meth.locks = false) (hK : gK D y aS s) (hA : ∀ q, s.heap.size ≤ q → A q) (hL : ∀ k, k < 179 → k ∈ L) {H : Heap} {locs : List Loc} {ls : Array Slot} (hY : gY D y A s L ad σ H locs) (hl : lv_has ls 4 []) (h : fX11_lookAtFirstBatch_185 N σ = some res) : W p l e ({ frames := 3, cells := 0, slots := 0, locals := 75 } : Room) s m args below meth c H locs 0 0 (MQ below (va_Qv (fun (_ : Unit) => True) (fun _ => gO D A (GW L y ad res)) A) args s 0 0 A) (F0 m 185 ls []) := by
  unfold fX11_lookAtFirstBatch_185 at h
  cases h
  exact g_vret hx hb hr hlocks () hY.1 hY.2.1 hY.2.2 trivial (Nat.le_of_ble_eq_true rfl) (Nat.le_of_ble_eq_true rfl) dX11_lookAtFirstBatch_185
def fX11_lookAtFirstBatch_179 (N : Nat) (rec103 : (gS × Int32) → Option gS) (σ : gS) (x1 : Int32) : Option gS := rec103 (σ, (x1 + 1))
set_option maxRecDepth 100000 in
set_option maxHeartbeats 4000000 in
theorem wX11_lookAtFirstBatch_179 {rec103 : (gS × Int32) → Option gS} {σ : gS} {x1 : Int32} (hx : p.tables.exec = Jvm.exec) (hb : c.code = cX11_lookAtFirstBatch) (hr : meth.sig.returnType = none) (hml : c.maxLocals = 4) (hown : s.vm.findClass RX11 = some m.cls) (hg : ∀ w ∈ wsL_law, w.before args s = true) (hlocks : meth.locks = false) (hK : gK D y aS s) (hA : ∀ q, s.heap.size ≤ q → A q) (hL : ∀ k, k < 179 → k ∈ L) (hrec103 : ∀ {σ9 : gS} {x1n9 : Int32} (H : Heap) (locs : List Loc) (ls : Array Slot), gY D y A s L ad σ9 H locs → lv_has ls 4 [(0, .ref (ad 0)), (1, .int x1n9)] → rec103 (σ9, x1n9) = some res → W p l e ({ frames := 3, cells := 0, slots := 0, locals := 75 } : Room) s m args below meth c H locs 0 0 (MQ below (va_Qv (fun (_ : Unit) => True) (fun _ => gO D A (GW L y ad res)) A) args s 0 0 A) (F0 m 103 ls [])) {H : Heap} {locs : List Loc} {ls : Array Slot} (hY : gY D y A s L ad σ H locs) (hl : lv_has ls 4 [(0, .ref (ad 0)), (1, .int x1)]) (h : fX11_lookAtFirstBatch_179 N rec103 σ x1 = some res) : W p l e ({ frames := 3, cells := 0, slots := 0, locals := 75 } : Room) s m args below meth c H locs 0 0 (MQ below (va_Qv (fun (_ : Unit) => True) (fun _ => gO D A (GW L y ad res)) A) args s 0 0 A) (F0 m 179 ls []) := by
  unfold fX11_lookAtFirstBatch_179 at h
  refine lv_iinc (v := (x1 + 1)) (lv' := [(1, .int (x1 + 1)), (0, .ref (ad 0))]) hx hb dX11_lookAtFirstBatch_179 hl (k := 1) rfl rfl (by decide) rfl ?_
  clear hl
  intro ls hl
  refine lv_goto (tgt := 103) hx hb dX11_lookAtFirstBatch_182 (by decide) ?_
  exact hrec103 _ _ _ hY (lv_sub hl [1, 0] rfl) h
def fX11_lookAtFirstBatch_103 (N : Nat) (rec103 : (gS × Int32) → Option gS) (xx : gS × Int32) : Option gS := match xx with
  | (σ, x1) => if 8 ≤ x1 then (fX11_lookAtFirstBatch_185 N σ) else (if ((σ.1 118 5) - (σ.1 118 4)) ≤ 1 then (fX11_lookAtFirstBatch_185 N σ) else ((fX0_between N σ).bind fun r_3 => (fX11_verdictOfBeginning N σ r_3).bind fun r_5 => if r_5 = 0 then (some (sI σ 118 6 r_3)) else (if r_5 = 1 then (fX11_lookAtFirstBatch_179 N rec103 (sI σ 118 4 r_3) x1) else (fX11_lookAtFirstBatch_179 N rec103 (sI σ 118 5 r_3) x1))))
set_option maxRecDepth 100000 in
set_option maxHeartbeats 4000000 in
theorem wX11_lookAtFirstBatch_103 (hx : p.tables.exec = Jvm.exec) (hb : c.code = cX11_lookAtFirstBatch) (hr : meth.sig.returnType = none) (hml : c.maxLocals = 4) (hown : s.vm.findClass RX11 = some m.cls) (hg : ∀ w ∈ wsL_law, w.before args s = true) (hlocks : meth.locks = false) (hK : gK D y aS s) (hA : ∀ q, s.heap.size ≤ q → A q) (hL : ∀ k, k < 179 → k ∈ L) : ∀ (n : Nat) {σ : gS} {x1 : Int32} (H : Heap) (locs : List Loc) (ls : Array Slot), gY D y A s L ad σ H locs → lv_has ls 4 [(0, .ref (ad 0)), (1, .int x1)] → lp (fX11_lookAtFirstBatch_103 N) n (σ, x1) = some res → W p l e ({ frames := 3, cells := 0, slots := 0, locals := 75 } : Room) s m args below meth c H locs 0 0 (MQ below (va_Qv (fun (_ : Unit) => True) (fun _ => gO D A (GW L y ad res)) A) args s 0 0 A) (F0 m 103 ls []) := by
  intro n
  induction n with
  | zero => intro σ x1 H locs ls hY hl h; exact nomatch (show none = some res from h)
  | succ n hrec103 =>
    intro σ x1 H locs ls hY hl h
    replace h : fX11_lookAtFirstBatch_103 N (lp (fX11_lookAtFirstBatch_103 N) n) (σ, x1) = some res := h
    generalize lp (fX11_lookAtFirstBatch_103 N) n = rec103 at h hrec103
    unfold fX11_lookAtFirstBatch_103 at h
    try dsimp only at h
    refine lv_iload_n hx hb dX11_lookAtFirstBatch_103 rfl (lv_at hl 1 rfl) ?_
    refine lv_bipush (v := 8) hx hb dX11_lookAtFirstBatch_104 (by decide +kernel) ?_
    refine lv_icmp_ge (tgt := 185) hx hb dX11_lookAtFirstBatch_106 (by decide) (fun z_1 => ?_) (fun z_1 => ?_)
    ·
      rw [if_pos z_1] at h
      exact wX11_lookAtFirstBatch_185 hx hb hr hml hown hg hlocks hK hA hL hY (lv_sub hl [] rfl) h
    ·
      rw [if_neg z_1] at h
      refine lv_aload_n hx hb dX11_lookAtFirstBatch_109 rfl (lv_at hl 0 rfl) ?_
      refine G_get (ci := 11) (j := 4) (C := RX11) (T := TX11) (N := 19) (v := .ref (ad 118)) hx hb hg inlX11 hown hK hY (hL 0 (by decide)) gk_0 (by decide) rfl (by decide) tX11_4 (hg _ gw_32) rfl dX11_lookAtFirstBatch_110 ?_
      refine G_get (ci := 0) (j := 5) (C := RX0) (T := TX0) (N := 7) (v := .int (σ.1 118 5)) hx hb hg inlX0 hown hK hY (hL 118 (by decide)) gk_118 (by decide) rfl (by decide) tX0_5 (hg _ gw_579) rfl dX11_lookAtFirstBatch_113 ?_
      refine lv_aload_n hx hb dX11_lookAtFirstBatch_116 rfl (lv_at hl 0 rfl) ?_
      refine G_get (ci := 11) (j := 4) (C := RX11) (T := TX11) (N := 19) (v := .ref (ad 118)) hx hb hg inlX11 hown hK hY (hL 0 (by decide)) gk_0 (by decide) rfl (by decide) tX11_4 (hg _ gw_32) rfl dX11_lookAtFirstBatch_117 ?_
      refine G_get (ci := 0) (j := 4) (C := RX0) (T := TX0) (N := 7) (v := .int (σ.1 118 4)) hx hb hg inlX0 hown hK hY (hL 118 (by decide)) gk_118 (by decide) rfl (by decide) tX0_4 (hg _ gw_581) rfl dX11_lookAtFirstBatch_120 ?_
      refine lv_isub hx hb dX11_lookAtFirstBatch_123 ?_
      refine lv_iconst (v := 1) hx hb dX11_lookAtFirstBatch_124 (by decide) ?_
      refine lv_icmp_le (tgt := 185) hx hb dX11_lookAtFirstBatch_125 (by decide) (fun z_2 => ?_) (fun z_2 => ?_)
      ·
        rw [if_pos z_2] at h
        exact wX11_lookAtFirstBatch_185 hx hb hr hml hown hg hlocks hK hA hL hY (lv_sub hl [] rfl) h
      ·
        rw [if_neg z_2] at h
        refine lv_aload_n hx hb dX11_lookAtFirstBatch_128 rfl (lv_at hl 0 rfl) ?_
        refine G_get (ci := 11) (j := 4) (C := RX11) (T := TX11) (N := 19) (v := .ref (ad 118)) hx hb hg inlX11 hown hK hY (hL 0 (by decide)) gk_0 (by decide) rfl (by decide) tX11_4 (hg _ gw_32) rfl dX11_lookAtFirstBatch_129 ?_
        obtain ⟨r_3, e_4, h⟩ := g_bind h
        refine G_ai hY hA (va_runV (As := []) (rest := []) ⟨hx, hb, hml, hown, hg⟩ (kX0_between l D y aS H.size L hL ad N σ _ e_4) (cwV 0 hg ggV_RX11_448_X0_between rfl rfl rfl (by decide +kernel) ⟨Nat.le_of_ble_eq_true rfl, Nat.le_of_ble_eq_true rfl⟩) (G_pV (q := (RX0, TX0, 7)) hK hY (hL 118 (by decide)) gk_118 (by decide) rfl) rfl rfl hl.1 rfl (lv_room (Nat.le_of_ble_eq_true rfl)) dX11_lookAtFirstBatch_132 ⟨Nat.le_of_ble_eq_true rfl, Nat.le_of_ble_eq_true rfl⟩) ?_
        clear hY
        rintro _ H locs rfl hY
        refine lv_istore_n (lv' := [(2, .int r_3), (0, .ref (ad 0)), (1, .int x1)]) hx hb dX11_lookAtFirstBatch_135 rfl hl (by decide) rfl ?_
        clear hl
        intro ls hl
        refine lv_aload_n hx hb dX11_lookAtFirstBatch_136 rfl (lv_at hl 1 rfl) ?_
        refine lv_iload_n hx hb dX11_lookAtFirstBatch_137 rfl (lv_at hl 0 rfl) ?_
        obtain ⟨r_5, e_6, h⟩ := g_bind h
        refine G_ai hY hA (va_runV (As := [.int r_3]) (rest := []) ⟨hx, hb, hml, hown, hg⟩ (kX11_verdictOfBeginning l D y aS H.size L hL ad N σ r_3 _ e_6) (cwV 1 hg ggV_RX11_442_X11_verdictOfBeginning rfl rfl rfl (by decide +kernel) ⟨Nat.le_of_ble_eq_true rfl, Nat.le_of_ble_eq_true rfl⟩) (G_pV (q := (RX11, TX11, 19)) hK hY (hL 0 (by decide)) gk_0 (by decide) rfl) rfl rfl hl.1 rfl (lv_room (Nat.le_of_ble_eq_true rfl)) dX11_lookAtFirstBatch_138 ⟨Nat.le_of_ble_eq_true rfl, Nat.le_of_ble_eq_true rfl⟩) ?_
        clear hY
        rintro _ H locs rfl hY
        refine lv_istore_n (lv' := [(3, .int r_5), (2, .int r_3), (0, .ref (ad 0)), (1, .int x1)]) hx hb dX11_lookAtFirstBatch_141 rfl hl (by decide) rfl ?_
        clear hl
        intro ls hl
        refine lv_iload_n hx hb dX11_lookAtFirstBatch_142 rfl (lv_at hl 0 rfl) ?_
        refine lv_if_ne (tgt := 155) hx hb dX11_lookAtFirstBatch_143 (by decide) (fun z_7 => ?_) (fun z_7 => ?_)
        ·
          rw [if_neg z_7] at h
          refine lv_iload_n hx hb dX11_lookAtFirstBatch_155 rfl (lv_at hl 0 rfl) ?_
          refine lv_iconst (v := 1) hx hb dX11_lookAtFirstBatch_156 (by decide) ?_
          refine lv_icmp_ne (tgt := 171) hx hb dX11_lookAtFirstBatch_157 (by decide) (fun z_8 => ?_) (fun z_8 => ?_)
          ·
            rw [if_neg z_8] at h
            refine lv_aload_n hx hb dX11_lookAtFirstBatch_171 rfl (lv_at hl 2 rfl) ?_
            refine G_get (ci := 11) (j := 4) (C := RX11) (T := TX11) (N := 19) (v := .ref (ad 118)) hx hb hg inlX11 hown hK hY (hL 0 (by decide)) gk_0 (by decide) rfl (by decide) tX11_4 (hg _ gw_32) rfl dX11_lookAtFirstBatch_172 ?_
            refine lv_iload_n hx hb dX11_lookAtFirstBatch_175 rfl (lv_at hl 1 rfl) ?_
            refine G_putI (ci := 0) (j := 5) (C := RX0) (T := TX0) (N := 7) (v := r_3) (ty := .int) hx hb hg inlX0 tyX0 tyX0_ok nmX0 hown hK hY (hL 118 (by decide)) gk_118 (by decide) rfl (by decide) tX0_5 (hg _ gw_579) (by decide +kernel) rfl rfl (fun _ _ => rfl) (fun _ _ => Nat.le_of_ble_eq_true rfl) dX11_lookAtFirstBatch_176 ?_
            clear hY
            intro H locs hY
            exact wX11_lookAtFirstBatch_179 hx hb hr hml hown hg hlocks hK hA hL hrec103 hY (lv_sub hl [2, 3] rfl) h
          ·
            rw [if_pos z_8] at h
            refine lv_aload_n hx hb dX11_lookAtFirstBatch_160 rfl (lv_at hl 2 rfl) ?_
            refine G_get (ci := 11) (j := 4) (C := RX11) (T := TX11) (N := 19) (v := .ref (ad 118)) hx hb hg inlX11 hown hK hY (hL 0 (by decide)) gk_0 (by decide) rfl (by decide) tX11_4 (hg _ gw_32) rfl dX11_lookAtFirstBatch_161 ?_
            refine lv_iload_n hx hb dX11_lookAtFirstBatch_164 rfl (lv_at hl 1 rfl) ?_
            refine G_putI (ci := 0) (j := 4) (C := RX0) (T := TX0) (N := 7) (v := r_3) (ty := .int) hx hb hg inlX0 tyX0 tyX0_ok nmX0 hown hK hY (hL 118 (by decide)) gk_118 (by decide) rfl (by decide) tX0_4 (hg _ gw_581) (by decide +kernel) rfl rfl (fun _ _ => rfl) (fun _ _ => Nat.le_of_ble_eq_true rfl) dX11_lookAtFirstBatch_165 ?_
            clear hY
            intro H locs hY
            refine lv_goto (tgt := 179) hx hb dX11_lookAtFirstBatch_168 (by decide) ?_
            exact wX11_lookAtFirstBatch_179 hx hb hr hml hown hg hlocks hK hA hL hrec103 hY (lv_sub hl [2, 3] rfl) h
        ·
          rw [if_pos z_7] at h
          refine lv_aload_n hx hb dX11_lookAtFirstBatch_146 rfl (lv_at hl 2 rfl) ?_
          refine G_get (ci := 11) (j := 4) (C := RX11) (T := TX11) (N := 19) (v := .ref (ad 118)) hx hb hg inlX11 hown hK hY (hL 0 (by decide)) gk_0 (by decide) rfl (by decide) tX11_4 (hg _ gw_32) rfl dX11_lookAtFirstBatch_147 ?_
          refine lv_iload_n hx hb dX11_lookAtFirstBatch_150 rfl (lv_at hl 1 rfl) ?_
          refine G_putI (ci := 0) (j := 6) (C := RX0) (T := TX0) (N := 7) (v := r_3) (ty := .int) hx hb hg inlX0 tyX0 tyX0_ok nmX0 hown hK hY (hL 118 (by decide)) gk_118 (by decide) rfl (by decide) tX0_6 (hg _ gw_582) (by decide +kernel) rfl rfl (fun _ _ => rfl) (fun _ _ => Nat.le_of_ble_eq_true rfl) dX11_lookAtFirstBatch_151 ?_
          clear hY
          intro H locs hY
          cases h
          exact g_vret hx hb hr hlocks () hY.1 hY.2.1 hY.2.2 trivial (Nat.le_of_ble_eq_true rfl) (Nat.le_of_ble_eq_true rfl) dX11_lookAtFirstBatch_154
def fX11_lookAtFirstBatch_13 (N : Nat) (rec13 : (gS × Int32) → Option gS) (xx : gS × Int32) : Option gS := match xx with
  | (σ, x1) => (fX4_endOf N σ (0 : Int32)).bind fun r_1 => if r_1 ≤ x1 then ((fX11_verdictOfBeginning N σ (σ.1 118 5)).bind fun r_4 => if ((sI σ 118 3 r_4).1 118 3) = 2 then (lp (fX11_lookAtFirstBatch_103 N) N ((sI σ 118 3 r_4), 0)) else (some (sI σ 118 3 r_4))) else ((fX8_whole N σ 112 x1).bind fun r_7 => (fX2_at N σ r_7).bind fun r_9 => (fX8_whole N σ 159 (σ.1 r_9 1)).bind fun r_12 => (fX0_add N σ r_9 (1 + r_12)).bind fun r_14 => rec13 (r_14, (x1 + 1)))
set_option maxRecDepth 100000 in
set_option maxHeartbeats 4000000 in
theorem wX11_lookAtFirstBatch_13 (hx : p.tables.exec = Jvm.exec) (hb : c.code = cX11_lookAtFirstBatch) (hr : meth.sig.returnType = none) (hml : c.maxLocals = 4) (hown : s.vm.findClass RX11 = some m.cls) (hg : ∀ w ∈ wsL_law, w.before args s = true) (hlocks : meth.locks = false) (hK : gK D y aS s) (hA : ∀ q, s.heap.size ≤ q → A q) (hL : ∀ k, k < 179 → k ∈ L) : ∀ (n : Nat) {σ : gS} {x1 : Int32} (H : Heap) (locs : List Loc) (ls : Array Slot), gY D y A s L ad σ H locs → lv_has ls 4 [(0, .ref (ad 0)), (1, .int x1)] → lp (fX11_lookAtFirstBatch_13 N) n (σ, x1) = some res → W p l e ({ frames := 3, cells := 0, slots := 0, locals := 75 } : Room) s m args below meth c H locs 0 0 (MQ below (va_Qv (fun (_ : Unit) => True) (fun _ => gO D A (GW L y ad res)) A) args s 0 0 A) (F0 m 13 ls []) := by
  intro n
  induction n with
  | zero => intro σ x1 H locs ls hY hl h; exact nomatch (show none = some res from h)
  | succ n hrec13 =>
    intro σ x1 H locs ls hY hl h
    replace h : fX11_lookAtFirstBatch_13 N (lp (fX11_lookAtFirstBatch_13 N) n) (σ, x1) = some res := h
    generalize lp (fX11_lookAtFirstBatch_13 N) n = rec13 at h hrec13
    unfold fX11_lookAtFirstBatch_13 at h
    try dsimp only at h
    refine lv_iload_n hx hb dX11_lookAtFirstBatch_13 rfl (lv_at hl 1 rfl) ?_
    refine lv_aload_n hx hb dX11_lookAtFirstBatch_14 rfl (lv_at hl 0 rfl) ?_
    refine G_get (ci := 11) (j := 3) (C := RX11) (T := TX11) (N := 19) (v := .ref (ad 109)) hx hb hg inlX11 hown hK hY (hL 0 (by decide)) gk_0 (by decide) rfl (by decide) tX11_3 (hg _ gw_28) rfl dX11_lookAtFirstBatch_15 ?_
    refine lv_iconst (v := 0) hx hb dX11_lookAtFirstBatch_18 (by decide) ?_
    obtain ⟨r_1, e_2, h⟩ := g_bind h
    refine G_ai hY hA (va_runV (As := [.int 0]) (rest := [.int x1]) ⟨hx, hb, hml, hown, hg⟩ (kX4_endOf l D y aS H.size L hL ad N σ (0 : Int32) _ e_2) (cwV 1 hg ggV_RX11_431_X4_endOf rfl rfl rfl (by decide +kernel) ⟨Nat.le_of_ble_eq_true rfl, Nat.le_of_ble_eq_true rfl⟩) (G_pV (q := (RX4, TX4, 9)) hK hY (hL 109 (by decide)) gk_109 (by decide) rfl) rfl rfl hl.1 rfl (lv_room (Nat.le_of_ble_eq_true rfl)) dX11_lookAtFirstBatch_19 ⟨Nat.le_of_ble_eq_true rfl, Nat.le_of_ble_eq_true rfl⟩) ?_
    clear hY
    rintro _ H locs rfl hY
    refine lv_icmp_ge (tgt := 71) hx hb dX11_lookAtFirstBatch_22 (by decide) (fun z_3 => ?_) (fun z_3 => ?_)
    ·
      rw [if_pos z_3] at h
      refine lv_aload_n hx hb dX11_lookAtFirstBatch_71 rfl (lv_at hl 0 rfl) ?_
      refine G_get (ci := 11) (j := 4) (C := RX11) (T := TX11) (N := 19) (v := .ref (ad 118)) hx hb hg inlX11 hown hK hY (hL 0 (by decide)) gk_0 (by decide) rfl (by decide) tX11_4 (hg _ gw_32) rfl dX11_lookAtFirstBatch_72 ?_
      refine lv_aload_n hx hb dX11_lookAtFirstBatch_75 rfl (lv_at hl 0 rfl) ?_
      refine lv_aload_n hx hb dX11_lookAtFirstBatch_76 rfl (lv_at hl 0 rfl) ?_
      refine G_get (ci := 11) (j := 4) (C := RX11) (T := TX11) (N := 19) (v := .ref (ad 118)) hx hb hg inlX11 hown hK hY (hL 0 (by decide)) gk_0 (by decide) rfl (by decide) tX11_4 (hg _ gw_32) rfl dX11_lookAtFirstBatch_77 ?_
      refine G_get (ci := 0) (j := 5) (C := RX0) (T := TX0) (N := 7) (v := .int (σ.1 118 5)) hx hb hg inlX0 hown hK hY (hL 118 (by decide)) gk_118 (by decide) rfl (by decide) tX0_5 (hg _ gw_579) rfl dX11_lookAtFirstBatch_80 ?_
      obtain ⟨r_4, e_5, h⟩ := g_bind h
      refine G_ai hY hA (va_runV (As := [.int (σ.1 118 5)]) (rest := [.ref (ad 118)]) ⟨hx, hb, hml, hown, hg⟩ (kX11_verdictOfBeginning l D y aS H.size L hL ad N σ (σ.1 118 5) _ e_5) (cwV 1 hg ggV_RX11_442_X11_verdictOfBeginning rfl rfl rfl (by decide +kernel) ⟨Nat.le_of_ble_eq_true rfl, Nat.le_of_ble_eq_true rfl⟩) (G_pV (q := (RX11, TX11, 19)) hK hY (hL 0 (by decide)) gk_0 (by decide) rfl) rfl rfl hl.1 rfl (lv_room (Nat.le_of_ble_eq_true rfl)) dX11_lookAtFirstBatch_83 ⟨Nat.le_of_ble_eq_true rfl, Nat.le_of_ble_eq_true rfl⟩) ?_
      clear hY
      rintro _ H locs rfl hY
      refine G_putI (ci := 0) (j := 3) (C := RX0) (T := TX0) (N := 7) (v := r_4) (ty := .int) hx hb hg inlX0 tyX0 tyX0_ok nmX0 hown hK hY (hL 118 (by decide)) gk_118 (by decide) rfl (by decide) tX0_3 (hg _ gw_580) (by decide +kernel) rfl rfl (fun _ _ => rfl) (fun _ _ => Nat.le_of_ble_eq_true rfl) dX11_lookAtFirstBatch_86 ?_
      clear hY
      intro H locs hY
      refine lv_aload_n hx hb dX11_lookAtFirstBatch_89 rfl (lv_at hl 0 rfl) ?_
      refine G_get (ci := 11) (j := 4) (C := RX11) (T := TX11) (N := 19) (v := .ref (ad 118)) hx hb hg inlX11 hown hK hY (hL 0 (by decide)) gk_0 (by decide) rfl (by decide) tX11_4 (hg _ gw_32) rfl dX11_lookAtFirstBatch_90 ?_
      refine G_get (ci := 0) (j := 3) (C := RX0) (T := TX0) (N := 7) (v := .int ((sI σ 118 3 r_4).1 118 3)) hx hb hg inlX0 hown hK hY (hL 118 (by decide)) gk_118 (by decide) rfl (by decide) tX0_3 (hg _ gw_580) rfl dX11_lookAtFirstBatch_93 ?_
      refine lv_iconst (v := 2) hx hb dX11_lookAtFirstBatch_96 (by decide) ?_
      refine lv_icmp_eq (tgt := 101) hx hb dX11_lookAtFirstBatch_97 (by decide) (fun z_6 => ?_) (fun z_6 => ?_)
      ·
        rw [if_pos z_6] at h
        refine lv_iconst (v := 0) hx hb dX11_lookAtFirstBatch_101 (by decide) ?_
        refine lv_istore_n (lv' := [(1, .int 0), (0, .ref (ad 0))]) hx hb dX11_lookAtFirstBatch_102 rfl hl (by decide) rfl ?_
        clear hl
        intro ls hl
        exact wX11_lookAtFirstBatch_103 hx hb hr hml hown hg hlocks hK hA hL N _ _ _ hY (lv_sub hl [1, 0] rfl) h
      ·
        rw [if_neg z_6] at h
        cases h
        exact g_vret hx hb hr hlocks () hY.1 hY.2.1 hY.2.2 trivial (Nat.le_of_ble_eq_true rfl) (Nat.le_of_ble_eq_true rfl) dX11_lookAtFirstBatch_100
    ·
      rw [if_neg z_3] at h
      refine lv_aload_n hx hb dX11_lookAtFirstBatch_25 rfl (lv_at hl 0 rfl) ?_
      refine G_get (ci := 11) (j := 0) (C := RX11) (T := TX11) (N := 19) (v := .ref (ad 1)) hx hb hg inlX11 hown hK hY (hL 0 (by decide)) gk_0 (by decide) rfl (by decide) tX11_0 (hg _ gw_16) rfl dX11_lookAtFirstBatch_26 ?_
      refine lv_aload_n hx hb dX11_lookAtFirstBatch_29 rfl (lv_at hl 0 rfl) ?_
      refine G_get (ci := 11) (j := 3) (C := RX11) (T := TX11) (N := 19) (v := .ref (ad 109)) hx hb hg inlX11 hown hK hY (hL 0 (by decide)) gk_0 (by decide) rfl (by decide) tX11_3 (hg _ gw_28) rfl dX11_lookAtFirstBatch_30 ?_
      refine G_get (ci := 4) (j := 5) (C := RX4) (T := TX4) (N := 9) (v := .ref (ad 112)) hx hb hg inlX4 hown hK hY (hL 109 (by decide)) gk_109 (by decide) rfl (by decide) tX4_5 (hg _ gw_577) rfl dX11_lookAtFirstBatch_33 ?_
      refine lv_iload_n hx hb dX11_lookAtFirstBatch_36 rfl (lv_at hl 1 rfl) ?_
      obtain ⟨r_7, e_8, h⟩ := g_bind h
      refine G_ai hY hA (va_runV (As := [.int x1]) (rest := [.ref (ad 1)]) ⟨hx, hb, hml, hown, hg⟩ (kX8_whole l D y aS H.size L hL ad N σ 112 x1 _ gk_112 e_8) (cwV 1 hg ggV_RX11_187_X8_whole rfl rfl rfl (by decide +kernel) ⟨Nat.le_of_ble_eq_true rfl, Nat.le_of_ble_eq_true rfl⟩) (G_pV (q := (RX8, TX8, 2)) hK hY (hL 112 (by decide)) gk_112 (by decide) rfl) rfl rfl hl.1 rfl (lv_room (Nat.le_of_ble_eq_true rfl)) dX11_lookAtFirstBatch_37 ⟨Nat.le_of_ble_eq_true rfl, Nat.le_of_ble_eq_true rfl⟩) ?_
      clear hY
      rintro _ H locs rfl hY
      obtain ⟨r_9, e_10, h⟩ := g_bind h
      refine G_ar hY hA (va_runV (As := [.int r_7]) (rest := []) ⟨hx, hb, hml, hown, hg⟩ (kX2_at l D y aS H.size L hL ad N σ r_7 _ e_10) (cwV 1 hg ggV_RX11_113_X2_at rfl rfl rfl (by decide +kernel) ⟨Nat.le_of_ble_eq_true rfl, Nat.le_of_ble_eq_true rfl⟩) (G_pV (q := (RX2, TX2, 5)) hK hY (hL 1 (by decide)) gk_1 (by decide) rfl) rfl rfl hl.1 rfl (lv_room (Nat.le_of_ble_eq_true rfl)) dX11_lookAtFirstBatch_40 ⟨Nat.le_of_ble_eq_true rfl, Nat.le_of_ble_eq_true rfl⟩) ?_
      clear hY
      rintro H locs k_11 hY
      refine lv_astore_n (lv' := [(2, .ref (ad r_9)), (0, .ref (ad 0)), (1, .int x1)]) hx hb dX11_lookAtFirstBatch_43 rfl hl (by decide) rfl ?_
      clear hl
      intro ls hl
      refine lv_aload_n hx hb dX11_lookAtFirstBatch_44 rfl (lv_at hl 1 rfl) ?_
      refine G_get (ci := 11) (j := 4) (C := RX11) (T := TX11) (N := 19) (v := .ref (ad 118)) hx hb hg inlX11 hown hK hY (hL 0 (by decide)) gk_0 (by decide) rfl (by decide) tX11_4 (hg _ gw_32) rfl dX11_lookAtFirstBatch_45 ?_
      refine lv_aload_n hx hb dX11_lookAtFirstBatch_48 rfl (lv_at hl 0 rfl) ?_
      refine lv_iconst (v := 1) hx hb dX11_lookAtFirstBatch_49 (by decide) ?_
      refine lv_aload_n hx hb dX11_lookAtFirstBatch_50 rfl (lv_at hl 1 rfl) ?_
      refine G_get (ci := 11) (j := 13) (C := RX11) (T := TX11) (N := 19) (v := .ref (ad 159)) hx hb hg inlX11 hown hK hY (hL 0 (by decide)) gk_0 (by decide) rfl (by decide) tX11_13 (hg _ gw_54) rfl dX11_lookAtFirstBatch_51 ?_
      refine lv_aload_n hx hb dX11_lookAtFirstBatch_54 rfl (lv_at hl 0 rfl) ?_
      refine G_get (ci := 1) (j := 1) (C := RX1) (T := TX1) (N := 14) (v := .int (σ.1 r_9 1)) hx hb hg inlX1 hown hK hY (hL _ (gcl_lt k_11 (by decide))) k_11 (by decide) rfl (by decide) tX1_1 (hg _ gw_578) rfl dX11_lookAtFirstBatch_55 ?_
      obtain ⟨r_12, e_13, h⟩ := g_bind h
      refine G_ai hY hA (va_runV (As := [.int (σ.1 r_9 1)]) (rest := [.int 1, .ref (ad r_9), .ref (ad 118)]) ⟨hx, hb, hml, hown, hg⟩ (kX8_whole l D y aS H.size L hL ad N σ 159 (σ.1 r_9 1) _ gk_159 e_13) (cwV 1 hg ggV_RX11_187_X8_whole rfl rfl rfl (by decide +kernel) ⟨Nat.le_of_ble_eq_true rfl, Nat.le_of_ble_eq_true rfl⟩) (G_pV (q := (RX8, TX8, 2)) hK hY (hL 159 (by decide)) gk_159 (by decide) rfl) rfl rfl hl.1 rfl (lv_room (Nat.le_of_ble_eq_true rfl)) dX11_lookAtFirstBatch_58 ⟨Nat.le_of_ble_eq_true rfl, Nat.le_of_ble_eq_true rfl⟩) ?_
      clear hY
      rintro _ H locs rfl hY
      refine lv_iadd hx hb dX11_lookAtFirstBatch_61 ?_
      obtain ⟨r_14, e_15, h⟩ := g_bind h
      refine G_av hY hA (va_runV (As := [.ref (ad r_9), .int (1 + r_12)]) (rest := []) ⟨hx, hb, hml, hown, hg⟩ (kX0_add l D y aS H.size L hL ad N σ r_9 (1 + r_12) _ k_11 e_15) (cwV 2 hg ggV_RX11_440_X0_add rfl rfl rfl (by decide +kernel) ⟨Nat.le_of_ble_eq_true rfl, Nat.le_of_ble_eq_true rfl⟩) (G_pV (q := (RX0, TX0, 7)) hK hY (hL 118 (by decide)) gk_118 (by decide) rfl) rfl rfl hl.1 rfl (lv_room (Nat.le_of_ble_eq_true rfl)) dX11_lookAtFirstBatch_62 ⟨Nat.le_of_ble_eq_true rfl, Nat.le_of_ble_eq_true rfl⟩) ?_
      clear hY
      rintro H locs hY
      refine lv_iinc (v := (x1 + 1)) (lv' := [(1, .int (x1 + 1)), (2, .ref (ad r_9)), (0, .ref (ad 0))]) hx hb dX11_lookAtFirstBatch_65 hl (k := 2) rfl rfl (by decide) rfl ?_
      clear hl
      intro ls hl
      refine lv_goto (tgt := 13) hx hb dX11_lookAtFirstBatch_68 (by decide) ?_
      exact hrec13 _ _ _ hY (lv_sub hl [2, 0] rfl) h
end
def fX11_lookAtFirstBatch (N : Nat) (σ : gS) : Option gS := (fX11_trunkTree N σ).bind fun r_1 => (fX0_start N σ r_1).bind fun r_3 => lp (fX11_lookAtFirstBatch_13 N) N (r_3, 0)
set_option maxRecDepth 100000 in
set_option maxHeartbeats 4000000 in
theorem kX11_lookAtFirstBatch (l : Launch) (D : va_G) (y : Nat → ClassId) (aS : Nat → Nat) (sz : Nat) (L : List Nat) (hL : ∀ k, k < 179 → k ∈ L) (ad : Nat → Nat) (N : Nat) (σ : gS) (res : gS) (h : fX11_lookAtFirstBatch N σ = some res) : Met l yX11_lookAtFirstBatch (Cond.code yX11_lookAtFirstBatch cX11_lookAtFirstBatch 4 none :: wsL_law) ({ frames := 3, cells := 0, slots := 0, locals := 75 } : Room) (va_Pc [.ref (ad 0)] (gI D y aS (GW L y ad σ) sz)) (va_Qv (fun (_ : Unit) => True) (fun _ => gO D (va_A (GW L y ad σ) sz) (GW L y ad res)) (va_A (GW L y ad σ) sz)) 0 0 (va_A (GW L y ad σ) sz) := by
  refine g_of (by decide) (Nat.le_of_ble_eq_true rfl) ?_
  intro p e s m below meth c ls A hx hb hr hml hown hg hlocks hin hsz hK hP hD hS hA hAe hl
  rw [← hAe]
  replace hown : s.vm.findClass RX11 = some m.cls := hown
  have hY : gY D y A s L ad σ s.heap [] := ⟨hP, hD, hS⟩
  clear hP hD hS
  replace hl : lv_has ls 4 [(0, .ref (ad 0))] := hl
  unfold fX11_lookAtFirstBatch at h
  refine lv_aload_n hx hb dX11_lookAtFirstBatch_0 rfl (lv_at hl 0 rfl) ?_
  refine G_get (ci := 11) (j := 4) (C := RX11) (T := TX11) (N := 19) (v := .ref (ad 118)) hx hb hg inlX11 hown hK hY (hL 0 (by decide)) gk_0 (by decide) rfl (by decide) tX11_4 (hg _ gw_32) rfl dX11_lookAtFirstBatch_1 ?_
  refine lv_aload_n hx hb dX11_lookAtFirstBatch_4 rfl (lv_at hl 0 rfl) ?_
  obtain ⟨r_1, e_2, h⟩ := g_bind h
  refine G_al hY hA (va_runV (As := []) (rest := [.ref (ad 118)]) ⟨hx, hb, hml, hown, hg⟩ (kX11_trunkTree l D y aS s.heap.size L hL ad N σ _ e_2) (cwV 0 hg ggV_RX11_156_X11_trunkTree rfl rfl rfl (by decide +kernel) ⟨Nat.le_of_ble_eq_true rfl, Nat.le_of_ble_eq_true rfl⟩) (G_pV (q := (RX11, TX11, 19)) hK hY (hL 0 (by decide)) gk_0 (by decide) rfl) rfl rfl hl.1 rfl (lv_room (Nat.le_of_ble_eq_true rfl)) dX11_lookAtFirstBatch_5 ⟨Nat.le_of_ble_eq_true rfl, Nat.le_of_ble_eq_true rfl⟩) ?_
  clear hY
  rintro _ H locs rfl hY
  obtain ⟨r_3, e_4, h⟩ := g_bind h
  refine G_av hY hA (va_runV (As := [.long r_1]) (rest := []) ⟨hx, hb, hml, hown, hg⟩ (kX0_start l D y aS H.size L hL ad N σ r_1 _ e_4) (cwV 1 hg ggV_RX11_437_X0_start rfl rfl rfl (by decide +kernel) ⟨Nat.le_of_ble_eq_true rfl, Nat.le_of_ble_eq_true rfl⟩) (G_pV (q := (RX0, TX0, 7)) hK hY (hL 118 (by decide)) gk_118 (by decide) rfl) rfl rfl hl.1 rfl (lv_room (Nat.le_of_ble_eq_true rfl)) dX11_lookAtFirstBatch_8 ⟨Nat.le_of_ble_eq_true rfl, Nat.le_of_ble_eq_true rfl⟩) ?_
  clear hY
  rintro H locs hY
  refine lv_iconst (v := 0) hx hb dX11_lookAtFirstBatch_11 (by decide) ?_
  refine lv_istore_n (lv' := [(1, .int 0), (0, .ref (ad 0))]) hx hb dX11_lookAtFirstBatch_12 rfl hl (by decide) rfl ?_
  clear hl
  intro ls hl
  exact wX11_lookAtFirstBatch_13 hx hb hr hml hown hg hlocks hK hA hL N _ _ _ hY (lv_sub hl [1, 0] rfl) h
theorem ggV_RX11_305_X11_lookAtFirstBatch : GoodIn wsL_law (wsV RX11 305 RX11 yX11_lookAtFirstBatch (Cond.code yX11_lookAtFirstBatch cX11_lookAtFirstBatch 4 none :: wsL_law)) := g_gi (fun _ h => h) gW_good (List.forall_mem_cons.mpr ⟨⟨gw_573, rfl⟩, List.forall_mem_cons.mpr ⟨⟨gw_574, rfl⟩, List.forall_mem_cons.mpr ⟨⟨gw_575, rfl⟩, List.forall_mem_cons.mpr ⟨⟨gw_2, rfl⟩, fun _ h => nomatch h⟩⟩⟩⟩) ⟨gw_576, rfl⟩
theorem ggV_RX11_308_X0_isNarrowed : GoodIn wsL_law (wsV RX11 308 RX0 yX0_isNarrowed (Cond.code yX0_isNarrowed cX0_isNarrowed 1 (some .boolean) :: wsL_law)) := g_gi (fun _ h => h) gW_good (List.forall_mem_cons.mpr ⟨⟨gw_614, rfl⟩, List.forall_mem_cons.mpr ⟨⟨gw_615, rfl⟩, List.forall_mem_cons.mpr ⟨⟨gw_616, rfl⟩, List.forall_mem_cons.mpr ⟨⟨gw_31, rfl⟩, fun _ h => nomatch h⟩⟩⟩⟩) ⟨gw_617, rfl⟩
section
variable {p : Program} {l : Launch} {e : Env} {s : State} {m : MethodId} {args : Array Value} {below : List Frame} {meth : Method} {c : Code} {D : va_G} {y : Nat → ClassId} {aS : Nat → Nat} {A : Nat → Prop} {L : List Nat} {ad : Nat → Nat} {N : Nat} {res : Int32}
def fX11_failedForBad_93 (N : Nat) (rec42 : (Int32 × Int32) → Option Int32) (σ : gS) (x1 : Int32) (x2 : Int64) (x4 : Int32) (x5 : Int32) : Option Int32 := rec42 (x4, (x5 + 1))
set_option maxRecDepth 100000 in
set_option maxHeartbeats 4000000 in
theorem wX11_failedForBad_93 {rec42 : (Int32 × Int32) → Option Int32} {σ : gS} {x1 : Int32} {x2 : Int64} {x4 : Int32} {x5 : Int32} (hx : p.tables.exec = Jvm.exec) (hb : c.code = cX11_failedForBad) (hr : meth.sig.returnType = (some .int)) (hml : c.maxLocals = 6) (hown : s.vm.findClass RX11 = some m.cls) (hg : ∀ w ∈ wsL_law, w.before args s = true) (hlocks : meth.locks = false) (hK : gK D y aS s) (hA : ∀ q, s.heap.size ≤ q → A q) (hL : ∀ k, k < 179 → k ∈ L) (hrec42 : ∀ {x4n9 : Int32} {x5n9 : Int32} (H : Heap) (locs : List Loc) (ls : Array Slot), gY D y A s L ad σ H locs → lv_has ls 6 [(0, .ref (ad 0)), (1, .int x1), (2, .long x2), (4, .int x4n9), (5, .int x5n9)] → rec42 (x4n9, x5n9) = some res → W p l e ({ frames := 2, cells := 0, slots := 0, locals := 48 } : Room) s m args below meth c H locs 0 0 (MQ below (va_Qi (fun (r : Int32) (_ : Unit) => r = res) (fun _ => gO D A (GW L y ad σ)) A) args s 0 0 A) (F0 m 42 ls [])) {H : Heap} {locs : List Loc} {ls : Array Slot} (hY : gY D y A s L ad σ H locs) (hl : lv_has ls 6 [(0, .ref (ad 0)), (1, .int x1), (2, .long x2), (4, .int x4), (5, .int x5)]) (h : fX11_failedForBad_93 N rec42 σ x1 x2 x4 x5 = some res) : W p l e ({ frames := 2, cells := 0, slots := 0, locals := 48 } : Room) s m args below meth c H locs 0 0 (MQ below (va_Qi (fun (r : Int32) (_ : Unit) => r = res) (fun _ => gO D A (GW L y ad σ)) A) args s 0 0 A) (F0 m 93 ls []) := by
  unfold fX11_failedForBad_93 at h
  refine lv_iinc (v := (x5 + 1)) (lv' := [(5, .int (x5 + 1)), (0, .ref (ad 0)), (1, .int x1), (2, .long x2), (4, .int x4)]) hx hb dX11_failedForBad_93 hl (k := 4) rfl rfl (by decide) rfl ?_
  clear hl
  intro ls hl
  refine lv_goto (tgt := 42) hx hb dX11_failedForBad_96 (by decide) ?_
  exact hrec42 _ _ _ hY (lv_sub hl [1, 2, 3, 4, 0] rfl) h
def fX11_failedForBad_42 (N : Nat) (σ : gS) (x1 : Int32) (x2 : Int64) (rec42 : (Int32 × Int32) → Option Int32) (xx : Int32 × Int32) : Option Int32 := match xx with
  | (x4, x5) => if (σ.1 65 5) ≤ x5 then (some x4) else ((fX11_hasBit N σ x1 x5).bind fun r_2 => if r_2 = 0 then (fX11_failedForBad_93 N rec42 σ x1 x2 x4 x5) else ((fX7_at N σ x5).bind fun r_5 => (fX9_verdictOf N σ r_5 x2).bind fun r_8 => if r_8 = 2 then (fX11_failedForBad_93 N rec42 σ x1 x2 (x4 ||| ((1 : Int32) <<< (x5 &&& 31))) x5) else (fX11_failedForBad_93 N rec42 σ x1 x2 x4 x5)))
set_option maxRecDepth 100000 in
set_option maxHeartbeats 4000000 in
theorem wX11_failedForBad_42 {σ : gS} {x1 : Int32} {x2 : Int64} (hx : p.tables.exec = Jvm.exec) (hb : c.code = cX11_failedForBad) (hr : meth.sig.returnType = (some .int)) (hml : c.maxLocals = 6) (hown : s.vm.findClass RX11 = some m.cls) (hg : ∀ w ∈ wsL_law, w.before args s = true) (hlocks : meth.locks = false) (hK : gK D y aS s) (hA : ∀ q, s.heap.size ≤ q → A q) (hL : ∀ k, k < 179 → k ∈ L) : ∀ (n : Nat) {x4 : Int32} {x5 : Int32} (H : Heap) (locs : List Loc) (ls : Array Slot), gY D y A s L ad σ H locs → lv_has ls 6 [(0, .ref (ad 0)), (1, .int x1), (2, .long x2), (4, .int x4), (5, .int x5)] → lp (fX11_failedForBad_42 N σ x1 x2) n (x4, x5) = some res → W p l e ({ frames := 2, cells := 0, slots := 0, locals := 48 } : Room) s m args below meth c H locs 0 0 (MQ below (va_Qi (fun (r : Int32) (_ : Unit) => r = res) (fun _ => gO D A (GW L y ad σ)) A) args s 0 0 A) (F0 m 42 ls []) := by
  intro n
  induction n with
  | zero => intro x4 x5 H locs ls hY hl h; exact nomatch (show none = some res from h)
  | succ n hrec42 =>
    intro x4 x5 H locs ls hY hl h
    replace h : fX11_failedForBad_42 N σ x1 x2 (lp (fX11_failedForBad_42 N σ x1 x2) n) (x4, x5) = some res := h
    generalize lp (fX11_failedForBad_42 N σ x1 x2) n = rec42 at h hrec42
    unfold fX11_failedForBad_42 at h
    try dsimp only at h
    refine lv_iload hx hb dX11_failedForBad_42 (lv_at hl 4 rfl) ?_
    refine lv_aload_n hx hb dX11_failedForBad_44 rfl (lv_at hl 0 rfl) ?_
    refine G_get (ci := 11) (j := 1) (C := RX11) (T := TX11) (N := 19) (v := .ref (ad 65)) hx hb hg inlX11 hown hK hY (hL 0 (by decide)) gk_0 (by decide) rfl (by decide) tX11_1 (hg _ gw_20) rfl dX11_failedForBad_45 ?_
    refine G_get (ci := 7) (j := 5) (C := RX7) (T := TX7) (N := 6) (v := .int (σ.1 65 5)) hx hb hg inlX7 hown hK hY (hL 65 (by decide)) gk_65 (by decide) rfl (by decide) tX7_5 (hg _ gw_490) rfl dX11_failedForBad_48 ?_
    refine lv_icmp_ge (tgt := 99) hx hb dX11_failedForBad_51 (by decide) (fun z_1 => ?_) (fun z_1 => ?_)
    ·
      rw [if_pos z_1] at h
      refine lv_iload hx hb dX11_failedForBad_99 (lv_at hl 3 rfl) ?_
      cases h
      exact g_iret hx hb hr hlocks () hY.1 hY.2.1 hY.2.2 rfl rfl (Nat.le_of_ble_eq_true rfl) (Nat.le_of_ble_eq_true rfl) dX11_failedForBad_101
    ·
      rw [if_neg z_1] at h
      refine lv_iload_n hx hb dX11_failedForBad_54 rfl (lv_at hl 1 rfl) ?_
      refine lv_iload hx hb dX11_failedForBad_55 (lv_at hl 4 rfl) ?_
      obtain ⟨r_2, e_3, h⟩ := g_bind h
      refine G_ai hY hA (va_runS (As := [.int x1, .int x5]) (rest := []) ⟨hx, hb, hml, hown, hg⟩ (kX11_hasBit l D y aS H.size L hL ad N σ x1 x5 _ e_3) (va_cwS 2 hg ggS_RX11_175_X11_hasBit rfl rfl rfl (by decide +kernel) ⟨Nat.le_of_ble_eq_true rfl, Nat.le_of_ble_eq_true rfl⟩) (G_pS hK hY) rfl rfl hl.1 rfl (lv_room (Nat.le_of_ble_eq_true rfl)) dX11_failedForBad_57 ⟨Nat.le_of_ble_eq_true rfl, Nat.le_of_ble_eq_true rfl⟩) ?_
      clear hY
      rintro _ H locs rfl hY
      refine lv_if_eq (tgt := 93) hx hb dX11_failedForBad_60 (by decide) (fun z_4 => ?_) (fun z_4 => ?_)
      ·
        rw [if_pos z_4] at h
        exact wX11_failedForBad_93 hx hb hr hml hown hg hlocks hK hA hL hrec42 hY (lv_sub hl [0, 1, 2, 3, 4] rfl) h
      ·
        rw [if_neg z_4] at h
        refine lv_aload_n hx hb dX11_failedForBad_63 rfl (lv_at hl 0 rfl) ?_
        refine G_get (ci := 11) (j := 2) (C := RX11) (T := TX11) (N := 19) (v := .ref (ad 106)) hx hb hg inlX11 hown hK hY (hL 0 (by decide)) gk_0 (by decide) rfl (by decide) tX11_2 (hg _ gw_24) rfl dX11_failedForBad_64 ?_
        refine lv_aload_n hx hb dX11_failedForBad_67 rfl (lv_at hl 0 rfl) ?_
        refine G_get (ci := 11) (j := 1) (C := RX11) (T := TX11) (N := 19) (v := .ref (ad 65)) hx hb hg inlX11 hown hK hY (hL 0 (by decide)) gk_0 (by decide) rfl (by decide) tX11_1 (hg _ gw_20) rfl dX11_failedForBad_68 ?_
        refine lv_iload hx hb dX11_failedForBad_71 (lv_at hl 4 rfl) ?_
        obtain ⟨r_5, e_6, h⟩ := g_bind h
        refine G_ar hY hA (va_runV (As := [.int x5]) (rest := [.ref (ad 106)]) ⟨hx, hb, hml, hown, hg⟩ (kX7_at l D y aS H.size L hL ad N σ x5 _ e_6) (cwV 1 hg ggV_RX11_237_X7_at rfl rfl rfl (by decide +kernel) ⟨Nat.le_of_ble_eq_true rfl, Nat.le_of_ble_eq_true rfl⟩) (G_pV (q := (RX7, TX7, 6)) hK hY (hL 65 (by decide)) gk_65 (by decide) rfl) rfl rfl hl.1 rfl (lv_room (Nat.le_of_ble_eq_true rfl)) dX11_failedForBad_73 ⟨Nat.le_of_ble_eq_true rfl, Nat.le_of_ble_eq_true rfl⟩) ?_
        clear hY
        rintro H locs k_7 hY
        refine lv_lload_n hx hb dX11_failedForBad_76 rfl (lv_at hl 2 rfl) ?_
        obtain ⟨r_8, e_9, h⟩ := g_bind h
        refine G_ai hY hA (va_runV (As := [.ref (ad r_5), .long x2]) (rest := []) ⟨hx, hb, hml, hown, hg⟩ (kX9_verdictOf l D y aS H.size L hL ad N σ r_5 x2 _ k_7 e_9) (cwV 2 hg ggV_RX11_338_X9_verdictOf rfl rfl rfl (by decide +kernel) ⟨Nat.le_of_ble_eq_true rfl, Nat.le_of_ble_eq_true rfl⟩) (G_pV (q := (RX9, TX9, 3)) hK hY (hL 106 (by decide)) gk_106 (by decide) rfl) rfl rfl hl.1 rfl (lv_room (Nat.le_of_ble_eq_true rfl)) dX11_failedForBad_77 ⟨Nat.le_of_ble_eq_true rfl, Nat.le_of_ble_eq_true rfl⟩) ?_
        clear hY
        rintro _ H locs rfl hY
        refine lv_iconst (v := 2) hx hb dX11_failedForBad_80 (by decide) ?_
        refine lv_icmp_ne (tgt := 93) hx hb dX11_failedForBad_81 (by decide) (fun z_10 => ?_) (fun z_10 => ?_)
        ·
          rw [if_neg z_10] at h
          exact wX11_failedForBad_93 hx hb hr hml hown hg hlocks hK hA hL hrec42 hY (lv_sub hl [0, 1, 2, 3, 4] rfl) h
        ·
          rw [if_pos z_10] at h
          refine lv_iload hx hb dX11_failedForBad_84 (lv_at hl 3 rfl) ?_
          refine lv_iconst (v := 1) hx hb dX11_failedForBad_86 (by decide) ?_
          refine lv_iload hx hb dX11_failedForBad_87 (lv_at hl 4 rfl) ?_
          refine lv_ishl hx hb dX11_failedForBad_89 ?_
          refine lv_ior hx hb dX11_failedForBad_90 ?_
          refine lv_istore (lv' := [(4, .int (x4 ||| ((1 : Int32) <<< (x5 &&& 31)))), (0, .ref (ad 0)), (1, .int x1), (2, .long x2), (5, .int x5)]) hx hb dX11_failedForBad_91 hl (by decide) rfl ?_
          clear hl
          intro ls hl
          exact wX11_failedForBad_93 hx hb hr hml hown hg hlocks hK hA hL hrec42 hY (lv_sub hl [1, 2, 3, 0, 4] rfl) h
end
def fX11_failedForBad (N : Nat) (σ : gS) : Option Int32 := (fX8_whole N σ 121 (σ.1 118 5)).bind fun r_1 => (fX8_get N σ 119 (σ.1 118 5)).bind fun r_3 => lp (fX11_failedForBad_42 N σ r_1 r_3) N (0, 0)
set_option maxRecDepth 100000 in
set_option maxHeartbeats 4000000 in
theorem kX11_failedForBad (l : Launch) (D : va_G) (y : Nat → ClassId) (aS : Nat → Nat) (sz : Nat) (L : List Nat) (hL : ∀ k, k < 179 → k ∈ L) (ad : Nat → Nat) (N : Nat) (σ : gS) (res : Int32) (h : fX11_failedForBad N σ = some res) : Met l yX11_failedForBad (Cond.code yX11_failedForBad cX11_failedForBad 6 (some .int) :: wsL_law) ({ frames := 2, cells := 0, slots := 0, locals := 48 } : Room) (va_Pc [.ref (ad 0)] (gI D y aS (GW L y ad σ) sz)) (va_Qi (fun (r : Int32) (_ : Unit) => r = res) (fun _ => gO D (va_A (GW L y ad σ) sz) (GW L y ad σ)) (va_A (GW L y ad σ) sz)) 0 0 (va_A (GW L y ad σ) sz) := by
  refine g_of (by decide) (Nat.le_of_ble_eq_true rfl) ?_
  intro p e s m below meth c ls A hx hb hr hml hown hg hlocks hin hsz hK hP hD hS hA hAe hl
  rw [← hAe]
  replace hown : s.vm.findClass RX11 = some m.cls := hown
  have hY : gY D y A s L ad σ s.heap [] := ⟨hP, hD, hS⟩
  clear hP hD hS
  replace hl : lv_has ls 6 [(0, .ref (ad 0))] := hl
  unfold fX11_failedForBad at h
  refine lv_aload_n hx hb dX11_failedForBad_0 rfl (lv_at hl 0 rfl) ?_
  refine G_get (ci := 11) (j := 4) (C := RX11) (T := TX11) (N := 19) (v := .ref (ad 118)) hx hb hg inlX11 hown hK hY (hL 0 (by decide)) gk_0 (by decide) rfl (by decide) tX11_4 (hg _ gw_32) rfl dX11_failedForBad_1 ?_
  refine G_get (ci := 0) (j := 1) (C := RX0) (T := TX0) (N := 7) (v := .ref (ad 121)) hx hb hg inlX0 hown hK hY (hL 118 (by decide)) gk_118 (by decide) rfl (by decide) tX0_1 (hg _ gw_607) rfl dX11_failedForBad_4 ?_
  refine lv_aload_n hx hb dX11_failedForBad_7 rfl (lv_at hl 0 rfl) ?_
  refine G_get (ci := 11) (j := 4) (C := RX11) (T := TX11) (N := 19) (v := .ref (ad 118)) hx hb hg inlX11 hown hK hY (hL 0 (by decide)) gk_0 (by decide) rfl (by decide) tX11_4 (hg _ gw_32) rfl dX11_failedForBad_8 ?_
  refine G_get (ci := 0) (j := 5) (C := RX0) (T := TX0) (N := 7) (v := .int (σ.1 118 5)) hx hb hg inlX0 hown hK hY (hL 118 (by decide)) gk_118 (by decide) rfl (by decide) tX0_5 (hg _ gw_579) rfl dX11_failedForBad_11 ?_
  obtain ⟨r_1, e_2, h⟩ := g_bind h
  refine G_ai hY hA (va_runV (As := [.int (σ.1 118 5)]) (rest := []) ⟨hx, hb, hml, hown, hg⟩ (kX8_whole l D y aS s.heap.size L hL ad N σ 121 (σ.1 118 5) _ gk_121 e_2) (cwV 1 hg ggV_RX11_187_X8_whole rfl rfl rfl (by decide +kernel) ⟨Nat.le_of_ble_eq_true rfl, Nat.le_of_ble_eq_true rfl⟩) (G_pV (q := (RX8, TX8, 2)) hK hY (hL 121 (by decide)) gk_121 (by decide) rfl) rfl rfl hl.1 rfl (lv_room (Nat.le_of_ble_eq_true rfl)) dX11_failedForBad_14 ⟨Nat.le_of_ble_eq_true rfl, Nat.le_of_ble_eq_true rfl⟩) ?_
  clear hY
  rintro _ H locs rfl hY
  refine lv_istore_n (lv' := [(1, .int r_1), (0, .ref (ad 0))]) hx hb dX11_failedForBad_17 rfl hl (by decide) rfl ?_
  clear hl
  intro ls hl
  refine lv_aload_n hx hb dX11_failedForBad_18 rfl (lv_at hl 1 rfl) ?_
  refine G_get (ci := 11) (j := 4) (C := RX11) (T := TX11) (N := 19) (v := .ref (ad 118)) hx hb hg inlX11 hown hK hY (hL 0 (by decide)) gk_0 (by decide) rfl (by decide) tX11_4 (hg _ gw_32) rfl dX11_failedForBad_19 ?_
  refine G_get (ci := 0) (j := 0) (C := RX0) (T := TX0) (N := 7) (v := .ref (ad 119)) hx hb hg inlX0 hown hK hY (hL 118 (by decide)) gk_118 (by decide) rfl (by decide) tX0_0 (hg _ gw_608) rfl dX11_failedForBad_22 ?_
  refine lv_aload_n hx hb dX11_failedForBad_25 rfl (lv_at hl 1 rfl) ?_
  refine G_get (ci := 11) (j := 4) (C := RX11) (T := TX11) (N := 19) (v := .ref (ad 118)) hx hb hg inlX11 hown hK hY (hL 0 (by decide)) gk_0 (by decide) rfl (by decide) tX11_4 (hg _ gw_32) rfl dX11_failedForBad_26 ?_
  refine G_get (ci := 0) (j := 5) (C := RX0) (T := TX0) (N := 7) (v := .int (σ.1 118 5)) hx hb hg inlX0 hown hK hY (hL 118 (by decide)) gk_118 (by decide) rfl (by decide) tX0_5 (hg _ gw_579) rfl dX11_failedForBad_29 ?_
  obtain ⟨r_3, e_4, h⟩ := g_bind h
  refine G_al hY hA (va_runV (As := [.int (σ.1 118 5)]) (rest := []) ⟨hx, hb, hml, hown, hg⟩ (kX8_get l D y aS H.size L hL ad N σ 119 (σ.1 118 5) _ gk_119 e_4) (cwV 1 hg ggV_RX11_218_X8_get rfl rfl rfl (by decide +kernel) ⟨Nat.le_of_ble_eq_true rfl, Nat.le_of_ble_eq_true rfl⟩) (G_pV (q := (RX8, TX8, 2)) hK hY (hL 119 (by decide)) gk_119 (by decide) rfl) rfl rfl hl.1 rfl (lv_room (Nat.le_of_ble_eq_true rfl)) dX11_failedForBad_32 ⟨Nat.le_of_ble_eq_true rfl, Nat.le_of_ble_eq_true rfl⟩) ?_
  clear hY
  rintro _ H locs rfl hY
  refine lv_lstore_n (lv' := [(2, .long r_3), (1, .int r_1), (0, .ref (ad 0))]) hx hb dX11_failedForBad_35 rfl hl (by decide) rfl ?_
  clear hl
  intro ls hl
  refine lv_iconst (v := 0) hx hb dX11_failedForBad_36 (by decide) ?_
  refine lv_istore (lv' := [(4, .int 0), (2, .long r_3), (1, .int r_1), (0, .ref (ad 0))]) hx hb dX11_failedForBad_37 hl (by decide) rfl ?_
  clear hl
  intro ls hl
  refine lv_iconst (v := 0) hx hb dX11_failedForBad_39 (by decide) ?_
  refine lv_istore (lv' := [(5, .int 0), (4, .int 0), (2, .long r_3), (1, .int r_1), (0, .ref (ad 0))]) hx hb dX11_failedForBad_40 hl (by decide) rfl ?_
  clear hl
  intro ls hl
  exact wX11_failedForBad_42 hx hb hr hml hown hg hlocks hK hA hL N _ _ _ hY (lv_sub hl [4, 3, 2, 1, 0] rfl) h
theorem ggV_RX11_459_X11_failedForBad : GoodIn wsL_law (wsV RX11 459 RX11 yX11_failedForBad (Cond.code yX11_failedForBad cX11_failedForBad 6 (some .int) :: wsL_law)) := g_gi (fun _ h => h) gW_good (List.forall_mem_cons.mpr ⟨⟨gw_623, rfl⟩, List.forall_mem_cons.mpr ⟨⟨gw_624, rfl⟩, List.forall_mem_cons.mpr ⟨⟨gw_625, rfl⟩, List.forall_mem_cons.mpr ⟨⟨gw_2, rfl⟩, fun _ h => nomatch h⟩⟩⟩⟩) ⟨gw_626, rfl⟩
section
variable {p : Program} {l : Launch} {e : Env} {s : State} {m : MethodId} {args : Array Value} {below : List Frame} {meth : Method} {c : Code} {D : va_G} {y : Nat → ClassId} {aS : Nat → Nat} {A : Nat → Prop} {L : List Nat} {ad : Nat → Nat} {N : Nat} {res : Int32}
def fX11_verdictBehindGood_85 (N : Nat) (rec29 : (Int32 × Int32) → Option Int32) (σ : gS) (x1 : Int32) (x2 : Int64) (x4 : Int32) (x5 : Int32) : Option Int32 := rec29 (x4, (x5 + 1))
set_option maxRecDepth 100000 in
set_option maxHeartbeats 4000000 in
theorem wX11_verdictBehindGood_85 {rec29 : (Int32 × Int32) → Option Int32} {σ : gS} {x1 : Int32} {x2 : Int64} {x4 : Int32} {x5 : Int32} (hx : p.tables.exec = Jvm.exec) (hb : c.code = cX11_verdictBehindGood) (hr : meth.sig.returnType = (some .int)) (hml : c.maxLocals = 7) (hown : s.vm.findClass RX11 = some m.cls) (hg : ∀ w ∈ wsL_law, w.before args s = true) (hlocks : meth.locks = false) (hK : gK D y aS s) (hA : ∀ q, s.heap.size ≤ q → A q) (hL : ∀ k, k < 179 → k ∈ L) (hrec29 : ∀ {x4n9 : Int32} {x5n9 : Int32} (H : Heap) (locs : List Loc) (ls : Array Slot), gY D y A s L ad σ H locs → lv_has ls 7 [(0, .ref (ad 0)), (1, .int x1), (2, .long x2), (4, .int x4n9), (5, .int x5n9)] → rec29 (x4n9, x5n9) = some res → W p l e ({ frames := 3, cells := 0, slots := 0, locals := 73 } : Room) s m args below meth c H locs 0 0 (MQ below (va_Qi (fun (r : Int32) (_ : Unit) => r = res) (fun _ => gO D A (GW L y ad σ)) A) args s 0 0 A) (F0 m 29 ls [])) {H : Heap} {locs : List Loc} {ls : Array Slot} (hY : gY D y A s L ad σ H locs) (hl : lv_has ls 7 [(0, .ref (ad 0)), (1, .int x1), (2, .long x2), (4, .int x4), (5, .int x5)]) (h : fX11_verdictBehindGood_85 N rec29 σ x1 x2 x4 x5 = some res) : W p l e ({ frames := 3, cells := 0, slots := 0, locals := 73 } : Room) s m args below meth c H locs 0 0 (MQ below (va_Qi (fun (r : Int32) (_ : Unit) => r = res) (fun _ => gO D A (GW L y ad σ)) A) args s 0 0 A) (F0 m 85 ls []) := by
  unfold fX11_verdictBehindGood_85 at h
  refine lv_iinc (v := (x5 + 1)) (lv' := [(5, .int (x5 + 1)), (0, .ref (ad 0)), (1, .int x1), (2, .long x2), (4, .int x4)]) hx hb dX11_verdictBehindGood_85 hl (k := 4) rfl rfl (by decide) rfl ?_
  clear hl
  intro ls hl
  refine lv_goto (tgt := 29) hx hb dX11_verdictBehindGood_88 (by decide) ?_
  exact hrec29 _ _ _ hY (lv_sub hl [1, 2, 3, 4, 0] rfl) h
def fX11_verdictBehindGood_29 (N : Nat) (σ : gS) (x1 : Int32) (x2 : Int64) (rec29 : (Int32 × Int32) → Option Int32) (xx : Int32 × Int32) : Option Int32 := match xx with
  | (x4, x5) => if (σ.1 65 5) ≤ x5 then (some x4) else ((fX11_hasBit N σ x1 x5).bind fun r_2 => if r_2 = 0 then (fX11_verdictBehindGood_85 N rec29 σ x1 x2 x4 x5) else ((fX7_at N σ x5).bind fun r_5 => (fX9_verdictOf N σ r_5 x2).bind fun r_8 => if r_8 = 1 then (some 1) else (if r_8 = 0 then (fX11_verdictBehindGood_85 N rec29 σ x1 x2 0 x5) else (fX11_verdictBehindGood_85 N rec29 σ x1 x2 x4 x5))))
set_option maxRecDepth 100000 in
set_option maxHeartbeats 4000000 in
theorem wX11_verdictBehindGood_29 {σ : gS} {x1 : Int32} {x2 : Int64} (hx : p.tables.exec = Jvm.exec) (hb : c.code = cX11_verdictBehindGood) (hr : meth.sig.returnType = (some .int)) (hml : c.maxLocals = 7) (hown : s.vm.findClass RX11 = some m.cls) (hg : ∀ w ∈ wsL_law, w.before args s = true) (hlocks : meth.locks = false) (hK : gK D y aS s) (hA : ∀ q, s.heap.size ≤ q → A q) (hL : ∀ k, k < 179 → k ∈ L) : ∀ (n : Nat) {x4 : Int32} {x5 : Int32} (H : Heap) (locs : List Loc) (ls : Array Slot), gY D y A s L ad σ H locs → lv_has ls 7 [(0, .ref (ad 0)), (1, .int x1), (2, .long x2), (4, .int x4), (5, .int x5)] → lp (fX11_verdictBehindGood_29 N σ x1 x2) n (x4, x5) = some res → W p l e ({ frames := 3, cells := 0, slots := 0, locals := 73 } : Room) s m args below meth c H locs 0 0 (MQ below (va_Qi (fun (r : Int32) (_ : Unit) => r = res) (fun _ => gO D A (GW L y ad σ)) A) args s 0 0 A) (F0 m 29 ls []) := by
  intro n
  induction n with
  | zero => intro x4 x5 H locs ls hY hl h; exact nomatch (show none = some res from h)
  | succ n hrec29 =>
    intro x4 x5 H locs ls hY hl h
    replace h : fX11_verdictBehindGood_29 N σ x1 x2 (lp (fX11_verdictBehindGood_29 N σ x1 x2) n) (x4, x5) = some res := h
    generalize lp (fX11_verdictBehindGood_29 N σ x1 x2) n = rec29 at h hrec29
    unfold fX11_verdictBehindGood_29 at h
    try dsimp only at h
    refine lv_iload hx hb dX11_verdictBehindGood_29 (lv_at hl 4 rfl) ?_
    refine lv_aload_n hx hb dX11_verdictBehindGood_31 rfl (lv_at hl 0 rfl) ?_
    refine G_get (ci := 11) (j := 1) (C := RX11) (T := TX11) (N := 19) (v := .ref (ad 65)) hx hb hg inlX11 hown hK hY (hL 0 (by decide)) gk_0 (by decide) rfl (by decide) tX11_1 (hg _ gw_20) rfl dX11_verdictBehindGood_32 ?_
    refine G_get (ci := 7) (j := 5) (C := RX7) (T := TX7) (N := 6) (v := .int (σ.1 65 5)) hx hb hg inlX7 hown hK hY (hL 65 (by decide)) gk_65 (by decide) rfl (by decide) tX7_5 (hg _ gw_490) rfl dX11_verdictBehindGood_35 ?_
    refine lv_icmp_ge (tgt := 91) hx hb dX11_verdictBehindGood_38 (by decide) (fun z_1 => ?_) (fun z_1 => ?_)
    ·
      rw [if_pos z_1] at h
      refine lv_iload hx hb dX11_verdictBehindGood_91 (lv_at hl 3 rfl) ?_
      cases h
      exact g_iret hx hb hr hlocks () hY.1 hY.2.1 hY.2.2 rfl rfl (Nat.le_of_ble_eq_true rfl) (Nat.le_of_ble_eq_true rfl) dX11_verdictBehindGood_93
    ·
      rw [if_neg z_1] at h
      refine lv_iload_n hx hb dX11_verdictBehindGood_41 rfl (lv_at hl 1 rfl) ?_
      refine lv_iload hx hb dX11_verdictBehindGood_42 (lv_at hl 4 rfl) ?_
      obtain ⟨r_2, e_3, h⟩ := g_bind h
      refine G_ai hY hA (va_runS (As := [.int x1, .int x5]) (rest := []) ⟨hx, hb, hml, hown, hg⟩ (kX11_hasBit l D y aS H.size L hL ad N σ x1 x5 _ e_3) (va_cwS 2 hg ggS_RX11_175_X11_hasBit rfl rfl rfl (by decide +kernel) ⟨Nat.le_of_ble_eq_true rfl, Nat.le_of_ble_eq_true rfl⟩) (G_pS hK hY) rfl rfl hl.1 rfl (lv_room (Nat.le_of_ble_eq_true rfl)) dX11_verdictBehindGood_44 ⟨Nat.le_of_ble_eq_true rfl, Nat.le_of_ble_eq_true rfl⟩) ?_
      clear hY
      rintro _ H locs rfl hY
      refine lv_if_eq (tgt := 85) hx hb dX11_verdictBehindGood_47 (by decide) (fun z_4 => ?_) (fun z_4 => ?_)
      ·
        rw [if_pos z_4] at h
        exact wX11_verdictBehindGood_85 hx hb hr hml hown hg hlocks hK hA hL hrec29 hY (lv_sub hl [0, 1, 2, 3, 4] rfl) h
      ·
        rw [if_neg z_4] at h
        refine lv_aload_n hx hb dX11_verdictBehindGood_50 rfl (lv_at hl 0 rfl) ?_
        refine G_get (ci := 11) (j := 2) (C := RX11) (T := TX11) (N := 19) (v := .ref (ad 106)) hx hb hg inlX11 hown hK hY (hL 0 (by decide)) gk_0 (by decide) rfl (by decide) tX11_2 (hg _ gw_24) rfl dX11_verdictBehindGood_51 ?_
        refine lv_aload_n hx hb dX11_verdictBehindGood_54 rfl (lv_at hl 0 rfl) ?_
        refine G_get (ci := 11) (j := 1) (C := RX11) (T := TX11) (N := 19) (v := .ref (ad 65)) hx hb hg inlX11 hown hK hY (hL 0 (by decide)) gk_0 (by decide) rfl (by decide) tX11_1 (hg _ gw_20) rfl dX11_verdictBehindGood_55 ?_
        refine lv_iload hx hb dX11_verdictBehindGood_58 (lv_at hl 4 rfl) ?_
        obtain ⟨r_5, e_6, h⟩ := g_bind h
        refine G_ar hY hA (va_runV (As := [.int x5]) (rest := [.ref (ad 106)]) ⟨hx, hb, hml, hown, hg⟩ (kX7_at l D y aS H.size L hL ad N σ x5 _ e_6) (cwV 1 hg ggV_RX11_237_X7_at rfl rfl rfl (by decide +kernel) ⟨Nat.le_of_ble_eq_true rfl, Nat.le_of_ble_eq_true rfl⟩) (G_pV (q := (RX7, TX7, 6)) hK hY (hL 65 (by decide)) gk_65 (by decide) rfl) rfl rfl hl.1 rfl (lv_room (Nat.le_of_ble_eq_true rfl)) dX11_verdictBehindGood_60 ⟨Nat.le_of_ble_eq_true rfl, Nat.le_of_ble_eq_true rfl⟩) ?_
        clear hY
        rintro H locs k_7 hY
        refine lv_lload_n hx hb dX11_verdictBehindGood_63 rfl (lv_at hl 2 rfl) ?_
        obtain ⟨r_8, e_9, h⟩ := g_bind h
        refine G_ai hY hA (va_runV (As := [.ref (ad r_5), .long x2]) (rest := []) ⟨hx, hb, hml, hown, hg⟩ (kX9_verdictOf l D y aS H.size L hL ad N σ r_5 x2 _ k_7 e_9) (cwV 2 hg ggV_RX11_338_X9_verdictOf rfl rfl rfl (by decide +kernel) ⟨Nat.le_of_ble_eq_true rfl, Nat.le_of_ble_eq_true rfl⟩) (G_pV (q := (RX9, TX9, 3)) hK hY (hL 106 (by decide)) gk_106 (by decide) rfl) rfl rfl hl.1 rfl (lv_room (Nat.le_of_ble_eq_true rfl)) dX11_verdictBehindGood_64 ⟨Nat.le_of_ble_eq_true rfl, Nat.le_of_ble_eq_true rfl⟩) ?_
        clear hY
        rintro _ H locs rfl hY
        refine lv_istore (lv' := [(6, .int r_8), (0, .ref (ad 0)), (1, .int x1), (2, .long x2), (4, .int x4), (5, .int x5)]) hx hb dX11_verdictBehindGood_67 hl (by decide) rfl ?_
        clear hl
        intro ls hl
        refine lv_iload hx hb dX11_verdictBehindGood_69 (lv_at hl 0 rfl) ?_
        refine lv_iconst (v := 1) hx hb dX11_verdictBehindGood_71 (by decide) ?_
        refine lv_icmp_ne (tgt := 77) hx hb dX11_verdictBehindGood_72 (by decide) (fun z_10 => ?_) (fun z_10 => ?_)
        ·
          rw [if_neg z_10] at h
          refine lv_iload hx hb dX11_verdictBehindGood_77 (lv_at hl 0 rfl) ?_
          refine lv_if_ne (tgt := 85) hx hb dX11_verdictBehindGood_79 (by decide) (fun z_11 => ?_) (fun z_11 => ?_)
          ·
            rw [if_neg z_11] at h
            exact wX11_verdictBehindGood_85 hx hb hr hml hown hg hlocks hK hA hL hrec29 hY (lv_sub hl [1, 2, 3, 4, 5] rfl) h
          ·
            rw [if_pos z_11] at h
            refine lv_iconst (v := 0) hx hb dX11_verdictBehindGood_82 (by decide) ?_
            refine lv_istore (lv' := [(4, .int 0), (6, .int r_8), (0, .ref (ad 0)), (1, .int x1), (2, .long x2), (5, .int x5)]) hx hb dX11_verdictBehindGood_83 hl (by decide) rfl ?_
            clear hl
            intro ls hl
            exact wX11_verdictBehindGood_85 hx hb hr hml hown hg hlocks hK hA hL hrec29 hY (lv_sub hl [2, 3, 4, 0, 5] rfl) h
        ·
          rw [if_pos z_10] at h
          refine lv_iconst (v := 1) hx hb dX11_verdictBehindGood_75 (by decide) ?_
          cases h
          exact g_iret hx hb hr hlocks () hY.1 hY.2.1 hY.2.2 rfl rfl (Nat.le_of_ble_eq_true rfl) (Nat.le_of_ble_eq_true rfl) dX11_verdictBehindGood_76
end
def fX11_verdictBehindGood (N : Nat) (σ : gS) : Option Int32 := (fX11_failedForBad N σ).bind fun r_1 => (fX8_get N σ 119 (σ.1 118 4)).bind fun r_3 => lp (fX11_verdictBehindGood_29 N σ r_1 r_3) N (2, 0)
set_option maxRecDepth 100000 in
set_option maxHeartbeats 4000000 in
theorem kX11_verdictBehindGood (l : Launch) (D : va_G) (y : Nat → ClassId) (aS : Nat → Nat) (sz : Nat) (L : List Nat) (hL : ∀ k, k < 179 → k ∈ L) (ad : Nat → Nat) (N : Nat) (σ : gS) (res : Int32) (h : fX11_verdictBehindGood N σ = some res) : Met l yX11_verdictBehindGood (Cond.code yX11_verdictBehindGood cX11_verdictBehindGood 7 (some .int) :: wsL_law) ({ frames := 3, cells := 0, slots := 0, locals := 73 } : Room) (va_Pc [.ref (ad 0)] (gI D y aS (GW L y ad σ) sz)) (va_Qi (fun (r : Int32) (_ : Unit) => r = res) (fun _ => gO D (va_A (GW L y ad σ) sz) (GW L y ad σ)) (va_A (GW L y ad σ) sz)) 0 0 (va_A (GW L y ad σ) sz) := by
  refine g_of (by decide) (Nat.le_of_ble_eq_true rfl) ?_
  intro p e s m below meth c ls A hx hb hr hml hown hg hlocks hin hsz hK hP hD hS hA hAe hl
  rw [← hAe]
  replace hown : s.vm.findClass RX11 = some m.cls := hown
  have hY : gY D y A s L ad σ s.heap [] := ⟨hP, hD, hS⟩
  clear hP hD hS
  replace hl : lv_has ls 7 [(0, .ref (ad 0))] := hl
  unfold fX11_verdictBehindGood at h
  refine lv_aload_n hx hb dX11_verdictBehindGood_0 rfl (lv_at hl 0 rfl) ?_
  obtain ⟨r_1, e_2, h⟩ := g_bind h
  refine G_ai hY hA (va_runV (As := []) (rest := []) ⟨hx, hb, hml, hown, hg⟩ (kX11_failedForBad l D y aS s.heap.size L hL ad N σ _ e_2) (cwV 0 hg ggV_RX11_459_X11_failedForBad rfl rfl rfl (by decide +kernel) ⟨Nat.le_of_ble_eq_true rfl, Nat.le_of_ble_eq_true rfl⟩) (G_pV (q := (RX11, TX11, 19)) hK hY (hL 0 (by decide)) gk_0 (by decide) rfl) rfl rfl hl.1 rfl (lv_room (Nat.le_of_ble_eq_true rfl)) dX11_verdictBehindGood_1 ⟨Nat.le_of_ble_eq_true rfl, Nat.le_of_ble_eq_true rfl⟩) ?_
  clear hY
  rintro _ H locs rfl hY
  refine lv_istore_n (lv' := [(1, .int r_1), (0, .ref (ad 0))]) hx hb dX11_verdictBehindGood_4 rfl hl (by decide) rfl ?_
  clear hl
  intro ls hl
  refine lv_aload_n hx hb dX11_verdictBehindGood_5 rfl (lv_at hl 1 rfl) ?_
  refine G_get (ci := 11) (j := 4) (C := RX11) (T := TX11) (N := 19) (v := .ref (ad 118)) hx hb hg inlX11 hown hK hY (hL 0 (by decide)) gk_0 (by decide) rfl (by decide) tX11_4 (hg _ gw_32) rfl dX11_verdictBehindGood_6 ?_
  refine G_get (ci := 0) (j := 0) (C := RX0) (T := TX0) (N := 7) (v := .ref (ad 119)) hx hb hg inlX0 hown hK hY (hL 118 (by decide)) gk_118 (by decide) rfl (by decide) tX0_0 (hg _ gw_608) rfl dX11_verdictBehindGood_9 ?_
  refine lv_aload_n hx hb dX11_verdictBehindGood_12 rfl (lv_at hl 1 rfl) ?_
  refine G_get (ci := 11) (j := 4) (C := RX11) (T := TX11) (N := 19) (v := .ref (ad 118)) hx hb hg inlX11 hown hK hY (hL 0 (by decide)) gk_0 (by decide) rfl (by decide) tX11_4 (hg _ gw_32) rfl dX11_verdictBehindGood_13 ?_
  refine G_get (ci := 0) (j := 4) (C := RX0) (T := TX0) (N := 7) (v := .int (σ.1 118 4)) hx hb hg inlX0 hown hK hY (hL 118 (by decide)) gk_118 (by decide) rfl (by decide) tX0_4 (hg _ gw_581) rfl dX11_verdictBehindGood_16 ?_
  obtain ⟨r_3, e_4, h⟩ := g_bind h
  refine G_al hY hA (va_runV (As := [.int (σ.1 118 4)]) (rest := []) ⟨hx, hb, hml, hown, hg⟩ (kX8_get l D y aS H.size L hL ad N σ 119 (σ.1 118 4) _ gk_119 e_4) (cwV 1 hg ggV_RX11_218_X8_get rfl rfl rfl (by decide +kernel) ⟨Nat.le_of_ble_eq_true rfl, Nat.le_of_ble_eq_true rfl⟩) (G_pV (q := (RX8, TX8, 2)) hK hY (hL 119 (by decide)) gk_119 (by decide) rfl) rfl rfl hl.1 rfl (lv_room (Nat.le_of_ble_eq_true rfl)) dX11_verdictBehindGood_19 ⟨Nat.le_of_ble_eq_true rfl, Nat.le_of_ble_eq_true rfl⟩) ?_
  clear hY
  rintro _ H locs rfl hY
  refine lv_lstore_n (lv' := [(2, .long r_3), (1, .int r_1), (0, .ref (ad 0))]) hx hb dX11_verdictBehindGood_22 rfl hl (by decide) rfl ?_
  clear hl
  intro ls hl
  refine lv_iconst (v := 2) hx hb dX11_verdictBehindGood_23 (by decide) ?_
  refine lv_istore (lv' := [(4, .int 2), (2, .long r_3), (1, .int r_1), (0, .ref (ad 0))]) hx hb dX11_verdictBehindGood_24 hl (by decide) rfl ?_
  clear hl
  intro ls hl
  refine lv_iconst (v := 0) hx hb dX11_verdictBehindGood_26 (by decide) ?_
  refine lv_istore (lv' := [(5, .int 0), (4, .int 2), (2, .long r_3), (1, .int r_1), (0, .ref (ad 0))]) hx hb dX11_verdictBehindGood_27 hl (by decide) rfl ?_
  clear hl
  intro ls hl
  exact wX11_verdictBehindGood_29 hx hb hr hml hown hg hlocks hK hA hL N _ _ _ hY (lv_sub hl [4, 3, 2, 1, 0] rfl) h
theorem ggV_RX11_311_X11_verdictBehindGood : GoodIn wsL_law (wsV RX11 311 RX11 yX11_verdictBehindGood (Cond.code yX11_verdictBehindGood cX11_verdictBehindGood 7 (some .int) :: wsL_law)) := g_gi (fun _ h => h) gW_good (List.forall_mem_cons.mpr ⟨⟨gw_619, rfl⟩, List.forall_mem_cons.mpr ⟨⟨gw_620, rfl⟩, List.forall_mem_cons.mpr ⟨⟨gw_621, rfl⟩, List.forall_mem_cons.mpr ⟨⟨gw_2, rfl⟩, fun _ h => nomatch h⟩⟩⟩⟩) ⟨gw_622, rfl⟩
section
variable {p : Program} {l : Launch} {e : Env} {s : State} {m : MethodId} {args : Array Value} {below : List Frame} {meth : Method} {c : Code} {D : va_G} {y : Nat → ClassId} {aS : Nat → Nat} {A : Nat → Prop} {L : List Nat} {ad : Nat → Nat} {N : Nat} {res : (Int32 × gS)}
def fX11_isBroken_31 (N : Nat) (σ : gS) (xs0 : Int32) : Option (Int32 × gS) := if ¬ (xs0 = 0 ∨ xs0 = 1) then none else (some (xs0, σ))
set_option maxRecDepth 100000 in
set_option maxHeartbeats 4000000 in
theorem wX11_isBroken_31 {σ : gS} {xs0 : Int32} (hx : p.tables.exec = Jvm.exec) (hb : c.code = cX11_isBroken) (hr : meth.sig.returnType = (some .boolean)) (hml : c.maxLocals = 1) (hown : s.vm.findClass RX11 = some m.cls) (hg : ∀ w ∈ wsL_law, w.before args s = true) (hlocks : meth.locks = false) (hK : gK D y aS s) (hA : ∀ q, s.heap.size ≤ q → A q) (hL : ∀ k, k < 179 → k ∈ L) {H : Heap} {locs : List Loc} {ls : Array Slot} (hY : gY D y A s L ad σ H locs) (hl : lv_has ls 1 []) (h : fX11_isBroken_31 N σ xs0 = some res) : W p l e ({ frames := 4, cells := 0, slots := 0, locals := 101 } : Room) s m args below meth c H locs 0 0 (MQ below (va_Qi (fun (r : Int32) (_ : Unit) => r = res.1) (fun _ => gO D A (GW L y ad res.2)) A) args s 0 0 A) (F0 m 31 ls [.int xs0]) := by
  unfold fX11_isBroken_31 at h
  obtain ⟨z_1, h⟩ := g_guard h
  cases h
  exact g_iret hx hb hr hlocks () hY.1 hY.2.1 hY.2.2 (g_nz (Classical.not_not.mp z_1)) rfl (Nat.le_of_ble_eq_true rfl) (Nat.le_of_ble_eq_true rfl) dX11_isBroken_31
def fX11_isBroken_30 (N : Nat) (σ : gS) : Option (Int32 × gS) := fX11_isBroken_31 N σ 0
set_option maxRecDepth 100000 in
set_option maxHeartbeats 4000000 in
theorem wX11_isBroken_30 {σ : gS} (hx : p.tables.exec = Jvm.exec) (hb : c.code = cX11_isBroken) (hr : meth.sig.returnType = (some .boolean)) (hml : c.maxLocals = 1) (hown : s.vm.findClass RX11 = some m.cls) (hg : ∀ w ∈ wsL_law, w.before args s = true) (hlocks : meth.locks = false) (hK : gK D y aS s) (hA : ∀ q, s.heap.size ≤ q → A q) (hL : ∀ k, k < 179 → k ∈ L) {H : Heap} {locs : List Loc} {ls : Array Slot} (hY : gY D y A s L ad σ H locs) (hl : lv_has ls 1 []) (h : fX11_isBroken_30 N σ = some res) : W p l e ({ frames := 4, cells := 0, slots := 0, locals := 101 } : Room) s m args below meth c H locs 0 0 (MQ below (va_Qi (fun (r : Int32) (_ : Unit) => r = res.1) (fun _ => gO D A (GW L y ad res.2)) A) args s 0 0 A) (F0 m 30 ls []) := by
  unfold fX11_isBroken_30 at h
  refine lv_iconst (v := 0) hx hb dX11_isBroken_30 (by decide) ?_
  exact wX11_isBroken_31 hx hb hr hml hown hg hlocks hK hA hL hY (lv_sub hl [] rfl) h
end
def fX11_isBroken (N : Nat) (σ : gS) : Option (Int32 × gS) := (fX11_formBatches N σ).bind fun r_1 => (fX11_lookAtFirstBatch N r_1).bind fun r_3 => (fX0_isNarrowed N r_3).bind fun r_5 => if r_5 = 0 then (fX11_isBroken_30 N r_3) else ((fX11_verdictBehindGood N r_3).bind fun r_8 => if r_8 = 2 then (fX11_isBroken_31 N r_3 1) else (fX11_isBroken_30 N r_3))
set_option maxRecDepth 100000 in
set_option maxHeartbeats 4000000 in
theorem kX11_isBroken (l : Launch) (D : va_G) (y : Nat → ClassId) (aS : Nat → Nat) (sz : Nat) (L : List Nat) (hL : ∀ k, k < 179 → k ∈ L) (ad : Nat → Nat) (N : Nat) (σ : gS) (res : (Int32 × gS)) (h : fX11_isBroken N σ = some res) : Met l yX11_isBroken (Cond.code yX11_isBroken cX11_isBroken 1 (some .boolean) :: wsL_law) ({ frames := 4, cells := 0, slots := 0, locals := 101 } : Room) (va_Pc [.ref (ad 0)] (gI D y aS (GW L y ad σ) sz)) (va_Qi (fun (r : Int32) (_ : Unit) => r = res.1) (fun _ => gO D (va_A (GW L y ad σ) sz) (GW L y ad res.2)) (va_A (GW L y ad σ) sz)) 0 0 (va_A (GW L y ad σ) sz) := by
  refine g_of (by decide) (Nat.le_of_ble_eq_true rfl) ?_
  intro p e s m below meth c ls A hx hb hr hml hown hg hlocks hin hsz hK hP hD hS hA hAe hl
  rw [← hAe]
  replace hown : s.vm.findClass RX11 = some m.cls := hown
  have hY : gY D y A s L ad σ s.heap [] := ⟨hP, hD, hS⟩
  clear hP hD hS
  replace hl : lv_has ls 1 [(0, .ref (ad 0))] := hl
  unfold fX11_isBroken at h
  refine lv_aload_n hx hb dX11_isBroken_0 rfl (lv_at hl 0 rfl) ?_
  obtain ⟨r_1, e_2, h⟩ := g_bind h
  refine G_av hY hA (va_runV (As := []) (rest := []) ⟨hx, hb, hml, hown, hg⟩ (kX11_formBatches l D y aS s.heap.size L hL ad N σ _ e_2) (cwV 0 hg ggV_RX11_204_X11_formBatches rfl rfl rfl (by decide +kernel) ⟨Nat.le_of_ble_eq_true rfl, Nat.le_of_ble_eq_true rfl⟩) (G_pV (q := (RX11, TX11, 19)) hK hY (hL 0 (by decide)) gk_0 (by decide) rfl) rfl rfl hl.1 rfl (lv_room (Nat.le_of_ble_eq_true rfl)) dX11_isBroken_1 ⟨Nat.le_of_ble_eq_true rfl, Nat.le_of_ble_eq_true rfl⟩) ?_
  clear hY
  rintro H locs hY
  refine lv_aload_n hx hb dX11_isBroken_4 rfl (lv_at hl 0 rfl) ?_
  obtain ⟨r_3, e_4, h⟩ := g_bind h
  refine G_av hY hA (va_runV (As := []) (rest := []) ⟨hx, hb, hml, hown, hg⟩ (kX11_lookAtFirstBatch l D y aS H.size L hL ad N r_1 _ e_4) (cwV 0 hg ggV_RX11_305_X11_lookAtFirstBatch rfl rfl rfl (by decide +kernel) ⟨Nat.le_of_ble_eq_true rfl, Nat.le_of_ble_eq_true rfl⟩) (G_pV (q := (RX11, TX11, 19)) hK hY (hL 0 (by decide)) gk_0 (by decide) rfl) rfl rfl hl.1 rfl (lv_room (Nat.le_of_ble_eq_true rfl)) dX11_isBroken_5 ⟨Nat.le_of_ble_eq_true rfl, Nat.le_of_ble_eq_true rfl⟩) ?_
  clear hY
  rintro H locs hY
  refine lv_aload_n hx hb dX11_isBroken_8 rfl (lv_at hl 0 rfl) ?_
  refine G_get (ci := 11) (j := 4) (C := RX11) (T := TX11) (N := 19) (v := .ref (ad 118)) hx hb hg inlX11 hown hK hY (hL 0 (by decide)) gk_0 (by decide) rfl (by decide) tX11_4 (hg _ gw_32) rfl dX11_isBroken_9 ?_
  obtain ⟨r_5, e_6, h⟩ := g_bind h
  refine G_ai hY hA (va_runV (As := []) (rest := []) ⟨hx, hb, hml, hown, hg⟩ (kX0_isNarrowed l D y aS H.size L hL ad N r_3 _ e_6) (cwV 0 hg ggV_RX11_308_X0_isNarrowed rfl rfl rfl (by decide +kernel) ⟨Nat.le_of_ble_eq_true rfl, Nat.le_of_ble_eq_true rfl⟩) (G_pV (q := (RX0, TX0, 7)) hK hY (hL 118 (by decide)) gk_118 (by decide) rfl) rfl rfl hl.1 rfl (lv_room (Nat.le_of_ble_eq_true rfl)) dX11_isBroken_12 ⟨Nat.le_of_ble_eq_true rfl, Nat.le_of_ble_eq_true rfl⟩) ?_
  clear hY
  rintro _ H locs rfl hY
  refine lv_if_eq (tgt := 30) hx hb dX11_isBroken_15 (by decide) (fun z_7 => ?_) (fun z_7 => ?_)
  ·
    rw [if_pos z_7] at h
    exact wX11_isBroken_30 hx hb hr hml hown hg hlocks hK hA hL hY (lv_sub hl [] rfl) h
  ·
    rw [if_neg z_7] at h
    refine lv_aload_n hx hb dX11_isBroken_18 rfl (lv_at hl 0 rfl) ?_
    obtain ⟨r_8, e_9, h⟩ := g_bind h
    refine G_ai hY hA (va_runV (As := []) (rest := []) ⟨hx, hb, hml, hown, hg⟩ (kX11_verdictBehindGood l D y aS H.size L hL ad N r_3 _ e_9) (cwV 0 hg ggV_RX11_311_X11_verdictBehindGood rfl rfl rfl (by decide +kernel) ⟨Nat.le_of_ble_eq_true rfl, Nat.le_of_ble_eq_true rfl⟩) (G_pV (q := (RX11, TX11, 19)) hK hY (hL 0 (by decide)) gk_0 (by decide) rfl) rfl rfl hl.1 rfl (lv_room (Nat.le_of_ble_eq_true rfl)) dX11_isBroken_19 ⟨Nat.le_of_ble_eq_true rfl, Nat.le_of_ble_eq_true rfl⟩) ?_
    clear hY
    rintro _ H locs rfl hY
    refine lv_iconst (v := 2) hx hb dX11_isBroken_22 (by decide) ?_
    refine lv_icmp_ne (tgt := 30) hx hb dX11_isBroken_23 (by decide) (fun z_10 => ?_) (fun z_10 => ?_)
    ·
      rw [if_neg z_10] at h
      exact wX11_isBroken_30 hx hb hr hml hown hg hlocks hK hA hL hY (lv_sub hl [] rfl) h
    ·
      rw [if_pos z_10] at h
      refine lv_iconst (v := 1) hx hb dX11_isBroken_26 (by decide) ?_
      refine lv_goto (tgt := 31) hx hb dX11_isBroken_27 (by decide) ?_
      exact wX11_isBroken_31 hx hb hr hml hown hg hlocks hK hA hL hY (lv_sub hl [] rfl) h
section
variable {p : Program} {l : Launch} {e : Env} {s : State} {m : MethodId} {args : Array Value} {below : List Frame} {meth : Method} {c : Code} {D : va_G} {y : Nat → ClassId} {aS : Nat → Nat} {A : Nat → Prop} {L : List Nat} {ad : Nat → Nat} {N : Nat} {res : Int32}
end
def fX11_commits (N : Nat) (σ : gS) : Option Int32 := some (σ.1 151 1)
set_option maxRecDepth 100000 in
set_option maxHeartbeats 4000000 in
theorem kX11_commits (l : Launch) (D : va_G) (y : Nat → ClassId) (aS : Nat → Nat) (sz : Nat) (L : List Nat) (hL : ∀ k, k < 179 → k ∈ L) (ad : Nat → Nat) (N : Nat) (σ : gS) (res : Int32) (h : fX11_commits N σ = some res) : Met l yX11_commits (Cond.code yX11_commits cX11_commits 1 (some .int) :: wsL_law) ({ frames := 0, cells := 0, slots := 0, locals := 0 } : Room) (va_Pc [.ref (ad 0)] (gI D y aS (GW L y ad σ) sz)) (va_Qi (fun (r : Int32) (_ : Unit) => r = res) (fun _ => gO D (va_A (GW L y ad σ) sz) (GW L y ad σ)) (va_A (GW L y ad σ) sz)) 0 0 (va_A (GW L y ad σ) sz) := by
  refine g_of (by decide) (Nat.le_of_ble_eq_true rfl) ?_
  intro p e s m below meth c ls A hx hb hr hml hown hg hlocks hin hsz hK hP hD hS hA hAe hl
  rw [← hAe]
  replace hown : s.vm.findClass RX11 = some m.cls := hown
  have hY : gY D y A s L ad σ s.heap [] := ⟨hP, hD, hS⟩
  clear hP hD hS
  replace hl : lv_has ls 1 [(0, .ref (ad 0))] := hl
  unfold fX11_commits at h
  refine lv_aload_n hx hb dX11_commits_0 rfl (lv_at hl 0 rfl) ?_
  refine G_get (ci := 11) (j := 9) (C := RX11) (T := TX11) (N := 19) (v := .ref (ad 151)) hx hb hg inlX11 hown hK hY (hL 0 (by decide)) gk_0 (by decide) rfl (by decide) tX11_9 (hg _ gw_49) rfl dX11_commits_1 ?_
  refine G_get (ci := 8) (j := 1) (C := RX8) (T := TX8) (N := 2) (v := .int (σ.1 151 1)) hx hb hg inlX8 hown hK hY (hL 151 (by decide)) gk_151 (by decide) rfl (by decide) tX8_1 (hg _ gw_178) rfl dX11_commits_4 ?_
  cases h
  exact g_iret hx hb hr hlocks () hY.1 hY.2.1 hY.2.2 rfl rfl (Nat.le_of_ble_eq_true rfl) (Nat.le_of_ble_eq_true rfl) dX11_commits_7
section
variable {p : Program} {l : Launch} {e : Env} {s : State} {m : MethodId} {args : Array Value} {below : List Frame} {meth : Method} {c : Code} {D : va_G} {y : Nat → ClassId} {aS : Nat → Nat} {A : Nat → Prop} {L : List Nat} {ad : Nat → Nat} {N : Nat} {res : Int32}
end
def fX11_content (N : Nat) (σ : gS) (x1 : Int32) (x2 : Int32) : Option Int32 := (fX11_needPlace N σ x1 (σ.1 151 1)).bind fun r_1 => (fX11_needPlace N σ x2 (12 : Int32)).bind fun r_3 => (fX8_get N σ 151 x1).bind fun r_5 => (fX11_contentIn N σ r_5 x2).bind fun r_7 => some r_7
set_option maxRecDepth 100000 in
set_option maxHeartbeats 4000000 in
theorem kX11_content (l : Launch) (D : va_G) (y : Nat → ClassId) (aS : Nat → Nat) (sz : Nat) (L : List Nat) (hL : ∀ k, k < 179 → k ∈ L) (ad : Nat → Nat) (N : Nat) (σ : gS) (x1 : Int32) (x2 : Int32) (res : Int32) (h : fX11_content N σ x1 x2 = some res) : Met l yX11_content (Cond.code yX11_content cX11_content 3 (some .int) :: wsL_law) ({ frames := 1, cells := 0, slots := 0, locals := 22 } : Room) (va_Pc [.ref (ad 0), .int x1, .int x2] (gI D y aS (GW L y ad σ) sz)) (va_Qi (fun (r : Int32) (_ : Unit) => r = res) (fun _ => gO D (va_A (GW L y ad σ) sz) (GW L y ad σ)) (va_A (GW L y ad σ) sz)) 0 0 (va_A (GW L y ad σ) sz) := by
  refine g_of (by decide) (Nat.le_of_ble_eq_true rfl) ?_
  intro p e s m below meth c ls A hx hb hr hml hown hg hlocks hin hsz hK hP hD hS hA hAe hl
  rw [← hAe]
  replace hown : s.vm.findClass RX11 = some m.cls := hown
  have hY : gY D y A s L ad σ s.heap [] := ⟨hP, hD, hS⟩
  clear hP hD hS
  replace hl : lv_has ls 3 [(0, .ref (ad 0)), (1, .int x1), (2, .int x2)] := hl
  unfold fX11_content at h
  refine lv_iload_n hx hb dX11_content_0 rfl (lv_at hl 1 rfl) ?_
  refine lv_aload_n hx hb dX11_content_1 rfl (lv_at hl 0 rfl) ?_
  refine G_get (ci := 11) (j := 9) (C := RX11) (T := TX11) (N := 19) (v := .ref (ad 151)) hx hb hg inlX11 hown hK hY (hL 0 (by decide)) gk_0 (by decide) rfl (by decide) tX11_9 (hg _ gw_49) rfl dX11_content_2 ?_
  refine G_get (ci := 8) (j := 1) (C := RX8) (T := TX8) (N := 2) (v := .int (σ.1 151 1)) hx hb hg inlX8 hown hK hY (hL 151 (by decide)) gk_151 (by decide) rfl (by decide) tX8_1 (hg _ gw_178) rfl dX11_content_5 ?_
  obtain ⟨r_1, e_2, h⟩ := g_bind h
  refine G_av hY hA (va_runS (As := [.int x1, .int (σ.1 151 1)]) (rest := []) ⟨hx, hb, hml, hown, hg⟩ (kX11_needPlace l D y aS s.heap.size L hL ad N σ x1 (σ.1 151 1) _ e_2) (va_cwS 2 hg ggS_RX11_106_X11_needPlace rfl rfl rfl (by decide +kernel) ⟨Nat.le_of_ble_eq_true rfl, Nat.le_of_ble_eq_true rfl⟩) (G_pS hK hY) rfl rfl hl.1 rfl (lv_room (Nat.le_of_ble_eq_true rfl)) dX11_content_8 ⟨Nat.le_of_ble_eq_true rfl, Nat.le_of_ble_eq_true rfl⟩) ?_
  clear hY
  rintro H locs hY
  refine lv_iload_n hx hb dX11_content_11 rfl (lv_at hl 2 rfl) ?_
  refine lv_bipush (v := 12) hx hb dX11_content_12 (by decide +kernel) ?_
  obtain ⟨r_3, e_4, h⟩ := g_bind h
  refine G_av hY hA (va_runS (As := [.int x2, .int 12]) (rest := []) ⟨hx, hb, hml, hown, hg⟩ (kX11_needPlace l D y aS H.size L hL ad N σ x2 (12 : Int32) _ e_4) (va_cwS 2 hg ggS_RX11_106_X11_needPlace rfl rfl rfl (by decide +kernel) ⟨Nat.le_of_ble_eq_true rfl, Nat.le_of_ble_eq_true rfl⟩) (G_pS hK hY) rfl rfl hl.1 rfl (lv_room (Nat.le_of_ble_eq_true rfl)) dX11_content_14 ⟨Nat.le_of_ble_eq_true rfl, Nat.le_of_ble_eq_true rfl⟩) ?_
  clear hY
  rintro H locs hY
  refine lv_aload_n hx hb dX11_content_17 rfl (lv_at hl 0 rfl) ?_
  refine G_get (ci := 11) (j := 9) (C := RX11) (T := TX11) (N := 19) (v := .ref (ad 151)) hx hb hg inlX11 hown hK hY (hL 0 (by decide)) gk_0 (by decide) rfl (by decide) tX11_9 (hg _ gw_49) rfl dX11_content_18 ?_
  refine lv_iload_n hx hb dX11_content_21 rfl (lv_at hl 1 rfl) ?_
  obtain ⟨r_5, e_6, h⟩ := g_bind h
  refine G_al hY hA (va_runV (As := [.int x1]) (rest := []) ⟨hx, hb, hml, hown, hg⟩ (kX8_get l D y aS H.size L hL ad N σ 151 x1 _ gk_151 e_6) (cwV 1 hg ggV_RX11_218_X8_get rfl rfl rfl (by decide +kernel) ⟨Nat.le_of_ble_eq_true rfl, Nat.le_of_ble_eq_true rfl⟩) (G_pV (q := (RX8, TX8, 2)) hK hY (hL 151 (by decide)) gk_151 (by decide) rfl) rfl rfl hl.1 rfl (lv_room (Nat.le_of_ble_eq_true rfl)) dX11_content_22 ⟨Nat.le_of_ble_eq_true rfl, Nat.le_of_ble_eq_true rfl⟩) ?_
  clear hY
  rintro _ H locs rfl hY
  refine lv_iload_n hx hb dX11_content_25 rfl (lv_at hl 2 rfl) ?_
  obtain ⟨r_7, e_8, h⟩ := g_bind h
  refine G_ai hY hA (va_runS (As := [.long r_5, .int x2]) (rest := []) ⟨hx, hb, hml, hown, hg⟩ (kX11_contentIn l D y aS H.size L hL ad N σ r_5 x2 _ e_8) (va_cwS 2 hg ggS_RX11_179_X11_contentIn rfl rfl rfl (by decide +kernel) ⟨Nat.le_of_ble_eq_true rfl, Nat.le_of_ble_eq_true rfl⟩) (G_pS hK hY) rfl rfl hl.1 rfl (lv_room (Nat.le_of_ble_eq_true rfl)) dX11_content_26 ⟨Nat.le_of_ble_eq_true rfl, Nat.le_of_ble_eq_true rfl⟩) ?_
  clear hY
  rintro _ H locs rfl hY
  cases h
  exact g_iret hx hb hr hlocks () hY.1 hY.2.1 hY.2.2 rfl rfl (Nat.le_of_ble_eq_true rfl) (Nat.le_of_ble_eq_true rfl) dX11_content_29
section
variable {p : Program} {l : Launch} {e : Env} {s : State} {m : MethodId} {args : Array Value} {below : List Frame} {meth : Method} {c : Code} {D : va_G} {y : Nat → ClassId} {aS : Nat → Nat} {A : Nat → Prop} {L : List Nat} {ad : Nat → Nat} {N : Nat} {res : Int32}
end
def fX11_landedBy (N : Nat) (σ : gS) (x1 : Int32) : Option Int32 := (fX11_needPlace N σ x1 (σ.1 1 4)).bind fun r_1 => (fX2_at N σ x1).bind fun r_3 => some (σ.1 r_3 4)
set_option maxRecDepth 100000 in
set_option maxHeartbeats 4000000 in
theorem kX11_landedBy (l : Launch) (D : va_G) (y : Nat → ClassId) (aS : Nat → Nat) (sz : Nat) (L : List Nat) (hL : ∀ k, k < 179 → k ∈ L) (ad : Nat → Nat) (N : Nat) (σ : gS) (x1 : Int32) (res : Int32) (h : fX11_landedBy N σ x1 = some res) : Met l yX11_landedBy (Cond.code yX11_landedBy cX11_landedBy 2 (some .int) :: wsL_law) ({ frames := 1, cells := 0, slots := 0, locals := 22 } : Room) (va_Pc [.ref (ad 0), .int x1] (gI D y aS (GW L y ad σ) sz)) (va_Qi (fun (r : Int32) (_ : Unit) => r = res) (fun _ => gO D (va_A (GW L y ad σ) sz) (GW L y ad σ)) (va_A (GW L y ad σ) sz)) 0 0 (va_A (GW L y ad σ) sz) := by
  refine g_of (by decide) (Nat.le_of_ble_eq_true rfl) ?_
  intro p e s m below meth c ls A hx hb hr hml hown hg hlocks hin hsz hK hP hD hS hA hAe hl
  rw [← hAe]
  replace hown : s.vm.findClass RX11 = some m.cls := hown
  have hY : gY D y A s L ad σ s.heap [] := ⟨hP, hD, hS⟩
  clear hP hD hS
  replace hl : lv_has ls 2 [(0, .ref (ad 0)), (1, .int x1)] := hl
  unfold fX11_landedBy at h
  refine lv_iload_n hx hb dX11_landedBy_0 rfl (lv_at hl 1 rfl) ?_
  refine lv_aload_n hx hb dX11_landedBy_1 rfl (lv_at hl 0 rfl) ?_
  refine G_get (ci := 11) (j := 0) (C := RX11) (T := TX11) (N := 19) (v := .ref (ad 1)) hx hb hg inlX11 hown hK hY (hL 0 (by decide)) gk_0 (by decide) rfl (by decide) tX11_0 (hg _ gw_16) rfl dX11_landedBy_2 ?_
  refine G_get (ci := 2) (j := 4) (C := RX2) (T := TX2) (N := 5) (v := .int (σ.1 1 4)) hx hb hg inlX2 hown hK hY (hL 1 (by decide)) gk_1 (by decide) rfl (by decide) tX2_4 (hg _ gw_173) rfl dX11_landedBy_5 ?_
  obtain ⟨r_1, e_2, h⟩ := g_bind h
  refine G_av hY hA (va_runS (As := [.int x1, .int (σ.1 1 4)]) (rest := []) ⟨hx, hb, hml, hown, hg⟩ (kX11_needPlace l D y aS s.heap.size L hL ad N σ x1 (σ.1 1 4) _ e_2) (va_cwS 2 hg ggS_RX11_106_X11_needPlace rfl rfl rfl (by decide +kernel) ⟨Nat.le_of_ble_eq_true rfl, Nat.le_of_ble_eq_true rfl⟩) (G_pS hK hY) rfl rfl hl.1 rfl (lv_room (Nat.le_of_ble_eq_true rfl)) dX11_landedBy_8 ⟨Nat.le_of_ble_eq_true rfl, Nat.le_of_ble_eq_true rfl⟩) ?_
  clear hY
  rintro H locs hY
  refine lv_aload_n hx hb dX11_landedBy_11 rfl (lv_at hl 0 rfl) ?_
  refine G_get (ci := 11) (j := 0) (C := RX11) (T := TX11) (N := 19) (v := .ref (ad 1)) hx hb hg inlX11 hown hK hY (hL 0 (by decide)) gk_0 (by decide) rfl (by decide) tX11_0 (hg _ gw_16) rfl dX11_landedBy_12 ?_
  refine lv_iload_n hx hb dX11_landedBy_15 rfl (lv_at hl 1 rfl) ?_
  obtain ⟨r_3, e_4, h⟩ := g_bind h
  refine G_ar hY hA (va_runV (As := [.int x1]) (rest := []) ⟨hx, hb, hml, hown, hg⟩ (kX2_at l D y aS H.size L hL ad N σ x1 _ e_4) (cwV 1 hg ggV_RX11_113_X2_at rfl rfl rfl (by decide +kernel) ⟨Nat.le_of_ble_eq_true rfl, Nat.le_of_ble_eq_true rfl⟩) (G_pV (q := (RX2, TX2, 5)) hK hY (hL 1 (by decide)) gk_1 (by decide) rfl) rfl rfl hl.1 rfl (lv_room (Nat.le_of_ble_eq_true rfl)) dX11_landedBy_16 ⟨Nat.le_of_ble_eq_true rfl, Nat.le_of_ble_eq_true rfl⟩) ?_
  clear hY
  rintro H locs k_5 hY
  refine G_get (ci := 1) (j := 4) (C := RX1) (T := TX1) (N := 14) (v := .int (σ.1 r_3 4)) hx hb hg inlX1 hown hK hY (hL _ (gcl_lt k_5 (by decide))) k_5 (by decide) rfl (by decide) tX1_4 (hg _ gw_444) rfl dX11_landedBy_19 ?_
  cases h
  exact g_iret hx hb hr hlocks () hY.1 hY.2.1 hY.2.2 rfl rfl (Nat.le_of_ble_eq_true rfl) (Nat.le_of_ble_eq_true rfl) dX11_landedBy_22
section
variable {p : Program} {l : Launch} {e : Env} {s : State} {m : MethodId} {args : Array Value} {below : List Frame} {meth : Method} {c : Code} {D : va_G} {y : Nat → ClassId} {aS : Nat → Nat} {A : Nat → Prop} {L : List Nat} {ad : Nat → Nat} {N : Nat} {res : Int32}
end
def fX11_verdict (N : Nat) (σ : gS) (x1 : Int32) (x2 : Int32) : Option Int32 := (fX11_needPlace N σ x1 (σ.1 65 5)).bind fun r_1 => (fX11_needPlace N σ x2 (σ.1 151 1)).bind fun r_3 => (fX7_at N σ x1).bind fun r_5 => (fX8_get N σ 151 x2).bind fun r_8 => (fX9_verdictOf N σ r_5 r_8).bind fun r_10 => some r_10
set_option maxRecDepth 100000 in
set_option maxHeartbeats 4000000 in
theorem kX11_verdict (l : Launch) (D : va_G) (y : Nat → ClassId) (aS : Nat → Nat) (sz : Nat) (L : List Nat) (hL : ∀ k, k < 179 → k ∈ L) (ad : Nat → Nat) (N : Nat) (σ : gS) (x1 : Int32) (x2 : Int32) (res : Int32) (h : fX11_verdict N σ x1 x2 = some res) : Met l yX11_verdict (Cond.code yX11_verdict cX11_verdict 3 (some .int) :: wsL_law) ({ frames := 2, cells := 0, slots := 0, locals := 48 } : Room) (va_Pc [.ref (ad 0), .int x1, .int x2] (gI D y aS (GW L y ad σ) sz)) (va_Qi (fun (r : Int32) (_ : Unit) => r = res) (fun _ => gO D (va_A (GW L y ad σ) sz) (GW L y ad σ)) (va_A (GW L y ad σ) sz)) 0 0 (va_A (GW L y ad σ) sz) := by
  refine g_of (by decide) (Nat.le_of_ble_eq_true rfl) ?_
  intro p e s m below meth c ls A hx hb hr hml hown hg hlocks hin hsz hK hP hD hS hA hAe hl
  rw [← hAe]
  replace hown : s.vm.findClass RX11 = some m.cls := hown
  have hY : gY D y A s L ad σ s.heap [] := ⟨hP, hD, hS⟩
  clear hP hD hS
  replace hl : lv_has ls 3 [(0, .ref (ad 0)), (1, .int x1), (2, .int x2)] := hl
  unfold fX11_verdict at h
  refine lv_iload_n hx hb dX11_verdict_0 rfl (lv_at hl 1 rfl) ?_
  refine lv_aload_n hx hb dX11_verdict_1 rfl (lv_at hl 0 rfl) ?_
  refine G_get (ci := 11) (j := 1) (C := RX11) (T := TX11) (N := 19) (v := .ref (ad 65)) hx hb hg inlX11 hown hK hY (hL 0 (by decide)) gk_0 (by decide) rfl (by decide) tX11_1 (hg _ gw_20) rfl dX11_verdict_2 ?_
  refine G_get (ci := 7) (j := 5) (C := RX7) (T := TX7) (N := 6) (v := .int (σ.1 65 5)) hx hb hg inlX7 hown hK hY (hL 65 (by decide)) gk_65 (by decide) rfl (by decide) tX7_5 (hg _ gw_490) rfl dX11_verdict_5 ?_
  obtain ⟨r_1, e_2, h⟩ := g_bind h
  refine G_av hY hA (va_runS (As := [.int x1, .int (σ.1 65 5)]) (rest := []) ⟨hx, hb, hml, hown, hg⟩ (kX11_needPlace l D y aS s.heap.size L hL ad N σ x1 (σ.1 65 5) _ e_2) (va_cwS 2 hg ggS_RX11_106_X11_needPlace rfl rfl rfl (by decide +kernel) ⟨Nat.le_of_ble_eq_true rfl, Nat.le_of_ble_eq_true rfl⟩) (G_pS hK hY) rfl rfl hl.1 rfl (lv_room (Nat.le_of_ble_eq_true rfl)) dX11_verdict_8 ⟨Nat.le_of_ble_eq_true rfl, Nat.le_of_ble_eq_true rfl⟩) ?_
  clear hY
  rintro H locs hY
  refine lv_iload_n hx hb dX11_verdict_11 rfl (lv_at hl 2 rfl) ?_
  refine lv_aload_n hx hb dX11_verdict_12 rfl (lv_at hl 0 rfl) ?_
  refine G_get (ci := 11) (j := 9) (C := RX11) (T := TX11) (N := 19) (v := .ref (ad 151)) hx hb hg inlX11 hown hK hY (hL 0 (by decide)) gk_0 (by decide) rfl (by decide) tX11_9 (hg _ gw_49) rfl dX11_verdict_13 ?_
  refine G_get (ci := 8) (j := 1) (C := RX8) (T := TX8) (N := 2) (v := .int (σ.1 151 1)) hx hb hg inlX8 hown hK hY (hL 151 (by decide)) gk_151 (by decide) rfl (by decide) tX8_1 (hg _ gw_178) rfl dX11_verdict_16 ?_
  obtain ⟨r_3, e_4, h⟩ := g_bind h
  refine G_av hY hA (va_runS (As := [.int x2, .int (σ.1 151 1)]) (rest := []) ⟨hx, hb, hml, hown, hg⟩ (kX11_needPlace l D y aS H.size L hL ad N σ x2 (σ.1 151 1) _ e_4) (va_cwS 2 hg ggS_RX11_106_X11_needPlace rfl rfl rfl (by decide +kernel) ⟨Nat.le_of_ble_eq_true rfl, Nat.le_of_ble_eq_true rfl⟩) (G_pS hK hY) rfl rfl hl.1 rfl (lv_room (Nat.le_of_ble_eq_true rfl)) dX11_verdict_19 ⟨Nat.le_of_ble_eq_true rfl, Nat.le_of_ble_eq_true rfl⟩) ?_
  clear hY
  rintro H locs hY
  refine lv_aload_n hx hb dX11_verdict_22 rfl (lv_at hl 0 rfl) ?_
  refine G_get (ci := 11) (j := 2) (C := RX11) (T := TX11) (N := 19) (v := .ref (ad 106)) hx hb hg inlX11 hown hK hY (hL 0 (by decide)) gk_0 (by decide) rfl (by decide) tX11_2 (hg _ gw_24) rfl dX11_verdict_23 ?_
  refine lv_aload_n hx hb dX11_verdict_26 rfl (lv_at hl 0 rfl) ?_
  refine G_get (ci := 11) (j := 1) (C := RX11) (T := TX11) (N := 19) (v := .ref (ad 65)) hx hb hg inlX11 hown hK hY (hL 0 (by decide)) gk_0 (by decide) rfl (by decide) tX11_1 (hg _ gw_20) rfl dX11_verdict_27 ?_
  refine lv_iload_n hx hb dX11_verdict_30 rfl (lv_at hl 1 rfl) ?_
  obtain ⟨r_5, e_6, h⟩ := g_bind h
  refine G_ar hY hA (va_runV (As := [.int x1]) (rest := [.ref (ad 106)]) ⟨hx, hb, hml, hown, hg⟩ (kX7_at l D y aS H.size L hL ad N σ x1 _ e_6) (cwV 1 hg ggV_RX11_237_X7_at rfl rfl rfl (by decide +kernel) ⟨Nat.le_of_ble_eq_true rfl, Nat.le_of_ble_eq_true rfl⟩) (G_pV (q := (RX7, TX7, 6)) hK hY (hL 65 (by decide)) gk_65 (by decide) rfl) rfl rfl hl.1 rfl (lv_room (Nat.le_of_ble_eq_true rfl)) dX11_verdict_31 ⟨Nat.le_of_ble_eq_true rfl, Nat.le_of_ble_eq_true rfl⟩) ?_
  clear hY
  rintro H locs k_7 hY
  refine lv_aload_n hx hb dX11_verdict_34 rfl (lv_at hl 0 rfl) ?_
  refine G_get (ci := 11) (j := 9) (C := RX11) (T := TX11) (N := 19) (v := .ref (ad 151)) hx hb hg inlX11 hown hK hY (hL 0 (by decide)) gk_0 (by decide) rfl (by decide) tX11_9 (hg _ gw_49) rfl dX11_verdict_35 ?_
  refine lv_iload_n hx hb dX11_verdict_38 rfl (lv_at hl 2 rfl) ?_
  obtain ⟨r_8, e_9, h⟩ := g_bind h
  refine G_al hY hA (va_runV (As := [.int x2]) (rest := [.ref (ad r_5), .ref (ad 106)]) ⟨hx, hb, hml, hown, hg⟩ (kX8_get l D y aS H.size L hL ad N σ 151 x2 _ gk_151 e_9) (cwV 1 hg ggV_RX11_218_X8_get rfl rfl rfl (by decide +kernel) ⟨Nat.le_of_ble_eq_true rfl, Nat.le_of_ble_eq_true rfl⟩) (G_pV (q := (RX8, TX8, 2)) hK hY (hL 151 (by decide)) gk_151 (by decide) rfl) rfl rfl hl.1 rfl (lv_room (Nat.le_of_ble_eq_true rfl)) dX11_verdict_39 ⟨Nat.le_of_ble_eq_true rfl, Nat.le_of_ble_eq_true rfl⟩) ?_
  clear hY
  rintro _ H locs rfl hY
  obtain ⟨r_10, e_11, h⟩ := g_bind h
  refine G_ai hY hA (va_runV (As := [.ref (ad r_5), .long r_8]) (rest := []) ⟨hx, hb, hml, hown, hg⟩ (kX9_verdictOf l D y aS H.size L hL ad N σ r_5 r_8 _ k_7 e_11) (cwV 2 hg ggV_RX11_338_X9_verdictOf rfl rfl rfl (by decide +kernel) ⟨Nat.le_of_ble_eq_true rfl, Nat.le_of_ble_eq_true rfl⟩) (G_pV (q := (RX9, TX9, 3)) hK hY (hL 106 (by decide)) gk_106 (by decide) rfl) rfl rfl hl.1 rfl (lv_room (Nat.le_of_ble_eq_true rfl)) dX11_verdict_42 ⟨Nat.le_of_ble_eq_true rfl, Nat.le_of_ble_eq_true rfl⟩) ?_
  clear hY
  rintro _ H locs rfl hY
  cases h
  exact g_iret hx hb hr hlocks () hY.1 hY.2.1 hY.2.2 rfl rfl (Nat.le_of_ble_eq_true rfl) (Nat.le_of_ble_eq_true rfl) dX11_verdict_45
section
variable {p : Program} {l : Launch} {e : Env} {s : State} {m : MethodId} {args : Array Value} {below : List Frame} {meth : Method} {c : Code} {D : va_G} {y : Nat → ClassId} {aS : Nat → Nat} {A : Nat → Prop} {L : List Nat} {ad : Nat → Nat} {N : Nat} {res : Int32}
end
def fX11_runs (N : Nat) (σ : gS) (x1 : Int32) : Option Int32 := (fX11_needPlace N σ x1 (σ.1 65 5)).bind fun r_1 => (fX7_at N σ x1).bind fun r_3 => some (σ.1 r_3 8)
set_option maxRecDepth 100000 in
set_option maxHeartbeats 4000000 in
theorem kX11_runs (l : Launch) (D : va_G) (y : Nat → ClassId) (aS : Nat → Nat) (sz : Nat) (L : List Nat) (hL : ∀ k, k < 179 → k ∈ L) (ad : Nat → Nat) (N : Nat) (σ : gS) (x1 : Int32) (res : Int32) (h : fX11_runs N σ x1 = some res) : Met l yX11_runs (Cond.code yX11_runs cX11_runs 2 (some .int) :: wsL_law) ({ frames := 1, cells := 0, slots := 0, locals := 22 } : Room) (va_Pc [.ref (ad 0), .int x1] (gI D y aS (GW L y ad σ) sz)) (va_Qi (fun (r : Int32) (_ : Unit) => r = res) (fun _ => gO D (va_A (GW L y ad σ) sz) (GW L y ad σ)) (va_A (GW L y ad σ) sz)) 0 0 (va_A (GW L y ad σ) sz) := by
  refine g_of (by decide) (Nat.le_of_ble_eq_true rfl) ?_
  intro p e s m below meth c ls A hx hb hr hml hown hg hlocks hin hsz hK hP hD hS hA hAe hl
  rw [← hAe]
  replace hown : s.vm.findClass RX11 = some m.cls := hown
  have hY : gY D y A s L ad σ s.heap [] := ⟨hP, hD, hS⟩
  clear hP hD hS
  replace hl : lv_has ls 2 [(0, .ref (ad 0)), (1, .int x1)] := hl
  unfold fX11_runs at h
  refine lv_iload_n hx hb dX11_runs_0 rfl (lv_at hl 1 rfl) ?_
  refine lv_aload_n hx hb dX11_runs_1 rfl (lv_at hl 0 rfl) ?_
  refine G_get (ci := 11) (j := 1) (C := RX11) (T := TX11) (N := 19) (v := .ref (ad 65)) hx hb hg inlX11 hown hK hY (hL 0 (by decide)) gk_0 (by decide) rfl (by decide) tX11_1 (hg _ gw_20) rfl dX11_runs_2 ?_
  refine G_get (ci := 7) (j := 5) (C := RX7) (T := TX7) (N := 6) (v := .int (σ.1 65 5)) hx hb hg inlX7 hown hK hY (hL 65 (by decide)) gk_65 (by decide) rfl (by decide) tX7_5 (hg _ gw_490) rfl dX11_runs_5 ?_
  obtain ⟨r_1, e_2, h⟩ := g_bind h
  refine G_av hY hA (va_runS (As := [.int x1, .int (σ.1 65 5)]) (rest := []) ⟨hx, hb, hml, hown, hg⟩ (kX11_needPlace l D y aS s.heap.size L hL ad N σ x1 (σ.1 65 5) _ e_2) (va_cwS 2 hg ggS_RX11_106_X11_needPlace rfl rfl rfl (by decide +kernel) ⟨Nat.le_of_ble_eq_true rfl, Nat.le_of_ble_eq_true rfl⟩) (G_pS hK hY) rfl rfl hl.1 rfl (lv_room (Nat.le_of_ble_eq_true rfl)) dX11_runs_8 ⟨Nat.le_of_ble_eq_true rfl, Nat.le_of_ble_eq_true rfl⟩) ?_
  clear hY
  rintro H locs hY
  refine lv_aload_n hx hb dX11_runs_11 rfl (lv_at hl 0 rfl) ?_
  refine G_get (ci := 11) (j := 1) (C := RX11) (T := TX11) (N := 19) (v := .ref (ad 65)) hx hb hg inlX11 hown hK hY (hL 0 (by decide)) gk_0 (by decide) rfl (by decide) tX11_1 (hg _ gw_20) rfl dX11_runs_12 ?_
  refine lv_iload_n hx hb dX11_runs_15 rfl (lv_at hl 1 rfl) ?_
  obtain ⟨r_3, e_4, h⟩ := g_bind h
  refine G_ar hY hA (va_runV (As := [.int x1]) (rest := []) ⟨hx, hb, hml, hown, hg⟩ (kX7_at l D y aS H.size L hL ad N σ x1 _ e_4) (cwV 1 hg ggV_RX11_237_X7_at rfl rfl rfl (by decide +kernel) ⟨Nat.le_of_ble_eq_true rfl, Nat.le_of_ble_eq_true rfl⟩) (G_pV (q := (RX7, TX7, 6)) hK hY (hL 65 (by decide)) gk_65 (by decide) rfl) rfl rfl hl.1 rfl (lv_room (Nat.le_of_ble_eq_true rfl)) dX11_runs_16 ⟨Nat.le_of_ble_eq_true rfl, Nat.le_of_ble_eq_true rfl⟩) ?_
  clear hY
  rintro H locs k_5 hY
  refine G_get (ci := 3) (j := 8) (C := RX3) (T := TX3) (N := 10) (v := .int (σ.1 r_3 8)) hx hb hg inlX3 hown hK hY (hL _ (gcl_lt k_5 (by decide))) k_5 (by decide) rfl (by decide) tX3_8 (hg _ gw_519) rfl dX11_runs_19 ?_
  cases h
  exact g_iret hx hb hr hlocks () hY.1 hY.2.1 hY.2.2 rfl rfl (Nat.le_of_ble_eq_true rfl) (Nat.le_of_ble_eq_true rfl) dX11_runs_22
section
variable {p : Program} {l : Launch} {e : Env} {s : State} {m : MethodId} {args : Array Value} {below : List Frame} {meth : Method} {c : Code} {D : va_G} {y : Nat → ClassId} {aS : Nat → Nat} {A : Nat → Prop} {L : List Nat} {ad : Nat → Nat} {N : Nat} {res : Int32}
end
def fX11_flaked (N : Nat) (σ : gS) (x1 : Int32) : Option Int32 := (fX11_needPlace N σ x1 (σ.1 65 5)).bind fun r_1 => (fX7_at N σ x1).bind fun r_3 => some (σ.1 r_3 9)
set_option maxRecDepth 100000 in
set_option maxHeartbeats 4000000 in
theorem kX11_flaked (l : Launch) (D : va_G) (y : Nat → ClassId) (aS : Nat → Nat) (sz : Nat) (L : List Nat) (hL : ∀ k, k < 179 → k ∈ L) (ad : Nat → Nat) (N : Nat) (σ : gS) (x1 : Int32) (res : Int32) (h : fX11_flaked N σ x1 = some res) : Met l yX11_flaked (Cond.code yX11_flaked cX11_flaked 2 (some .int) :: wsL_law) ({ frames := 1, cells := 0, slots := 0, locals := 22 } : Room) (va_Pc [.ref (ad 0), .int x1] (gI D y aS (GW L y ad σ) sz)) (va_Qi (fun (r : Int32) (_ : Unit) => r = res) (fun _ => gO D (va_A (GW L y ad σ) sz) (GW L y ad σ)) (va_A (GW L y ad σ) sz)) 0 0 (va_A (GW L y ad σ) sz) := by
  refine g_of (by decide) (Nat.le_of_ble_eq_true rfl) ?_
  intro p e s m below meth c ls A hx hb hr hml hown hg hlocks hin hsz hK hP hD hS hA hAe hl
  rw [← hAe]
  replace hown : s.vm.findClass RX11 = some m.cls := hown
  have hY : gY D y A s L ad σ s.heap [] := ⟨hP, hD, hS⟩
  clear hP hD hS
  replace hl : lv_has ls 2 [(0, .ref (ad 0)), (1, .int x1)] := hl
  unfold fX11_flaked at h
  refine lv_iload_n hx hb dX11_flaked_0 rfl (lv_at hl 1 rfl) ?_
  refine lv_aload_n hx hb dX11_flaked_1 rfl (lv_at hl 0 rfl) ?_
  refine G_get (ci := 11) (j := 1) (C := RX11) (T := TX11) (N := 19) (v := .ref (ad 65)) hx hb hg inlX11 hown hK hY (hL 0 (by decide)) gk_0 (by decide) rfl (by decide) tX11_1 (hg _ gw_20) rfl dX11_flaked_2 ?_
  refine G_get (ci := 7) (j := 5) (C := RX7) (T := TX7) (N := 6) (v := .int (σ.1 65 5)) hx hb hg inlX7 hown hK hY (hL 65 (by decide)) gk_65 (by decide) rfl (by decide) tX7_5 (hg _ gw_490) rfl dX11_flaked_5 ?_
  obtain ⟨r_1, e_2, h⟩ := g_bind h
  refine G_av hY hA (va_runS (As := [.int x1, .int (σ.1 65 5)]) (rest := []) ⟨hx, hb, hml, hown, hg⟩ (kX11_needPlace l D y aS s.heap.size L hL ad N σ x1 (σ.1 65 5) _ e_2) (va_cwS 2 hg ggS_RX11_106_X11_needPlace rfl rfl rfl (by decide +kernel) ⟨Nat.le_of_ble_eq_true rfl, Nat.le_of_ble_eq_true rfl⟩) (G_pS hK hY) rfl rfl hl.1 rfl (lv_room (Nat.le_of_ble_eq_true rfl)) dX11_flaked_8 ⟨Nat.le_of_ble_eq_true rfl, Nat.le_of_ble_eq_true rfl⟩) ?_
  clear hY
  rintro H locs hY
  refine lv_aload_n hx hb dX11_flaked_11 rfl (lv_at hl 0 rfl) ?_
  refine G_get (ci := 11) (j := 1) (C := RX11) (T := TX11) (N := 19) (v := .ref (ad 65)) hx hb hg inlX11 hown hK hY (hL 0 (by decide)) gk_0 (by decide) rfl (by decide) tX11_1 (hg _ gw_20) rfl dX11_flaked_12 ?_
  refine lv_iload_n hx hb dX11_flaked_15 rfl (lv_at hl 1 rfl) ?_
  obtain ⟨r_3, e_4, h⟩ := g_bind h
  refine G_ar hY hA (va_runV (As := [.int x1]) (rest := []) ⟨hx, hb, hml, hown, hg⟩ (kX7_at l D y aS H.size L hL ad N σ x1 _ e_4) (cwV 1 hg ggV_RX11_237_X7_at rfl rfl rfl (by decide +kernel) ⟨Nat.le_of_ble_eq_true rfl, Nat.le_of_ble_eq_true rfl⟩) (G_pV (q := (RX7, TX7, 6)) hK hY (hL 65 (by decide)) gk_65 (by decide) rfl) rfl rfl hl.1 rfl (lv_room (Nat.le_of_ble_eq_true rfl)) dX11_flaked_16 ⟨Nat.le_of_ble_eq_true rfl, Nat.le_of_ble_eq_true rfl⟩) ?_
  clear hY
  rintro H locs k_5 hY
  refine G_get (ci := 3) (j := 9) (C := RX3) (T := TX3) (N := 10) (v := .int (σ.1 r_3 9)) hx hb hg inlX3 hown hK hY (hL _ (gcl_lt k_5 (by decide))) k_5 (by decide) rfl (by decide) tX3_9 (hg _ gw_524) rfl dX11_flaked_19 ?_
  cases h
  exact g_iret hx hb hr hlocks () hY.1 hY.2.1 hY.2.2 rfl rfl (Nat.le_of_ble_eq_true rfl) (Nat.le_of_ble_eq_true rfl) dX11_flaked_22
section
variable {p : Program} {l : Launch} {e : Env} {s : State} {m : MethodId} {args : Array Value} {below : List Frame} {meth : Method} {c : Code} {D : va_G} {y : Nat → ClassId} {aS : Nat → Nat} {A : Nat → Prop} {L : List Nat} {ad : Nat → Nat} {N : Nat} {res : Int32}
end
def fX11_isQuarantined (N : Nat) (σ : gS) (x1 : Int32) : Option Int32 := (fX11_needPlace N σ x1 (σ.1 65 5)).bind fun r_1 => (fX7_at N σ x1).bind fun r_3 => (fX3_isInQuarantine N σ r_3).bind fun r_6 => if ¬ (r_6 = 0 ∨ r_6 = 1) then none else (some r_6)
set_option maxRecDepth 100000 in
set_option maxHeartbeats 4000000 in
theorem kX11_isQuarantined (l : Launch) (D : va_G) (y : Nat → ClassId) (aS : Nat → Nat) (sz : Nat) (L : List Nat) (hL : ∀ k, k < 179 → k ∈ L) (ad : Nat → Nat) (N : Nat) (σ : gS) (x1 : Int32) (res : Int32) (h : fX11_isQuarantined N σ x1 = some res) : Met l yX11_isQuarantined (Cond.code yX11_isQuarantined cX11_isQuarantined 2 (some .boolean) :: wsL_law) ({ frames := 1, cells := 0, slots := 0, locals := 22 } : Room) (va_Pc [.ref (ad 0), .int x1] (gI D y aS (GW L y ad σ) sz)) (va_Qi (fun (r : Int32) (_ : Unit) => r = res) (fun _ => gO D (va_A (GW L y ad σ) sz) (GW L y ad σ)) (va_A (GW L y ad σ) sz)) 0 0 (va_A (GW L y ad σ) sz) := by
  refine g_of (by decide) (Nat.le_of_ble_eq_true rfl) ?_
  intro p e s m below meth c ls A hx hb hr hml hown hg hlocks hin hsz hK hP hD hS hA hAe hl
  rw [← hAe]
  replace hown : s.vm.findClass RX11 = some m.cls := hown
  have hY : gY D y A s L ad σ s.heap [] := ⟨hP, hD, hS⟩
  clear hP hD hS
  replace hl : lv_has ls 2 [(0, .ref (ad 0)), (1, .int x1)] := hl
  unfold fX11_isQuarantined at h
  refine lv_iload_n hx hb dX11_isQuarantined_0 rfl (lv_at hl 1 rfl) ?_
  refine lv_aload_n hx hb dX11_isQuarantined_1 rfl (lv_at hl 0 rfl) ?_
  refine G_get (ci := 11) (j := 1) (C := RX11) (T := TX11) (N := 19) (v := .ref (ad 65)) hx hb hg inlX11 hown hK hY (hL 0 (by decide)) gk_0 (by decide) rfl (by decide) tX11_1 (hg _ gw_20) rfl dX11_isQuarantined_2 ?_
  refine G_get (ci := 7) (j := 5) (C := RX7) (T := TX7) (N := 6) (v := .int (σ.1 65 5)) hx hb hg inlX7 hown hK hY (hL 65 (by decide)) gk_65 (by decide) rfl (by decide) tX7_5 (hg _ gw_490) rfl dX11_isQuarantined_5 ?_
  obtain ⟨r_1, e_2, h⟩ := g_bind h
  refine G_av hY hA (va_runS (As := [.int x1, .int (σ.1 65 5)]) (rest := []) ⟨hx, hb, hml, hown, hg⟩ (kX11_needPlace l D y aS s.heap.size L hL ad N σ x1 (σ.1 65 5) _ e_2) (va_cwS 2 hg ggS_RX11_106_X11_needPlace rfl rfl rfl (by decide +kernel) ⟨Nat.le_of_ble_eq_true rfl, Nat.le_of_ble_eq_true rfl⟩) (G_pS hK hY) rfl rfl hl.1 rfl (lv_room (Nat.le_of_ble_eq_true rfl)) dX11_isQuarantined_8 ⟨Nat.le_of_ble_eq_true rfl, Nat.le_of_ble_eq_true rfl⟩) ?_
  clear hY
  rintro H locs hY
  refine lv_aload_n hx hb dX11_isQuarantined_11 rfl (lv_at hl 0 rfl) ?_
  refine G_get (ci := 11) (j := 1) (C := RX11) (T := TX11) (N := 19) (v := .ref (ad 65)) hx hb hg inlX11 hown hK hY (hL 0 (by decide)) gk_0 (by decide) rfl (by decide) tX11_1 (hg _ gw_20) rfl dX11_isQuarantined_12 ?_
  refine lv_iload_n hx hb dX11_isQuarantined_15 rfl (lv_at hl 1 rfl) ?_
  obtain ⟨r_3, e_4, h⟩ := g_bind h
  refine G_ar hY hA (va_runV (As := [.int x1]) (rest := []) ⟨hx, hb, hml, hown, hg⟩ (kX7_at l D y aS H.size L hL ad N σ x1 _ e_4) (cwV 1 hg ggV_RX11_237_X7_at rfl rfl rfl (by decide +kernel) ⟨Nat.le_of_ble_eq_true rfl, Nat.le_of_ble_eq_true rfl⟩) (G_pV (q := (RX7, TX7, 6)) hK hY (hL 65 (by decide)) gk_65 (by decide) rfl) rfl rfl hl.1 rfl (lv_room (Nat.le_of_ble_eq_true rfl)) dX11_isQuarantined_16 ⟨Nat.le_of_ble_eq_true rfl, Nat.le_of_ble_eq_true rfl⟩) ?_
  clear hY
  rintro H locs k_5 hY
  obtain ⟨r_6, e_7, h⟩ := g_bind h
  refine G_ai hY hA (va_runV (As := []) (rest := []) ⟨hx, hb, hml, hown, hg⟩ (kX3_isInQuarantine l D y aS H.size L hL ad N σ r_3 _ k_5 e_7) (cwV 0 hg ggV_RX11_261_X3_isInQuarantine rfl rfl rfl (by decide +kernel) ⟨Nat.le_of_ble_eq_true rfl, Nat.le_of_ble_eq_true rfl⟩) (G_pV (q := (RX3, TX3, 10)) hK hY (hL _ (gcl_lt k_5 (by decide))) k_5 (by decide) rfl) rfl rfl hl.1 rfl (lv_room (Nat.le_of_ble_eq_true rfl)) dX11_isQuarantined_19 ⟨Nat.le_of_ble_eq_true rfl, Nat.le_of_ble_eq_true rfl⟩) ?_
  clear hY
  rintro _ H locs rfl hY
  obtain ⟨z_8, h⟩ := g_guard h
  cases h
  exact g_iret hx hb hr hlocks () hY.1 hY.2.1 hY.2.2 (g_nz (Classical.not_not.mp z_8)) rfl (Nat.le_of_ble_eq_true rfl) (Nat.le_of_ble_eq_true rfl) dX11_isQuarantined_22
section
variable {p : Program} {l : Launch} {e : Env} {s : State} {m : MethodId} {args : Array Value} {below : List Frame} {meth : Method} {c : Code} {D : va_G} {y : Nat → ClassId} {aS : Nat → Nat} {A : Nat → Prop} {L : List Nat} {ad : Nat → Nat} {N : Nat} {res : Int32}
end
def fX11_blame (N : Nat) (σ : gS) (x1 : Int32) : Option Int32 := (fX11_needPlace N σ x1 (8 : Int32)).bind fun r_1 => (fX8_whole N σ 159 x1).bind fun r_3 => some r_3
set_option maxRecDepth 100000 in
set_option maxHeartbeats 4000000 in
theorem kX11_blame (l : Launch) (D : va_G) (y : Nat → ClassId) (aS : Nat → Nat) (sz : Nat) (L : List Nat) (hL : ∀ k, k < 179 → k ∈ L) (ad : Nat → Nat) (N : Nat) (σ : gS) (x1 : Int32) (res : Int32) (h : fX11_blame N σ x1 = some res) : Met l yX11_blame (Cond.code yX11_blame cX11_blame 2 (some .int) :: wsL_law) ({ frames := 1, cells := 0, slots := 0, locals := 21 } : Room) (va_Pc [.ref (ad 0), .int x1] (gI D y aS (GW L y ad σ) sz)) (va_Qi (fun (r : Int32) (_ : Unit) => r = res) (fun _ => gO D (va_A (GW L y ad σ) sz) (GW L y ad σ)) (va_A (GW L y ad σ) sz)) 0 0 (va_A (GW L y ad σ) sz) := by
  refine g_of (by decide) (Nat.le_of_ble_eq_true rfl) ?_
  intro p e s m below meth c ls A hx hb hr hml hown hg hlocks hin hsz hK hP hD hS hA hAe hl
  rw [← hAe]
  replace hown : s.vm.findClass RX11 = some m.cls := hown
  have hY : gY D y A s L ad σ s.heap [] := ⟨hP, hD, hS⟩
  clear hP hD hS
  replace hl : lv_has ls 2 [(0, .ref (ad 0)), (1, .int x1)] := hl
  unfold fX11_blame at h
  refine lv_iload_n hx hb dX11_blame_0 rfl (lv_at hl 1 rfl) ?_
  refine lv_bipush (v := 8) hx hb dX11_blame_1 (by decide +kernel) ?_
  obtain ⟨r_1, e_2, h⟩ := g_bind h
  refine G_av hY hA (va_runS (As := [.int x1, .int 8]) (rest := []) ⟨hx, hb, hml, hown, hg⟩ (kX11_needPlace l D y aS s.heap.size L hL ad N σ x1 (8 : Int32) _ e_2) (va_cwS 2 hg ggS_RX11_106_X11_needPlace rfl rfl rfl (by decide +kernel) ⟨Nat.le_of_ble_eq_true rfl, Nat.le_of_ble_eq_true rfl⟩) (G_pS hK hY) rfl rfl hl.1 rfl (lv_room (Nat.le_of_ble_eq_true rfl)) dX11_blame_3 ⟨Nat.le_of_ble_eq_true rfl, Nat.le_of_ble_eq_true rfl⟩) ?_
  clear hY
  rintro H locs hY
  refine lv_aload_n hx hb dX11_blame_6 rfl (lv_at hl 0 rfl) ?_
  refine G_get (ci := 11) (j := 13) (C := RX11) (T := TX11) (N := 19) (v := .ref (ad 159)) hx hb hg inlX11 hown hK hY (hL 0 (by decide)) gk_0 (by decide) rfl (by decide) tX11_13 (hg _ gw_54) rfl dX11_blame_7 ?_
  refine lv_iload_n hx hb dX11_blame_10 rfl (lv_at hl 1 rfl) ?_
  obtain ⟨r_3, e_4, h⟩ := g_bind h
  refine G_ai hY hA (va_runV (As := [.int x1]) (rest := []) ⟨hx, hb, hml, hown, hg⟩ (kX8_whole l D y aS H.size L hL ad N σ 159 x1 _ gk_159 e_4) (cwV 1 hg ggV_RX11_187_X8_whole rfl rfl rfl (by decide +kernel) ⟨Nat.le_of_ble_eq_true rfl, Nat.le_of_ble_eq_true rfl⟩) (G_pV (q := (RX8, TX8, 2)) hK hY (hL 159 (by decide)) gk_159 (by decide) rfl) rfl rfl hl.1 rfl (lv_room (Nat.le_of_ble_eq_true rfl)) dX11_blame_11 ⟨Nat.le_of_ble_eq_true rfl, Nat.le_of_ble_eq_true rfl⟩) ?_
  clear hY
  rintro _ H locs rfl hY
  cases h
  exact g_iret hx hb hr hlocks () hY.1 hY.2.1 hY.2.2 rfl rfl (Nat.le_of_ble_eq_true rfl) (Nat.le_of_ble_eq_true rfl) dX11_blame_14
section
variable {p : Program} {l : Launch} {e : Env} {s : State} {m : MethodId} {args : Array Value} {below : List Frame} {meth : Method} {c : Code} {D : va_G} {y : Nat → ClassId} {aS : Nat → Nat} {A : Nat → Prop} {L : List Nat} {ad : Nat → Nat} {N : Nat} {res : Int32}
end
def fX11_running (N : Nat) (σ : gS) (x1 : Int32) : Option Int32 := (fX11_needPlace N σ x1 (6 : Int32)).bind fun r_1 => (fX11_machineAt N σ x1).bind fun r_3 => some (σ.1 r_3 2)
set_option maxRecDepth 100000 in
set_option maxHeartbeats 4000000 in
theorem kX11_running (l : Launch) (D : va_G) (y : Nat → ClassId) (aS : Nat → Nat) (sz : Nat) (L : List Nat) (hL : ∀ k, k < 179 → k ∈ L) (ad : Nat → Nat) (N : Nat) (σ : gS) (x1 : Int32) (res : Int32) (h : fX11_running N σ x1 = some res) : Met l yX11_running (Cond.code yX11_running cX11_running 2 (some .int) :: wsL_law) ({ frames := 1, cells := 0, slots := 0, locals := 22 } : Room) (va_Pc [.ref (ad 0), .int x1] (gI D y aS (GW L y ad σ) sz)) (va_Qi (fun (r : Int32) (_ : Unit) => r = res) (fun _ => gO D (va_A (GW L y ad σ) sz) (GW L y ad σ)) (va_A (GW L y ad σ) sz)) 0 0 (va_A (GW L y ad σ) sz) := by
  refine g_of (by decide) (Nat.le_of_ble_eq_true rfl) ?_
  intro p e s m below meth c ls A hx hb hr hml hown hg hlocks hin hsz hK hP hD hS hA hAe hl
  rw [← hAe]
  replace hown : s.vm.findClass RX11 = some m.cls := hown
  have hY : gY D y A s L ad σ s.heap [] := ⟨hP, hD, hS⟩
  clear hP hD hS
  replace hl : lv_has ls 2 [(0, .ref (ad 0)), (1, .int x1)] := hl
  unfold fX11_running at h
  refine lv_iload_n hx hb dX11_running_0 rfl (lv_at hl 1 rfl) ?_
  refine lv_bipush (v := 6) hx hb dX11_running_1 (by decide +kernel) ?_
  obtain ⟨r_1, e_2, h⟩ := g_bind h
  refine G_av hY hA (va_runS (As := [.int x1, .int 6]) (rest := []) ⟨hx, hb, hml, hown, hg⟩ (kX11_needPlace l D y aS s.heap.size L hL ad N σ x1 (6 : Int32) _ e_2) (va_cwS 2 hg ggS_RX11_106_X11_needPlace rfl rfl rfl (by decide +kernel) ⟨Nat.le_of_ble_eq_true rfl, Nat.le_of_ble_eq_true rfl⟩) (G_pS hK hY) rfl rfl hl.1 rfl (lv_room (Nat.le_of_ble_eq_true rfl)) dX11_running_3 ⟨Nat.le_of_ble_eq_true rfl, Nat.le_of_ble_eq_true rfl⟩) ?_
  clear hY
  rintro H locs hY
  refine lv_aload_n hx hb dX11_running_6 rfl (lv_at hl 0 rfl) ?_
  refine lv_iload_n hx hb dX11_running_7 rfl (lv_at hl 1 rfl) ?_
  obtain ⟨r_3, e_4, h⟩ := g_bind h
  refine G_ar hY hA (va_runV (As := [.int x1]) (rest := []) ⟨hx, hb, hml, hown, hg⟩ (kX11_machineAt l D y aS H.size L hL ad N σ x1 _ e_4) (cwV 1 hg ggV_RX11_273_X11_machineAt rfl rfl rfl (by decide +kernel) ⟨Nat.le_of_ble_eq_true rfl, Nat.le_of_ble_eq_true rfl⟩) (G_pV (q := (RX11, TX11, 19)) hK hY (hL 0 (by decide)) gk_0 (by decide) rfl) rfl rfl hl.1 rfl (lv_room (Nat.le_of_ble_eq_true rfl)) dX11_running_8 ⟨Nat.le_of_ble_eq_true rfl, Nat.le_of_ble_eq_true rfl⟩) ?_
  clear hY
  rintro H locs k_5 hY
  refine G_get (ci := 6) (j := 2) (C := RX6) (T := TX6) (N := 6) (v := .int (σ.1 r_3 2)) hx hb hg inlX6 hown hK hY (hL _ (gcl_lt k_5 (by decide))) k_5 (by decide) rfl (by decide) tX6_2 (hg _ gw_546) rfl dX11_running_11 ?_
  cases h
  exact g_iret hx hb hr hlocks () hY.1 hY.2.1 hY.2.2 rfl rfl (Nat.le_of_ble_eq_true rfl) (Nat.le_of_ble_eq_true rfl) dX11_running_14
section
variable {p : Program} {l : Launch} {e : Env} {s : State} {m : MethodId} {args : Array Value} {below : List Frame} {meth : Method} {c : Code} {D : va_G} {y : Nat → ClassId} {aS : Nat → Nat} {A : Nat → Prop} {L : List Nat} {ad : Nat → Nat} {N : Nat} {res : Int32}
end
def fX11_use (N : Nat) (σ : gS) (x1 : Int32) : Option Int32 := (fX11_needPlace N σ x1 (3 : Int32)).bind fun r_1 => (fX8_whole N σ 157 x1).bind fun r_3 => some r_3
set_option maxRecDepth 100000 in
set_option maxHeartbeats 4000000 in
theorem kX11_use (l : Launch) (D : va_G) (y : Nat → ClassId) (aS : Nat → Nat) (sz : Nat) (L : List Nat) (hL : ∀ k, k < 179 → k ∈ L) (ad : Nat → Nat) (N : Nat) (σ : gS) (x1 : Int32) (res : Int32) (h : fX11_use N σ x1 = some res) : Met l yX11_use (Cond.code yX11_use cX11_use 2 (some .int) :: wsL_law) ({ frames := 1, cells := 0, slots := 0, locals := 21 } : Room) (va_Pc [.ref (ad 0), .int x1] (gI D y aS (GW L y ad σ) sz)) (va_Qi (fun (r : Int32) (_ : Unit) => r = res) (fun _ => gO D (va_A (GW L y ad σ) sz) (GW L y ad σ)) (va_A (GW L y ad σ) sz)) 0 0 (va_A (GW L y ad σ) sz) := by
  refine g_of (by decide) (Nat.le_of_ble_eq_true rfl) ?_
  intro p e s m below meth c ls A hx hb hr hml hown hg hlocks hin hsz hK hP hD hS hA hAe hl
  rw [← hAe]
  replace hown : s.vm.findClass RX11 = some m.cls := hown
  have hY : gY D y A s L ad σ s.heap [] := ⟨hP, hD, hS⟩
  clear hP hD hS
  replace hl : lv_has ls 2 [(0, .ref (ad 0)), (1, .int x1)] := hl
  unfold fX11_use at h
  refine lv_iload_n hx hb dX11_use_0 rfl (lv_at hl 1 rfl) ?_
  refine lv_iconst (v := 3) hx hb dX11_use_1 (by decide) ?_
  obtain ⟨r_1, e_2, h⟩ := g_bind h
  refine G_av hY hA (va_runS (As := [.int x1, .int 3]) (rest := []) ⟨hx, hb, hml, hown, hg⟩ (kX11_needPlace l D y aS s.heap.size L hL ad N σ x1 (3 : Int32) _ e_2) (va_cwS 2 hg ggS_RX11_106_X11_needPlace rfl rfl rfl (by decide +kernel) ⟨Nat.le_of_ble_eq_true rfl, Nat.le_of_ble_eq_true rfl⟩) (G_pS hK hY) rfl rfl hl.1 rfl (lv_room (Nat.le_of_ble_eq_true rfl)) dX11_use_2 ⟨Nat.le_of_ble_eq_true rfl, Nat.le_of_ble_eq_true rfl⟩) ?_
  clear hY
  rintro H locs hY
  refine lv_aload_n hx hb dX11_use_5 rfl (lv_at hl 0 rfl) ?_
  refine G_get (ci := 11) (j := 12) (C := RX11) (T := TX11) (N := 19) (v := .ref (ad 157)) hx hb hg inlX11 hown hK hY (hL 0 (by decide)) gk_0 (by decide) rfl (by decide) tX11_12 (hg _ gw_53) rfl dX11_use_6 ?_
  refine lv_iload_n hx hb dX11_use_9 rfl (lv_at hl 1 rfl) ?_
  obtain ⟨r_3, e_4, h⟩ := g_bind h
  refine G_ai hY hA (va_runV (As := [.int x1]) (rest := []) ⟨hx, hb, hml, hown, hg⟩ (kX8_whole l D y aS H.size L hL ad N σ 157 x1 _ gk_157 e_4) (cwV 1 hg ggV_RX11_187_X8_whole rfl rfl rfl (by decide +kernel) ⟨Nat.le_of_ble_eq_true rfl, Nat.le_of_ble_eq_true rfl⟩) (G_pV (q := (RX8, TX8, 2)) hK hY (hL 157 (by decide)) gk_157 (by decide) rfl) rfl rfl hl.1 rfl (lv_room (Nat.le_of_ble_eq_true rfl)) dX11_use_10 ⟨Nat.le_of_ble_eq_true rfl, Nat.le_of_ble_eq_true rfl⟩) ?_
  clear hY
  rintro _ H locs rfl hY
  cases h
  exact g_iret hx hb hr hlocks () hY.1 hY.2.1 hY.2.2 rfl rfl (Nat.le_of_ble_eq_true rfl) (Nat.le_of_ble_eq_true rfl) dX11_use_13
section
variable {p : Program} {l : Launch} {e : Env} {s : State} {m : MethodId} {args : Array Value} {below : List Frame} {meth : Method} {c : Code} {D : va_G} {y : Nat → ClassId} {aS : Nat → Nat} {A : Nat → Prop} {L : List Nat} {ad : Nat → Nat} {N : Nat} {res : Int32}
end
def fX11_fullFailed (N : Nat) (σ : gS) : Option Int32 := some (σ.1 0 16)
set_option maxRecDepth 100000 in
set_option maxHeartbeats 4000000 in
theorem kX11_fullFailed (l : Launch) (D : va_G) (y : Nat → ClassId) (aS : Nat → Nat) (sz : Nat) (L : List Nat) (hL : ∀ k, k < 179 → k ∈ L) (ad : Nat → Nat) (N : Nat) (σ : gS) (res : Int32) (h : fX11_fullFailed N σ = some res) : Met l yX11_fullFailed (Cond.code yX11_fullFailed cX11_fullFailed 1 (some .int) :: wsL_law) ({ frames := 0, cells := 0, slots := 0, locals := 0 } : Room) (va_Pc [.ref (ad 0)] (gI D y aS (GW L y ad σ) sz)) (va_Qi (fun (r : Int32) (_ : Unit) => r = res) (fun _ => gO D (va_A (GW L y ad σ) sz) (GW L y ad σ)) (va_A (GW L y ad σ) sz)) 0 0 (va_A (GW L y ad σ) sz) := by
  refine g_of (by decide) (Nat.le_of_ble_eq_true rfl) ?_
  intro p e s m below meth c ls A hx hb hr hml hown hg hlocks hin hsz hK hP hD hS hA hAe hl
  rw [← hAe]
  replace hown : s.vm.findClass RX11 = some m.cls := hown
  have hY : gY D y A s L ad σ s.heap [] := ⟨hP, hD, hS⟩
  clear hP hD hS
  replace hl : lv_has ls 1 [(0, .ref (ad 0))] := hl
  unfold fX11_fullFailed at h
  refine lv_aload_n hx hb dX11_fullFailed_0 rfl (lv_at hl 0 rfl) ?_
  refine G_get (ci := 11) (j := 16) (C := RX11) (T := TX11) (N := 19) (v := .int (σ.1 0 16)) hx hb hg inlX11 hown hK hY (hL 0 (by decide)) gk_0 (by decide) rfl (by decide) tX11_16 (hg _ gw_55) rfl dX11_fullFailed_1 ?_
  cases h
  exact g_iret hx hb hr hlocks () hY.1 hY.2.1 hY.2.2 rfl rfl (Nat.le_of_ble_eq_true rfl) (Nat.le_of_ble_eq_true rfl) dX11_fullFailed_4
theorem ggV_RX11_321_X1_fits : GoodIn wsL_law (wsV RX11 321 RX1 yX1_fits (Cond.code yX1_fits cX1_fits 3 (some .boolean) :: wsL_law)) := g_gi (fun _ h => h) gW_good (List.forall_mem_cons.mpr ⟨⟨gw_810, rfl⟩, List.forall_mem_cons.mpr ⟨⟨gw_277, rfl⟩, List.forall_mem_cons.mpr ⟨⟨gw_278, rfl⟩, List.forall_mem_cons.mpr ⟨⟨gw_63, rfl⟩, fun _ h => nomatch h⟩⟩⟩⟩) ⟨gw_279, rfl⟩
section
variable {p : Program} {l : Launch} {e : Env} {s : State} {m : MethodId} {args : Array Value} {below : List Frame} {meth : Method} {c : Code} {D : va_G} {y : Nat → ClassId} {aS : Nat → Nat} {A : Nat → Prop} {L : List Nat} {ad : Nat → Nat} {N : Nat} {res : (Int32 × gS)}
def fX11_landFirstBatch_17 (N : Nat) (x1 : Int32) (rec17 : (gS × Int32) → Option (Int32 × gS)) (xx : gS × Int32) : Option (Int32 × gS) := match xx with
  | (σ, x2) => if x1 ≤ x2 then ((fX8_get N (sI σ 0 15 ((σ.1 0 15) + x1)) 116 (0 : Int32)).bind fun r_2 => (fX8_add N (sI σ 0 15 ((σ.1 0 15) + x1)) 151 r_2).bind fun r_4 => (fX11_stir N r_4).bind fun r_6 => some (1, r_6)) else ((fX8_whole N σ 112 x2).bind fun r_8 => (fX2_at N σ r_8).bind fun r_10 => rec17 ((sI (sI σ r_10 3 2) r_10 4 ((sI σ r_10 3 2).1 151 1)), (x2 + 1)))
set_option maxRecDepth 100000 in
set_option maxHeartbeats 4000000 in
theorem wX11_landFirstBatch_17 {x1 : Int32} (hx : p.tables.exec = Jvm.exec) (hb : c.code = cX11_landFirstBatch) (hr : meth.sig.returnType = (some .boolean)) (hml : c.maxLocals = 4) (hown : s.vm.findClass RX11 = some m.cls) (hg : ∀ w ∈ wsL_law, w.before args s = true) (hlocks : meth.locks = false) (hK : gK D y aS s) (hA : ∀ q, s.heap.size ≤ q → A q) (hL : ∀ k, k < 179 → k ∈ L) : ∀ (n : Nat) {σ : gS} {x2 : Int32} (H : Heap) (locs : List Loc) (ls : Array Slot), gY D y A s L ad σ H locs → lv_has ls 4 [(0, .ref (ad 0)), (1, .int x1), (2, .int x2)] → lp (fX11_landFirstBatch_17 N x1) n (σ, x2) = some res → W p l e ({ frames := 2, cells := 0, slots := 0, locals := 42 } : Room) s m args below meth c H locs 0 0 (MQ below (va_Qi (fun (r : Int32) (_ : Unit) => r = res.1) (fun _ => gO D A (GW L y ad res.2)) A) args s 0 0 A) (F0 m 17 ls []) := by
  intro n
  induction n with
  | zero => intro σ x2 H locs ls hY hl h; exact nomatch (show none = some res from h)
  | succ n hrec17 =>
    intro σ x2 H locs ls hY hl h
    replace h : fX11_landFirstBatch_17 N x1 (lp (fX11_landFirstBatch_17 N x1) n) (σ, x2) = some res := h
    generalize lp (fX11_landFirstBatch_17 N x1) n = rec17 at h hrec17
    unfold fX11_landFirstBatch_17 at h
    try dsimp only at h
    refine lv_iload_n hx hb dX11_landFirstBatch_17 rfl (lv_at hl 2 rfl) ?_
    refine lv_iload_n hx hb dX11_landFirstBatch_18 rfl (lv_at hl 1 rfl) ?_
    refine lv_icmp_ge (tgt := 63) hx hb dX11_landFirstBatch_19 (by decide) (fun z_1 => ?_) (fun z_1 => ?_)
    ·
      rw [if_pos z_1] at h
      refine lv_aload_n hx hb dX11_landFirstBatch_63 rfl (lv_at hl 0 rfl) ?_
      refine lv_dup hx hb dX11_landFirstBatch_64 rfl ?_
      refine G_get (ci := 11) (j := 15) (C := RX11) (T := TX11) (N := 19) (v := .int (σ.1 0 15)) hx hb hg inlX11 hown hK hY (hL 0 (by decide)) gk_0 (by decide) rfl (by decide) tX11_15 (hg _ gw_742) rfl dX11_landFirstBatch_65 ?_
      refine lv_iload_n hx hb dX11_landFirstBatch_68 rfl (lv_at hl 1 rfl) ?_
      refine lv_iadd hx hb dX11_landFirstBatch_69 ?_
      refine G_putI (ci := 11) (j := 15) (C := RX11) (T := TX11) (N := 19) (v := ((σ.1 0 15) + x1)) (ty := .int) hx hb hg inlX11 tyX11 tyX11_ok nmX11 hown hK hY (hL 0 (by decide)) gk_0 (by decide) rfl (by decide) tX11_15 (hg _ gw_742) (by decide +kernel) rfl rfl (fun _ _ => rfl) (fun _ _ => Nat.le_of_ble_eq_true rfl) dX11_landFirstBatch_70 ?_
      clear hY
      intro H locs hY
      refine lv_aload_n hx hb dX11_landFirstBatch_73 rfl (lv_at hl 0 rfl) ?_
      refine G_get (ci := 11) (j := 9) (C := RX11) (T := TX11) (N := 19) (v := .ref (ad 151)) hx hb hg inlX11 hown hK hY (hL 0 (by decide)) gk_0 (by decide) rfl (by decide) tX11_9 (hg _ gw_49) rfl dX11_landFirstBatch_74 ?_
      refine lv_aload_n hx hb dX11_landFirstBatch_77 rfl (lv_at hl 0 rfl) ?_
      refine G_get (ci := 11) (j := 3) (C := RX11) (T := TX11) (N := 19) (v := .ref (ad 109)) hx hb hg inlX11 hown hK hY (hL 0 (by decide)) gk_0 (by decide) rfl (by decide) tX11_3 (hg _ gw_28) rfl dX11_landFirstBatch_78 ?_
      refine G_get (ci := 4) (j := 7) (C := RX4) (T := TX4) (N := 9) (v := .ref (ad 116)) hx hb hg inlX4 hown hK hY (hL 109 (by decide)) gk_109 (by decide) rfl (by decide) tX4_7 (hg _ gw_815) rfl dX11_landFirstBatch_81 ?_
      refine lv_iconst (v := 0) hx hb dX11_landFirstBatch_84 (by decide) ?_
      obtain ⟨r_2, e_3, h⟩ := g_bind h
      refine G_al hY hA (va_runV (As := [.int 0]) (rest := [.ref (ad 151)]) ⟨hx, hb, hml, hown, hg⟩ (kX8_get l D y aS H.size L hL ad N (sI σ 0 15 ((σ.1 0 15) + x1)) 116 (0 : Int32) _ gk_116 e_3) (cwV 1 hg ggV_RX11_218_X8_get rfl rfl rfl (by decide +kernel) ⟨Nat.le_of_ble_eq_true rfl, Nat.le_of_ble_eq_true rfl⟩) (G_pV (q := (RX8, TX8, 2)) hK hY (hL 116 (by decide)) gk_116 (by decide) rfl) rfl rfl hl.1 rfl (lv_room (Nat.le_of_ble_eq_true rfl)) dX11_landFirstBatch_85 ⟨Nat.le_of_ble_eq_true rfl, Nat.le_of_ble_eq_true rfl⟩) ?_
      clear hY
      rintro _ H locs rfl hY
      obtain ⟨r_4, e_5, h⟩ := g_bind h
      refine G_av hY hA (va_runV (As := [.long r_2]) (rest := []) ⟨hx, hb, hml, hown, hg⟩ (kX8_add l D y aS H.size L hL ad N (sI σ 0 15 ((σ.1 0 15) + x1)) 151 r_2 _ gk_151 e_5) (cwV 1 hg ggV_RX11_80_X8_add rfl rfl rfl (by decide +kernel) ⟨Nat.le_of_ble_eq_true rfl, Nat.le_of_ble_eq_true rfl⟩) (G_pV (q := (RX8, TX8, 2)) hK hY (hL 151 (by decide)) gk_151 (by decide) rfl) rfl rfl hl.1 rfl (lv_room (Nat.le_of_ble_eq_true rfl)) dX11_landFirstBatch_88 ⟨Nat.le_of_ble_eq_true rfl, Nat.le_of_ble_eq_true rfl⟩) ?_
      clear hY
      rintro H locs hY
      refine lv_aload_n hx hb dX11_landFirstBatch_91 rfl (lv_at hl 0 rfl) ?_
      obtain ⟨r_6, e_7, h⟩ := g_bind h
      refine G_av hY hA (va_runV (As := []) (rest := []) ⟨hx, hb, hml, hown, hg⟩ (kX11_stir l D y aS H.size L hL ad N r_4 _ e_7) (cwV 0 hg ggV_RX11_230_X11_stir rfl rfl rfl (by decide +kernel) ⟨Nat.le_of_ble_eq_true rfl, Nat.le_of_ble_eq_true rfl⟩) (G_pV (q := (RX11, TX11, 19)) hK hY (hL 0 (by decide)) gk_0 (by decide) rfl) rfl rfl hl.1 rfl (lv_room (Nat.le_of_ble_eq_true rfl)) dX11_landFirstBatch_92 ⟨Nat.le_of_ble_eq_true rfl, Nat.le_of_ble_eq_true rfl⟩) ?_
      clear hY
      rintro H locs hY
      refine lv_iconst (v := 1) hx hb dX11_landFirstBatch_95 (by decide) ?_
      cases h
      exact g_iret hx hb hr hlocks () hY.1 hY.2.1 hY.2.2 rfl rfl (Nat.le_of_ble_eq_true rfl) (Nat.le_of_ble_eq_true rfl) dX11_landFirstBatch_96
    ·
      rw [if_neg z_1] at h
      refine lv_aload_n hx hb dX11_landFirstBatch_22 rfl (lv_at hl 0 rfl) ?_
      refine G_get (ci := 11) (j := 0) (C := RX11) (T := TX11) (N := 19) (v := .ref (ad 1)) hx hb hg inlX11 hown hK hY (hL 0 (by decide)) gk_0 (by decide) rfl (by decide) tX11_0 (hg _ gw_16) rfl dX11_landFirstBatch_23 ?_
      refine lv_aload_n hx hb dX11_landFirstBatch_26 rfl (lv_at hl 0 rfl) ?_
      refine G_get (ci := 11) (j := 3) (C := RX11) (T := TX11) (N := 19) (v := .ref (ad 109)) hx hb hg inlX11 hown hK hY (hL 0 (by decide)) gk_0 (by decide) rfl (by decide) tX11_3 (hg _ gw_28) rfl dX11_landFirstBatch_27 ?_
      refine G_get (ci := 4) (j := 5) (C := RX4) (T := TX4) (N := 9) (v := .ref (ad 112)) hx hb hg inlX4 hown hK hY (hL 109 (by decide)) gk_109 (by decide) rfl (by decide) tX4_5 (hg _ gw_577) rfl dX11_landFirstBatch_30 ?_
      refine lv_iload_n hx hb dX11_landFirstBatch_33 rfl (lv_at hl 2 rfl) ?_
      obtain ⟨r_8, e_9, h⟩ := g_bind h
      refine G_ai hY hA (va_runV (As := [.int x2]) (rest := [.ref (ad 1)]) ⟨hx, hb, hml, hown, hg⟩ (kX8_whole l D y aS H.size L hL ad N σ 112 x2 _ gk_112 e_9) (cwV 1 hg ggV_RX11_187_X8_whole rfl rfl rfl (by decide +kernel) ⟨Nat.le_of_ble_eq_true rfl, Nat.le_of_ble_eq_true rfl⟩) (G_pV (q := (RX8, TX8, 2)) hK hY (hL 112 (by decide)) gk_112 (by decide) rfl) rfl rfl hl.1 rfl (lv_room (Nat.le_of_ble_eq_true rfl)) dX11_landFirstBatch_34 ⟨Nat.le_of_ble_eq_true rfl, Nat.le_of_ble_eq_true rfl⟩) ?_
      clear hY
      rintro _ H locs rfl hY
      obtain ⟨r_10, e_11, h⟩ := g_bind h
      refine G_ar hY hA (va_runV (As := [.int r_8]) (rest := []) ⟨hx, hb, hml, hown, hg⟩ (kX2_at l D y aS H.size L hL ad N σ r_8 _ e_11) (cwV 1 hg ggV_RX11_113_X2_at rfl rfl rfl (by decide +kernel) ⟨Nat.le_of_ble_eq_true rfl, Nat.le_of_ble_eq_true rfl⟩) (G_pV (q := (RX2, TX2, 5)) hK hY (hL 1 (by decide)) gk_1 (by decide) rfl) rfl rfl hl.1 rfl (lv_room (Nat.le_of_ble_eq_true rfl)) dX11_landFirstBatch_37 ⟨Nat.le_of_ble_eq_true rfl, Nat.le_of_ble_eq_true rfl⟩) ?_
      clear hY
      rintro H locs k_12 hY
      refine lv_astore_n (lv' := [(3, .ref (ad r_10)), (0, .ref (ad 0)), (1, .int x1), (2, .int x2)]) hx hb dX11_landFirstBatch_40 rfl hl (by decide) rfl ?_
      clear hl
      intro ls hl
      refine lv_aload_n hx hb dX11_landFirstBatch_41 rfl (lv_at hl 0 rfl) ?_
      refine lv_iconst (v := 2) hx hb dX11_landFirstBatch_42 (by decide) ?_
      refine G_putI (ci := 1) (j := 3) (C := RX1) (T := TX1) (N := 14) (v := 2) (ty := .int) hx hb hg inlX1 tyX1 tyX1_ok nmX1 hown hK hY (hL _ (gcl_lt k_12 (by decide))) k_12 (by decide) rfl (by decide) tX1_3 (hg _ gw_379) (by decide +kernel) rfl rfl (fun _ _ => rfl) (fun _ _ => Nat.le_of_ble_eq_true rfl) dX11_landFirstBatch_43 ?_
      clear hY
      intro H locs hY
      refine lv_aload_n hx hb dX11_landFirstBatch_46 rfl (lv_at hl 0 rfl) ?_
      refine lv_aload_n hx hb dX11_landFirstBatch_47 rfl (lv_at hl 1 rfl) ?_
      refine G_get (ci := 11) (j := 9) (C := RX11) (T := TX11) (N := 19) (v := .ref (ad 151)) hx hb hg inlX11 hown hK hY (hL 0 (by decide)) gk_0 (by decide) rfl (by decide) tX11_9 (hg _ gw_49) rfl dX11_landFirstBatch_48 ?_
      refine G_get (ci := 8) (j := 1) (C := RX8) (T := TX8) (N := 2) (v := .int ((sI σ r_10 3 2).1 151 1)) hx hb hg inlX8 hown hK hY (hL 151 (by decide)) gk_151 (by decide) rfl (by decide) tX8_1 (hg _ gw_178) rfl dX11_landFirstBatch_51 ?_
      refine G_putI (ci := 1) (j := 4) (C := RX1) (T := TX1) (N := 14) (v := ((sI σ r_10 3 2).1 151 1)) (ty := .int) hx hb hg inlX1 tyX1 tyX1_ok nmX1 hown hK hY (hL _ (gcl_lt k_12 (by decide))) k_12 (by decide) rfl (by decide) tX1_4 (hg _ gw_444) (by decide +kernel) rfl rfl (fun _ _ => rfl) (fun _ _ => Nat.le_of_ble_eq_true rfl) dX11_landFirstBatch_54 ?_
      clear hY
      intro H locs hY
      refine lv_iinc (v := (x2 + 1)) (lv' := [(2, .int (x2 + 1)), (3, .ref (ad r_10)), (0, .ref (ad 0)), (1, .int x1)]) hx hb dX11_landFirstBatch_57 hl (k := 3) rfl rfl (by decide) rfl ?_
      clear hl
      intro ls hl
      refine lv_goto (tgt := 17) hx hb dX11_landFirstBatch_60 (by decide) ?_
      exact hrec17 _ _ _ hY (lv_sub hl [2, 3, 0] rfl) h
end
def fX11_landFirstBatch (N : Nat) (σ : gS) : Option (Int32 × gS) := (fX4_endOf N σ (0 : Int32)).bind fun r_1 => if r_1 = 0 then (some (0, σ)) else (lp (fX11_landFirstBatch_17 N r_1) N (σ, 0))
set_option maxRecDepth 100000 in
set_option maxHeartbeats 4000000 in
theorem kX11_landFirstBatch (l : Launch) (D : va_G) (y : Nat → ClassId) (aS : Nat → Nat) (sz : Nat) (L : List Nat) (hL : ∀ k, k < 179 → k ∈ L) (ad : Nat → Nat) (N : Nat) (σ : gS) (res : (Int32 × gS)) (h : fX11_landFirstBatch N σ = some res) : Met l yX11_landFirstBatch (Cond.code yX11_landFirstBatch cX11_landFirstBatch 4 (some .boolean) :: wsL_law) ({ frames := 2, cells := 0, slots := 0, locals := 42 } : Room) (va_Pc [.ref (ad 0)] (gI D y aS (GW L y ad σ) sz)) (va_Qi (fun (r : Int32) (_ : Unit) => r = res.1) (fun _ => gO D (va_A (GW L y ad σ) sz) (GW L y ad res.2)) (va_A (GW L y ad σ) sz)) 0 0 (va_A (GW L y ad σ) sz) := by
  refine g_of (by decide) (Nat.le_of_ble_eq_true rfl) ?_
  intro p e s m below meth c ls A hx hb hr hml hown hg hlocks hin hsz hK hP hD hS hA hAe hl
  rw [← hAe]
  replace hown : s.vm.findClass RX11 = some m.cls := hown
  have hY : gY D y A s L ad σ s.heap [] := ⟨hP, hD, hS⟩
  clear hP hD hS
  replace hl : lv_has ls 4 [(0, .ref (ad 0))] := hl
  unfold fX11_landFirstBatch at h
  refine lv_aload_n hx hb dX11_landFirstBatch_0 rfl (lv_at hl 0 rfl) ?_
  refine G_get (ci := 11) (j := 3) (C := RX11) (T := TX11) (N := 19) (v := .ref (ad 109)) hx hb hg inlX11 hown hK hY (hL 0 (by decide)) gk_0 (by decide) rfl (by decide) tX11_3 (hg _ gw_28) rfl dX11_landFirstBatch_1 ?_
  refine lv_iconst (v := 0) hx hb dX11_landFirstBatch_4 (by decide) ?_
  obtain ⟨r_1, e_2, h⟩ := g_bind h
  refine G_ai hY hA (va_runV (As := [.int 0]) (rest := []) ⟨hx, hb, hml, hown, hg⟩ (kX4_endOf l D y aS s.heap.size L hL ad N σ (0 : Int32) _ e_2) (cwV 1 hg ggV_RX11_431_X4_endOf rfl rfl rfl (by decide +kernel) ⟨Nat.le_of_ble_eq_true rfl, Nat.le_of_ble_eq_true rfl⟩) (G_pV (q := (RX4, TX4, 9)) hK hY (hL 109 (by decide)) gk_109 (by decide) rfl) rfl rfl hl.1 rfl (lv_room (Nat.le_of_ble_eq_true rfl)) dX11_landFirstBatch_5 ⟨Nat.le_of_ble_eq_true rfl, Nat.le_of_ble_eq_true rfl⟩) ?_
  clear hY
  rintro _ H locs rfl hY
  refine lv_istore_n (lv' := [(1, .int r_1), (0, .ref (ad 0))]) hx hb dX11_landFirstBatch_8 rfl hl (by decide) rfl ?_
  clear hl
  intro ls hl
  refine lv_iload_n hx hb dX11_landFirstBatch_9 rfl (lv_at hl 0 rfl) ?_
  refine lv_if_ne (tgt := 15) hx hb dX11_landFirstBatch_10 (by decide) (fun z_3 => ?_) (fun z_3 => ?_)
  ·
    rw [if_neg z_3] at h
    refine lv_iconst (v := 0) hx hb dX11_landFirstBatch_15 (by decide) ?_
    refine lv_istore_n (lv' := [(2, .int 0), (1, .int r_1), (0, .ref (ad 0))]) hx hb dX11_landFirstBatch_16 rfl hl (by decide) rfl ?_
    clear hl
    intro ls hl
    exact wX11_landFirstBatch_17 hx hb hr hml hown hg hlocks hK hA hL N _ _ _ hY (lv_sub hl [2, 1, 0] rfl) h
  ·
    rw [if_pos z_3] at h
    refine lv_iconst (v := 0) hx hb dX11_landFirstBatch_13 (by decide) ?_
    cases h
    exact g_iret hx hb hr hlocks () hY.1 hY.2.1 hY.2.2 rfl rfl (Nat.le_of_ble_eq_true rfl) (Nat.le_of_ble_eq_true rfl) dX11_landFirstBatch_14
theorem ggV_RX11_419_X11_landFirstBatch : GoodIn wsL_law (wsV RX11 419 RX11 yX11_landFirstBatch (Cond.code yX11_landFirstBatch cX11_landFirstBatch 4 (some .boolean) :: wsL_law)) := g_gi (fun _ h => h) gW_good (List.forall_mem_cons.mpr ⟨⟨gw_811, rfl⟩, List.forall_mem_cons.mpr ⟨⟨gw_812, rfl⟩, List.forall_mem_cons.mpr ⟨⟨gw_813, rfl⟩, List.forall_mem_cons.mpr ⟨⟨gw_2, rfl⟩, fun _ h => nomatch h⟩⟩⟩⟩) ⟨gw_814, rfl⟩
section
variable {p : Program} {l : Launch} {e : Env} {s : State} {m : MethodId} {args : Array Value} {below : List Frame} {meth : Method} {c : Code} {D : va_G} {y : Nat → ClassId} {aS : Nat → Nat} {A : Nat → Prop} {L : List Nat} {ad : Nat → Nat} {N : Nat} {res : (Int32 × gS)}
def fX11_decideOnce_156 (N : Nat) (σ : gS) : Option (Int32 × gS) := some (0, σ)
set_option maxRecDepth 100000 in
set_option maxHeartbeats 4000000 in
theorem wX11_decideOnce_156 {σ : gS} (hx : p.tables.exec = Jvm.exec) (hb : c.code = cX11_decideOnce) (hr : meth.sig.returnType = (some .boolean)) (hml : c.maxLocals = 3) (hown : s.vm.findClass RX11 = some m.cls) (hg : ∀ w ∈ wsL_law, w.before args s = true) (hlocks : meth.locks = false) (hK : gK D y aS s) (hA : ∀ q, s.heap.size ≤ q → A q) (hL : ∀ k, k < 179 → k ∈ L) {H : Heap} {locs : List Loc} {ls : Array Slot} (hY : gY D y A s L ad σ H locs) (hl : lv_has ls 3 []) (h : fX11_decideOnce_156 N σ = some res) : W p l e ({ frames := 4, cells := 0, slots := 0, locals := 101 } : Room) s m args below meth c H locs 0 0 (MQ below (va_Qi (fun (r : Int32) (_ : Unit) => r = res.1) (fun _ => gO D A (GW L y ad res.2)) A) args s 0 0 A) (F0 m 156 ls []) := by
  unfold fX11_decideOnce_156 at h
  refine lv_iconst (v := 0) hx hb dX11_decideOnce_156 (by decide) ?_
  cases h
  exact g_iret hx hb hr hlocks () hY.1 hY.2.1 hY.2.2 rfl rfl (Nat.le_of_ble_eq_true rfl) (Nat.le_of_ble_eq_true rfl) dX11_decideOnce_157
end
def fX11_decideOnce (N : Nat) (σ : gS) : Option (Int32 × gS) := (fX11_formBatches N σ).bind fun r_1 => if (r_1.1 110 1) = 0 then (some (0, r_1)) else ((fX8_whole N r_1 110 (0 : Int32)).bind fun r_4 => (fX2_at N r_1 r_4).bind fun r_6 => (fX11_trunkTree N r_1).bind fun r_9 => (fX1_fits N r_1 r_6 r_9).bind fun r_11 => if r_11 = 0 then ((fX11_takeOutOfQueue N r_1 r_6 (4 : Int32)).bind fun r_37 => some (1, r_37.2)) else ((fX11_lookAtFirstBatch N r_1).bind fun r_14 => if (r_14.1 118 3) = 1 then ((fX11_landFirstBatch N r_14).bind fun r_34 => if ¬ (r_34.1 = 0 ∨ r_34.1 = 1) then none else (some (r_34.1, r_34.2))) else ((fX0_isNarrowed N r_14).bind fun r_17 => if r_17 = 0 then (fX11_decideOnce_156 N r_14) else ((fX11_verdictBehindGood N r_14).bind fun r_20 => if r_20 = 1 then ((fX8_whole N r_14 112 ((r_14.1 118 5) - 1)).bind fun r_23 => (fX2_at N r_14 r_23).bind fun r_25 => (fX8_get N r_14 159 (r_14.1 r_25 1)).bind fun r_28 => (fX8_set N r_14 159 (r_14.1 r_25 1) (r_28 + 1)).bind fun r_30 => (fX11_takeOutOfQueue N r_30 r_25 (3 : Int32)).bind fun r_32 => some (1, r_32.2)) else (fX11_decideOnce_156 N r_14)))))
set_option maxRecDepth 100000 in
set_option maxHeartbeats 4000000 in
theorem kX11_decideOnce (l : Launch) (D : va_G) (y : Nat → ClassId) (aS : Nat → Nat) (sz : Nat) (L : List Nat) (hL : ∀ k, k < 179 → k ∈ L) (ad : Nat → Nat) (N : Nat) (σ : gS) (res : (Int32 × gS)) (h : fX11_decideOnce N σ = some res) : Met l yX11_decideOnce (Cond.code yX11_decideOnce cX11_decideOnce 3 (some .boolean) :: wsL_law) ({ frames := 4, cells := 0, slots := 0, locals := 101 } : Room) (va_Pc [.ref (ad 0)] (gI D y aS (GW L y ad σ) sz)) (va_Qi (fun (r : Int32) (_ : Unit) => r = res.1) (fun _ => gO D (va_A (GW L y ad σ) sz) (GW L y ad res.2)) (va_A (GW L y ad σ) sz)) 0 0 (va_A (GW L y ad σ) sz) := by
  refine g_of (by decide) (Nat.le_of_ble_eq_true rfl) ?_
  intro p e s m below meth c ls A hx hb hr hml hown hg hlocks hin hsz hK hP hD hS hA hAe hl
  rw [← hAe]
  replace hown : s.vm.findClass RX11 = some m.cls := hown
  have hY : gY D y A s L ad σ s.heap [] := ⟨hP, hD, hS⟩
  clear hP hD hS
  replace hl : lv_has ls 3 [(0, .ref (ad 0))] := hl
  unfold fX11_decideOnce at h
  refine lv_aload_n hx hb dX11_decideOnce_0 rfl (lv_at hl 0 rfl) ?_
  obtain ⟨r_1, e_2, h⟩ := g_bind h
  refine G_av hY hA (va_runV (As := []) (rest := []) ⟨hx, hb, hml, hown, hg⟩ (kX11_formBatches l D y aS s.heap.size L hL ad N σ _ e_2) (cwV 0 hg ggV_RX11_204_X11_formBatches rfl rfl rfl (by decide +kernel) ⟨Nat.le_of_ble_eq_true rfl, Nat.le_of_ble_eq_true rfl⟩) (G_pV (q := (RX11, TX11, 19)) hK hY (hL 0 (by decide)) gk_0 (by decide) rfl) rfl rfl hl.1 rfl (lv_room (Nat.le_of_ble_eq_true rfl)) dX11_decideOnce_1 ⟨Nat.le_of_ble_eq_true rfl, Nat.le_of_ble_eq_true rfl⟩) ?_
  clear hY
  rintro H locs hY
  refine lv_aload_n hx hb dX11_decideOnce_4 rfl (lv_at hl 0 rfl) ?_
  refine G_get (ci := 11) (j := 3) (C := RX11) (T := TX11) (N := 19) (v := .ref (ad 109)) hx hb hg inlX11 hown hK hY (hL 0 (by decide)) gk_0 (by decide) rfl (by decide) tX11_3 (hg _ gw_28) rfl dX11_decideOnce_5 ?_
  refine G_get (ci := 4) (j := 4) (C := RX4) (T := TX4) (N := 9) (v := .ref (ad 110)) hx hb hg inlX4 hown hK hY (hL 109 (by decide)) gk_109 (by decide) rfl (by decide) tX4_4 (hg _ gw_190) rfl dX11_decideOnce_8 ?_
  refine G_get (ci := 8) (j := 1) (C := RX8) (T := TX8) (N := 2) (v := .int (r_1.1 110 1)) hx hb hg inlX8 hown hK hY (hL 110 (by decide)) gk_110 (by decide) rfl (by decide) tX8_1 (hg _ gw_178) rfl dX11_decideOnce_11 ?_
  refine lv_if_ne (tgt := 19) hx hb dX11_decideOnce_14 (by decide) (fun z_3 => ?_) (fun z_3 => ?_)
  ·
    rw [if_neg z_3] at h
    refine lv_aload_n hx hb dX11_decideOnce_19 rfl (lv_at hl 0 rfl) ?_
    refine G_get (ci := 11) (j := 0) (C := RX11) (T := TX11) (N := 19) (v := .ref (ad 1)) hx hb hg inlX11 hown hK hY (hL 0 (by decide)) gk_0 (by decide) rfl (by decide) tX11_0 (hg _ gw_16) rfl dX11_decideOnce_20 ?_
    refine lv_aload_n hx hb dX11_decideOnce_23 rfl (lv_at hl 0 rfl) ?_
    refine G_get (ci := 11) (j := 3) (C := RX11) (T := TX11) (N := 19) (v := .ref (ad 109)) hx hb hg inlX11 hown hK hY (hL 0 (by decide)) gk_0 (by decide) rfl (by decide) tX11_3 (hg _ gw_28) rfl dX11_decideOnce_24 ?_
    refine G_get (ci := 4) (j := 4) (C := RX4) (T := TX4) (N := 9) (v := .ref (ad 110)) hx hb hg inlX4 hown hK hY (hL 109 (by decide)) gk_109 (by decide) rfl (by decide) tX4_4 (hg _ gw_190) rfl dX11_decideOnce_27 ?_
    refine lv_iconst (v := 0) hx hb dX11_decideOnce_30 (by decide) ?_
    obtain ⟨r_4, e_5, h⟩ := g_bind h
    refine G_ai hY hA (va_runV (As := [.int 0]) (rest := [.ref (ad 1)]) ⟨hx, hb, hml, hown, hg⟩ (kX8_whole l D y aS H.size L hL ad N r_1 110 (0 : Int32) _ gk_110 e_5) (cwV 1 hg ggV_RX11_187_X8_whole rfl rfl rfl (by decide +kernel) ⟨Nat.le_of_ble_eq_true rfl, Nat.le_of_ble_eq_true rfl⟩) (G_pV (q := (RX8, TX8, 2)) hK hY (hL 110 (by decide)) gk_110 (by decide) rfl) rfl rfl hl.1 rfl (lv_room (Nat.le_of_ble_eq_true rfl)) dX11_decideOnce_31 ⟨Nat.le_of_ble_eq_true rfl, Nat.le_of_ble_eq_true rfl⟩) ?_
    clear hY
    rintro _ H locs rfl hY
    obtain ⟨r_6, e_7, h⟩ := g_bind h
    refine G_ar hY hA (va_runV (As := [.int r_4]) (rest := []) ⟨hx, hb, hml, hown, hg⟩ (kX2_at l D y aS H.size L hL ad N r_1 r_4 _ e_7) (cwV 1 hg ggV_RX11_113_X2_at rfl rfl rfl (by decide +kernel) ⟨Nat.le_of_ble_eq_true rfl, Nat.le_of_ble_eq_true rfl⟩) (G_pV (q := (RX2, TX2, 5)) hK hY (hL 1 (by decide)) gk_1 (by decide) rfl) rfl rfl hl.1 rfl (lv_room (Nat.le_of_ble_eq_true rfl)) dX11_decideOnce_34 ⟨Nat.le_of_ble_eq_true rfl, Nat.le_of_ble_eq_true rfl⟩) ?_
    clear hY
    rintro H locs k_8 hY
    refine lv_astore_n (lv' := [(1, .ref (ad r_6)), (0, .ref (ad 0))]) hx hb dX11_decideOnce_37 rfl hl (by decide) rfl ?_
    clear hl
    intro ls hl
    refine lv_aload_n hx hb dX11_decideOnce_38 rfl (lv_at hl 0 rfl) ?_
    refine lv_aload_n hx hb dX11_decideOnce_39 rfl (lv_at hl 1 rfl) ?_
    obtain ⟨r_9, e_10, h⟩ := g_bind h
    refine G_al hY hA (va_runV (As := []) (rest := [.ref (ad r_6)]) ⟨hx, hb, hml, hown, hg⟩ (kX11_trunkTree l D y aS H.size L hL ad N r_1 _ e_10) (cwV 0 hg ggV_RX11_156_X11_trunkTree rfl rfl rfl (by decide +kernel) ⟨Nat.le_of_ble_eq_true rfl, Nat.le_of_ble_eq_true rfl⟩) (G_pV (q := (RX11, TX11, 19)) hK hY (hL 0 (by decide)) gk_0 (by decide) rfl) rfl rfl hl.1 rfl (lv_room (Nat.le_of_ble_eq_true rfl)) dX11_decideOnce_40 ⟨Nat.le_of_ble_eq_true rfl, Nat.le_of_ble_eq_true rfl⟩) ?_
    clear hY
    rintro _ H locs rfl hY
    obtain ⟨r_11, e_12, h⟩ := g_bind h
    refine G_ai hY hA (va_runV (As := [.long r_9]) (rest := []) ⟨hx, hb, hml, hown, hg⟩ (kX1_fits l D y aS H.size L hL ad N r_1 r_6 r_9 _ k_8 e_12) (cwV 1 hg ggV_RX11_321_X1_fits rfl rfl rfl (by decide +kernel) ⟨Nat.le_of_ble_eq_true rfl, Nat.le_of_ble_eq_true rfl⟩) (G_pV (q := (RX1, TX1, 14)) hK hY (hL _ (gcl_lt k_8 (by decide))) k_8 (by decide) rfl) rfl rfl hl.1 rfl (lv_room (Nat.le_of_ble_eq_true rfl)) dX11_decideOnce_43 ⟨Nat.le_of_ble_eq_true rfl, Nat.le_of_ble_eq_true rfl⟩) ?_
    clear hY
    rintro _ H locs rfl hY
    refine lv_if_ne (tgt := 58) hx hb dX11_decideOnce_46 (by decide) (fun z_13 => ?_) (fun z_13 => ?_)
    ·
      rw [if_neg z_13] at h
      refine lv_aload_n hx hb dX11_decideOnce_58 rfl (lv_at hl 1 rfl) ?_
      obtain ⟨r_14, e_15, h⟩ := g_bind h
      refine G_av hY hA (va_runV (As := []) (rest := []) ⟨hx, hb, hml, hown, hg⟩ (kX11_lookAtFirstBatch l D y aS H.size L hL ad N r_1 _ e_15) (cwV 0 hg ggV_RX11_305_X11_lookAtFirstBatch rfl rfl rfl (by decide +kernel) ⟨Nat.le_of_ble_eq_true rfl, Nat.le_of_ble_eq_true rfl⟩) (G_pV (q := (RX11, TX11, 19)) hK hY (hL 0 (by decide)) gk_0 (by decide) rfl) rfl rfl hl.1 rfl (lv_room (Nat.le_of_ble_eq_true rfl)) dX11_decideOnce_59 ⟨Nat.le_of_ble_eq_true rfl, Nat.le_of_ble_eq_true rfl⟩) ?_
      clear hY
      rintro H locs hY
      refine lv_aload_n hx hb dX11_decideOnce_62 rfl (lv_at hl 1 rfl) ?_
      refine G_get (ci := 11) (j := 4) (C := RX11) (T := TX11) (N := 19) (v := .ref (ad 118)) hx hb hg inlX11 hown hK hY (hL 0 (by decide)) gk_0 (by decide) rfl (by decide) tX11_4 (hg _ gw_32) rfl dX11_decideOnce_63 ?_
      refine G_get (ci := 0) (j := 3) (C := RX0) (T := TX0) (N := 7) (v := .int (r_14.1 118 3)) hx hb hg inlX0 hown hK hY (hL 118 (by decide)) gk_118 (by decide) rfl (by decide) tX0_3 (hg _ gw_580) rfl dX11_decideOnce_66 ?_
      refine lv_iconst (v := 1) hx hb dX11_decideOnce_69 (by decide) ?_
      refine lv_icmp_ne (tgt := 78) hx hb dX11_decideOnce_70 (by decide) (fun z_16 => ?_) (fun z_16 => ?_)
      ·
        rw [if_neg z_16] at h
        refine lv_aload_n hx hb dX11_decideOnce_78 rfl (lv_at hl 1 rfl) ?_
        refine G_get (ci := 11) (j := 4) (C := RX11) (T := TX11) (N := 19) (v := .ref (ad 118)) hx hb hg inlX11 hown hK hY (hL 0 (by decide)) gk_0 (by decide) rfl (by decide) tX11_4 (hg _ gw_32) rfl dX11_decideOnce_79 ?_
        obtain ⟨r_17, e_18, h⟩ := g_bind h
        refine G_ai hY hA (va_runV (As := []) (rest := []) ⟨hx, hb, hml, hown, hg⟩ (kX0_isNarrowed l D y aS H.size L hL ad N r_14 _ e_18) (cwV 0 hg ggV_RX11_308_X0_isNarrowed rfl rfl rfl (by decide +kernel) ⟨Nat.le_of_ble_eq_true rfl, Nat.le_of_ble_eq_true rfl⟩) (G_pV (q := (RX0, TX0, 7)) hK hY (hL 118 (by decide)) gk_118 (by decide) rfl) rfl rfl hl.1 rfl (lv_room (Nat.le_of_ble_eq_true rfl)) dX11_decideOnce_82 ⟨Nat.le_of_ble_eq_true rfl, Nat.le_of_ble_eq_true rfl⟩) ?_
        clear hY
        rintro _ H locs rfl hY
        refine lv_if_eq (tgt := 156) hx hb dX11_decideOnce_85 (by decide) (fun z_19 => ?_) (fun z_19 => ?_)
        ·
          rw [if_pos z_19] at h
          exact wX11_decideOnce_156 hx hb hr hml hown hg hlocks hK hA hL hY (lv_sub hl [] rfl) h
        ·
          rw [if_neg z_19] at h
          refine lv_aload_n hx hb dX11_decideOnce_88 rfl (lv_at hl 1 rfl) ?_
          obtain ⟨r_20, e_21, h⟩ := g_bind h
          refine G_ai hY hA (va_runV (As := []) (rest := []) ⟨hx, hb, hml, hown, hg⟩ (kX11_verdictBehindGood l D y aS H.size L hL ad N r_14 _ e_21) (cwV 0 hg ggV_RX11_311_X11_verdictBehindGood rfl rfl rfl (by decide +kernel) ⟨Nat.le_of_ble_eq_true rfl, Nat.le_of_ble_eq_true rfl⟩) (G_pV (q := (RX11, TX11, 19)) hK hY (hL 0 (by decide)) gk_0 (by decide) rfl) rfl rfl hl.1 rfl (lv_room (Nat.le_of_ble_eq_true rfl)) dX11_decideOnce_89 ⟨Nat.le_of_ble_eq_true rfl, Nat.le_of_ble_eq_true rfl⟩) ?_
          clear hY
          rintro _ H locs rfl hY
          refine lv_iconst (v := 1) hx hb dX11_decideOnce_92 (by decide) ?_
          refine lv_icmp_ne (tgt := 156) hx hb dX11_decideOnce_93 (by decide) (fun z_22 => ?_) (fun z_22 => ?_)
          ·
            rw [if_neg z_22] at h
            exact wX11_decideOnce_156 hx hb hr hml hown hg hlocks hK hA hL hY (lv_sub hl [] rfl) h
          ·
            rw [if_pos z_22] at h
            refine lv_aload_n hx hb dX11_decideOnce_96 rfl (lv_at hl 1 rfl) ?_
            refine G_get (ci := 11) (j := 0) (C := RX11) (T := TX11) (N := 19) (v := .ref (ad 1)) hx hb hg inlX11 hown hK hY (hL 0 (by decide)) gk_0 (by decide) rfl (by decide) tX11_0 (hg _ gw_16) rfl dX11_decideOnce_97 ?_
            refine lv_aload_n hx hb dX11_decideOnce_100 rfl (lv_at hl 1 rfl) ?_
            refine G_get (ci := 11) (j := 3) (C := RX11) (T := TX11) (N := 19) (v := .ref (ad 109)) hx hb hg inlX11 hown hK hY (hL 0 (by decide)) gk_0 (by decide) rfl (by decide) tX11_3 (hg _ gw_28) rfl dX11_decideOnce_101 ?_
            refine G_get (ci := 4) (j := 5) (C := RX4) (T := TX4) (N := 9) (v := .ref (ad 112)) hx hb hg inlX4 hown hK hY (hL 109 (by decide)) gk_109 (by decide) rfl (by decide) tX4_5 (hg _ gw_577) rfl dX11_decideOnce_104 ?_
            refine lv_aload_n hx hb dX11_decideOnce_107 rfl (lv_at hl 1 rfl) ?_
            refine G_get (ci := 11) (j := 4) (C := RX11) (T := TX11) (N := 19) (v := .ref (ad 118)) hx hb hg inlX11 hown hK hY (hL 0 (by decide)) gk_0 (by decide) rfl (by decide) tX11_4 (hg _ gw_32) rfl dX11_decideOnce_108 ?_
            refine G_get (ci := 0) (j := 5) (C := RX0) (T := TX0) (N := 7) (v := .int (r_14.1 118 5)) hx hb hg inlX0 hown hK hY (hL 118 (by decide)) gk_118 (by decide) rfl (by decide) tX0_5 (hg _ gw_579) rfl dX11_decideOnce_111 ?_
            refine lv_iconst (v := 1) hx hb dX11_decideOnce_114 (by decide) ?_
            refine lv_isub hx hb dX11_decideOnce_115 ?_
            obtain ⟨r_23, e_24, h⟩ := g_bind h
            refine G_ai hY hA (va_runV (As := [.int ((r_14.1 118 5) - 1)]) (rest := [.ref (ad 1)]) ⟨hx, hb, hml, hown, hg⟩ (kX8_whole l D y aS H.size L hL ad N r_14 112 ((r_14.1 118 5) - 1) _ gk_112 e_24) (cwV 1 hg ggV_RX11_187_X8_whole rfl rfl rfl (by decide +kernel) ⟨Nat.le_of_ble_eq_true rfl, Nat.le_of_ble_eq_true rfl⟩) (G_pV (q := (RX8, TX8, 2)) hK hY (hL 112 (by decide)) gk_112 (by decide) rfl) rfl rfl hl.1 rfl (lv_room (Nat.le_of_ble_eq_true rfl)) dX11_decideOnce_116 ⟨Nat.le_of_ble_eq_true rfl, Nat.le_of_ble_eq_true rfl⟩) ?_
            clear hY
            rintro _ H locs rfl hY
            obtain ⟨r_25, e_26, h⟩ := g_bind h
            refine G_ar hY hA (va_runV (As := [.int r_23]) (rest := []) ⟨hx, hb, hml, hown, hg⟩ (kX2_at l D y aS H.size L hL ad N r_14 r_23 _ e_26) (cwV 1 hg ggV_RX11_113_X2_at rfl rfl rfl (by decide +kernel) ⟨Nat.le_of_ble_eq_true rfl, Nat.le_of_ble_eq_true rfl⟩) (G_pV (q := (RX2, TX2, 5)) hK hY (hL 1 (by decide)) gk_1 (by decide) rfl) rfl rfl hl.1 rfl (lv_room (Nat.le_of_ble_eq_true rfl)) dX11_decideOnce_119 ⟨Nat.le_of_ble_eq_true rfl, Nat.le_of_ble_eq_true rfl⟩) ?_
            clear hY
            rintro H locs k_27 hY
            refine lv_astore_n (lv' := [(2, .ref (ad r_25)), (1, .ref (ad r_6)), (0, .ref (ad 0))]) hx hb dX11_decideOnce_122 rfl hl (by decide) rfl ?_
            clear hl
            intro ls hl
            refine lv_aload_n hx hb dX11_decideOnce_123 rfl (lv_at hl 2 rfl) ?_
            refine G_get (ci := 11) (j := 13) (C := RX11) (T := TX11) (N := 19) (v := .ref (ad 159)) hx hb hg inlX11 hown hK hY (hL 0 (by decide)) gk_0 (by decide) rfl (by decide) tX11_13 (hg _ gw_54) rfl dX11_decideOnce_124 ?_
            refine lv_aload_n hx hb dX11_decideOnce_127 rfl (lv_at hl 0 rfl) ?_
            refine G_get (ci := 1) (j := 1) (C := RX1) (T := TX1) (N := 14) (v := .int (r_14.1 r_25 1)) hx hb hg inlX1 hown hK hY (hL _ (gcl_lt k_27 (by decide))) k_27 (by decide) rfl (by decide) tX1_1 (hg _ gw_578) rfl dX11_decideOnce_128 ?_
            refine lv_aload_n hx hb dX11_decideOnce_131 rfl (lv_at hl 2 rfl) ?_
            refine G_get (ci := 11) (j := 13) (C := RX11) (T := TX11) (N := 19) (v := .ref (ad 159)) hx hb hg inlX11 hown hK hY (hL 0 (by decide)) gk_0 (by decide) rfl (by decide) tX11_13 (hg _ gw_54) rfl dX11_decideOnce_132 ?_
            refine lv_aload_n hx hb dX11_decideOnce_135 rfl (lv_at hl 0 rfl) ?_
            refine G_get (ci := 1) (j := 1) (C := RX1) (T := TX1) (N := 14) (v := .int (r_14.1 r_25 1)) hx hb hg inlX1 hown hK hY (hL _ (gcl_lt k_27 (by decide))) k_27 (by decide) rfl (by decide) tX1_1 (hg _ gw_578) rfl dX11_decideOnce_136 ?_
            obtain ⟨r_28, e_29, h⟩ := g_bind h
            refine G_al hY hA (va_runV (As := [.int (r_14.1 r_25 1)]) (rest := [.int (r_14.1 r_25 1), .ref (ad 159)]) ⟨hx, hb, hml, hown, hg⟩ (kX8_get l D y aS H.size L hL ad N r_14 159 (r_14.1 r_25 1) _ gk_159 e_29) (cwV 1 hg ggV_RX11_218_X8_get rfl rfl rfl (by decide +kernel) ⟨Nat.le_of_ble_eq_true rfl, Nat.le_of_ble_eq_true rfl⟩) (G_pV (q := (RX8, TX8, 2)) hK hY (hL 159 (by decide)) gk_159 (by decide) rfl) rfl rfl hl.1 rfl (lv_room (Nat.le_of_ble_eq_true rfl)) dX11_decideOnce_139 ⟨Nat.le_of_ble_eq_true rfl, Nat.le_of_ble_eq_true rfl⟩) ?_
            clear hY
            rintro _ H locs rfl hY
            refine lv_lconst (v := 1) hx hb dX11_decideOnce_142 (by decide) ?_
            refine lv_ladd hx hb dX11_decideOnce_143 ?_
            obtain ⟨r_30, e_31, h⟩ := g_bind h
            refine G_av hY hA (va_runV (As := [.int (r_14.1 r_25 1), .long (r_28 + 1)]) (rest := []) ⟨hx, hb, hml, hown, hg⟩ (kX8_set l D y aS H.size L hL ad N r_14 159 (r_14.1 r_25 1) (r_28 + 1) _ gk_159 e_31) (cwV 2 hg ggV_RX11_190_X8_set rfl rfl rfl (by decide +kernel) ⟨Nat.le_of_ble_eq_true rfl, Nat.le_of_ble_eq_true rfl⟩) (G_pV (q := (RX8, TX8, 2)) hK hY (hL 159 (by decide)) gk_159 (by decide) rfl) rfl rfl hl.1 rfl (lv_room (Nat.le_of_ble_eq_true rfl)) dX11_decideOnce_144 ⟨Nat.le_of_ble_eq_true rfl, Nat.le_of_ble_eq_true rfl⟩) ?_
            clear hY
            rintro H locs hY
            refine lv_aload_n hx hb dX11_decideOnce_147 rfl (lv_at hl 2 rfl) ?_
            refine lv_aload_n hx hb dX11_decideOnce_148 rfl (lv_at hl 0 rfl) ?_
            refine lv_iconst (v := 3) hx hb dX11_decideOnce_149 (by decide) ?_
            obtain ⟨r_32, e_33, h⟩ := g_bind h
            refine G_ai hY hA (va_runV (As := [.ref (ad r_25), .int 3]) (rest := []) ⟨hx, hb, hml, hown, hg⟩ (kX11_takeOutOfQueue l D y aS H.size L hL ad N r_30 r_25 (3 : Int32) _ k_27 e_33) (cwV 2 hg ggV_RX11_213_X11_takeOutOfQueue rfl rfl rfl (by decide +kernel) ⟨Nat.le_of_ble_eq_true rfl, Nat.le_of_ble_eq_true rfl⟩) (G_pV (q := (RX11, TX11, 19)) hK hY (hL 0 (by decide)) gk_0 (by decide) rfl) rfl rfl hl.1 rfl (lv_room (Nat.le_of_ble_eq_true rfl)) dX11_decideOnce_150 ⟨Nat.le_of_ble_eq_true rfl, Nat.le_of_ble_eq_true rfl⟩) ?_
            clear hY
            rintro _ H locs rfl hY
            refine lv_pop hx hb dX11_decideOnce_153 rfl ?_
            refine lv_iconst (v := 1) hx hb dX11_decideOnce_154 (by decide) ?_
            cases h
            exact g_iret hx hb hr hlocks () hY.1 hY.2.1 hY.2.2 rfl rfl (Nat.le_of_ble_eq_true rfl) (Nat.le_of_ble_eq_true rfl) dX11_decideOnce_155
      ·
        rw [if_pos z_16] at h
        refine lv_aload_n hx hb dX11_decideOnce_73 rfl (lv_at hl 1 rfl) ?_
        obtain ⟨r_34, e_35, h⟩ := g_bind h
        refine G_ai hY hA (va_runV (As := []) (rest := []) ⟨hx, hb, hml, hown, hg⟩ (kX11_landFirstBatch l D y aS H.size L hL ad N r_14 _ e_35) (cwV 0 hg ggV_RX11_419_X11_landFirstBatch rfl rfl rfl (by decide +kernel) ⟨Nat.le_of_ble_eq_true rfl, Nat.le_of_ble_eq_true rfl⟩) (G_pV (q := (RX11, TX11, 19)) hK hY (hL 0 (by decide)) gk_0 (by decide) rfl) rfl rfl hl.1 rfl (lv_room (Nat.le_of_ble_eq_true rfl)) dX11_decideOnce_74 ⟨Nat.le_of_ble_eq_true rfl, Nat.le_of_ble_eq_true rfl⟩) ?_
        clear hY
        rintro _ H locs rfl hY
        obtain ⟨z_36, h⟩ := g_guard h
        cases h
        exact g_iret hx hb hr hlocks () hY.1 hY.2.1 hY.2.2 (g_nz (Classical.not_not.mp z_36)) rfl (Nat.le_of_ble_eq_true rfl) (Nat.le_of_ble_eq_true rfl) dX11_decideOnce_77
    ·
      rw [if_pos z_13] at h
      refine lv_aload_n hx hb dX11_decideOnce_49 rfl (lv_at hl 1 rfl) ?_
      refine lv_aload_n hx hb dX11_decideOnce_50 rfl (lv_at hl 0 rfl) ?_
      refine lv_iconst (v := 4) hx hb dX11_decideOnce_51 (by decide) ?_
      obtain ⟨r_37, e_38, h⟩ := g_bind h
      refine G_ai hY hA (va_runV (As := [.ref (ad r_6), .int 4]) (rest := []) ⟨hx, hb, hml, hown, hg⟩ (kX11_takeOutOfQueue l D y aS H.size L hL ad N r_1 r_6 (4 : Int32) _ k_8 e_38) (cwV 2 hg ggV_RX11_213_X11_takeOutOfQueue rfl rfl rfl (by decide +kernel) ⟨Nat.le_of_ble_eq_true rfl, Nat.le_of_ble_eq_true rfl⟩) (G_pV (q := (RX11, TX11, 19)) hK hY (hL 0 (by decide)) gk_0 (by decide) rfl) rfl rfl hl.1 rfl (lv_room (Nat.le_of_ble_eq_true rfl)) dX11_decideOnce_52 ⟨Nat.le_of_ble_eq_true rfl, Nat.le_of_ble_eq_true rfl⟩) ?_
      clear hY
      rintro _ H locs rfl hY
      refine lv_pop hx hb dX11_decideOnce_55 rfl ?_
      refine lv_iconst (v := 1) hx hb dX11_decideOnce_56 (by decide) ?_
      cases h
      exact g_iret hx hb hr hlocks () hY.1 hY.2.1 hY.2.2 rfl rfl (Nat.le_of_ble_eq_true rfl) (Nat.le_of_ble_eq_true rfl) dX11_decideOnce_57
  ·
    rw [if_pos z_3] at h
    refine lv_iconst (v := 0) hx hb dX11_decideOnce_17 (by decide) ?_
    cases h
    exact g_iret hx hb hr hlocks () hY.1 hY.2.1 hY.2.2 rfl rfl (Nat.le_of_ble_eq_true rfl) (Nat.le_of_ble_eq_true rfl) dX11_decideOnce_18
section
variable {p : Program} {l : Launch} {e : Env} {s : State} {m : MethodId} {args : Array Value} {below : List Frame} {meth : Method} {c : Code} {D : va_G} {y : Nat → ClassId} {aS : Nat → Nat} {A : Nat → Prop} {L : List Nat} {ad : Nat → Nat} {N : Nat} {res : gS}
def fX11_endFullRun_56 (N : Nat) (rec12 : (gS × Int32 × Int32) → Option gS) (σ : gS) (x1 : Int32) (x2 : Int32) : Option gS := rec12 (σ, x1, (x2 + 1))
set_option maxRecDepth 100000 in
set_option maxHeartbeats 4000000 in
theorem wX11_endFullRun_56 {rec12 : (gS × Int32 × Int32) → Option gS} {σ : gS} {x1 : Int32} {x2 : Int32} (hx : p.tables.exec = Jvm.exec) (hb : c.code = cX11_endFullRun) (hr : meth.sig.returnType = none) (hml : c.maxLocals = 4) (hown : s.vm.findClass RX11 = some m.cls) (hg : ∀ w ∈ wsL_law, w.before args s = true) (hlocks : meth.locks = false) (hK : gK D y aS s) (hA : ∀ q, s.heap.size ≤ q → A q) (hL : ∀ k, k < 179 → k ∈ L) (hrec12 : ∀ {σ9 : gS} {x1n9 : Int32} {x2n9 : Int32} (H : Heap) (locs : List Loc) (ls : Array Slot), gY D y A s L ad σ9 H locs → lv_has ls 4 [(0, .ref (ad 0)), (1, .int x1n9), (2, .int x2n9)] → rec12 (σ9, x1n9, x2n9) = some res → W p l e ({ frames := 2, cells := 0, slots := 0, locals := 48 } : Room) s m args below meth c H locs 0 0 (MQ below (va_Qv (fun (_ : Unit) => True) (fun _ => gO D A (GW L y ad res)) A) args s 0 0 A) (F0 m 12 ls [])) {H : Heap} {locs : List Loc} {ls : Array Slot} (hY : gY D y A s L ad σ H locs) (hl : lv_has ls 4 [(0, .ref (ad 0)), (1, .int x1), (2, .int x2)]) (h : fX11_endFullRun_56 N rec12 σ x1 x2 = some res) : W p l e ({ frames := 2, cells := 0, slots := 0, locals := 48 } : Room) s m args below meth c H locs 0 0 (MQ below (va_Qv (fun (_ : Unit) => True) (fun _ => gO D A (GW L y ad res)) A) args s 0 0 A) (F0 m 56 ls []) := by
  unfold fX11_endFullRun_56 at h
  refine lv_iinc (v := (x2 + 1)) (lv' := [(2, .int (x2 + 1)), (0, .ref (ad 0)), (1, .int x1)]) hx hb dX11_endFullRun_56 hl (k := 2) rfl rfl (by decide) rfl ?_
  clear hl
  intro ls hl
  refine lv_goto (tgt := 12) hx hb dX11_endFullRun_59 (by decide) ?_
  exact hrec12 _ _ _ hY (lv_sub hl [1, 2, 0] rfl) h
def fX11_endFullRun_12 (N : Nat) (rec12 : (gS × Int32 × Int32) → Option gS) (xx : gS × Int32 × Int32) : Option gS := match xx with
  | (σ, x1, x2) => if (σ.1 65 5) ≤ x2 then (some (sI (sI σ 0 16 x1) 0 17 0)) else ((fX7_at N σ x2).bind fun r_2 => (fX11_trunkTree N σ).bind fun r_5 => (fX9_verdictOf N σ r_2 r_5).bind fun r_7 => if r_7 = 0 then (some σ) else (if r_7 = 2 then (fX11_endFullRun_56 N rec12 σ (x1 + 1) x2) else (fX11_endFullRun_56 N rec12 σ x1 x2)))
set_option maxRecDepth 100000 in
set_option maxHeartbeats 4000000 in
theorem wX11_endFullRun_12 (hx : p.tables.exec = Jvm.exec) (hb : c.code = cX11_endFullRun) (hr : meth.sig.returnType = none) (hml : c.maxLocals = 4) (hown : s.vm.findClass RX11 = some m.cls) (hg : ∀ w ∈ wsL_law, w.before args s = true) (hlocks : meth.locks = false) (hK : gK D y aS s) (hA : ∀ q, s.heap.size ≤ q → A q) (hL : ∀ k, k < 179 → k ∈ L) : ∀ (n : Nat) {σ : gS} {x1 : Int32} {x2 : Int32} (H : Heap) (locs : List Loc) (ls : Array Slot), gY D y A s L ad σ H locs → lv_has ls 4 [(0, .ref (ad 0)), (1, .int x1), (2, .int x2)] → lp (fX11_endFullRun_12 N) n (σ, x1, x2) = some res → W p l e ({ frames := 2, cells := 0, slots := 0, locals := 48 } : Room) s m args below meth c H locs 0 0 (MQ below (va_Qv (fun (_ : Unit) => True) (fun _ => gO D A (GW L y ad res)) A) args s 0 0 A) (F0 m 12 ls []) := by
  intro n
  induction n with
  | zero => intro σ x1 x2 H locs ls hY hl h; exact nomatch (show none = some res from h)
  | succ n hrec12 =>
    intro σ x1 x2 H locs ls hY hl h
    replace h : fX11_endFullRun_12 N (lp (fX11_endFullRun_12 N) n) (σ, x1, x2) = some res := h
    generalize lp (fX11_endFullRun_12 N) n = rec12 at h hrec12
    unfold fX11_endFullRun_12 at h
    try dsimp only at h
    refine lv_iload_n hx hb dX11_endFullRun_12 rfl (lv_at hl 2 rfl) ?_
    refine lv_aload_n hx hb dX11_endFullRun_13 rfl (lv_at hl 0 rfl) ?_
    refine G_get (ci := 11) (j := 1) (C := RX11) (T := TX11) (N := 19) (v := .ref (ad 65)) hx hb hg inlX11 hown hK hY (hL 0 (by decide)) gk_0 (by decide) rfl (by decide) tX11_1 (hg _ gw_20) rfl dX11_endFullRun_14 ?_
    refine G_get (ci := 7) (j := 5) (C := RX7) (T := TX7) (N := 6) (v := .int (σ.1 65 5)) hx hb hg inlX7 hown hK hY (hL 65 (by decide)) gk_65 (by decide) rfl (by decide) tX7_5 (hg _ gw_490) rfl dX11_endFullRun_17 ?_
    refine lv_icmp_ge (tgt := 62) hx hb dX11_endFullRun_20 (by decide) (fun z_1 => ?_) (fun z_1 => ?_)
    ·
      rw [if_pos z_1] at h
      refine lv_aload_n hx hb dX11_endFullRun_62 rfl (lv_at hl 0 rfl) ?_
      refine lv_iload_n hx hb dX11_endFullRun_63 rfl (lv_at hl 1 rfl) ?_
      refine G_putI (ci := 11) (j := 16) (C := RX11) (T := TX11) (N := 19) (v := x1) (ty := .int) hx hb hg inlX11 tyX11 tyX11_ok nmX11 hown hK hY (hL 0 (by decide)) gk_0 (by decide) rfl (by decide) tX11_16 (hg _ gw_55) (by decide +kernel) rfl rfl (fun _ _ => rfl) (fun _ _ => Nat.le_of_ble_eq_true rfl) dX11_endFullRun_64 ?_
      clear hY
      intro H locs hY
      refine lv_aload_n hx hb dX11_endFullRun_67 rfl (lv_at hl 0 rfl) ?_
      refine lv_iconst (v := 0) hx hb dX11_endFullRun_68 (by decide) ?_
      refine G_putI (ci := 11) (j := 17) (C := RX11) (T := TX11) (N := 19) (v := 0) (ty := .boolean) hx hb hg inlX11 tyX11 tyX11_ok nmX11 hown hK hY (hL 0 (by decide)) gk_0 (by decide) rfl (by decide) tX11_17 (hg _ gw_706) (by decide +kernel) rfl rfl (fun _ _ => rfl) (fun _ _ => Nat.le_of_ble_eq_true rfl) dX11_endFullRun_69 ?_
      clear hY
      intro H locs hY
      cases h
      exact g_vret hx hb hr hlocks () hY.1 hY.2.1 hY.2.2 trivial (Nat.le_of_ble_eq_true rfl) (Nat.le_of_ble_eq_true rfl) dX11_endFullRun_72
    ·
      rw [if_neg z_1] at h
      refine lv_aload_n hx hb dX11_endFullRun_23 rfl (lv_at hl 0 rfl) ?_
      refine G_get (ci := 11) (j := 2) (C := RX11) (T := TX11) (N := 19) (v := .ref (ad 106)) hx hb hg inlX11 hown hK hY (hL 0 (by decide)) gk_0 (by decide) rfl (by decide) tX11_2 (hg _ gw_24) rfl dX11_endFullRun_24 ?_
      refine lv_aload_n hx hb dX11_endFullRun_27 rfl (lv_at hl 0 rfl) ?_
      refine G_get (ci := 11) (j := 1) (C := RX11) (T := TX11) (N := 19) (v := .ref (ad 65)) hx hb hg inlX11 hown hK hY (hL 0 (by decide)) gk_0 (by decide) rfl (by decide) tX11_1 (hg _ gw_20) rfl dX11_endFullRun_28 ?_
      refine lv_iload_n hx hb dX11_endFullRun_31 rfl (lv_at hl 2 rfl) ?_
      obtain ⟨r_2, e_3, h⟩ := g_bind h
      refine G_ar hY hA (va_runV (As := [.int x2]) (rest := [.ref (ad 106)]) ⟨hx, hb, hml, hown, hg⟩ (kX7_at l D y aS H.size L hL ad N σ x2 _ e_3) (cwV 1 hg ggV_RX11_237_X7_at rfl rfl rfl (by decide +kernel) ⟨Nat.le_of_ble_eq_true rfl, Nat.le_of_ble_eq_true rfl⟩) (G_pV (q := (RX7, TX7, 6)) hK hY (hL 65 (by decide)) gk_65 (by decide) rfl) rfl rfl hl.1 rfl (lv_room (Nat.le_of_ble_eq_true rfl)) dX11_endFullRun_32 ⟨Nat.le_of_ble_eq_true rfl, Nat.le_of_ble_eq_true rfl⟩) ?_
      clear hY
      rintro H locs k_4 hY
      refine lv_aload_n hx hb dX11_endFullRun_35 rfl (lv_at hl 0 rfl) ?_
      obtain ⟨r_5, e_6, h⟩ := g_bind h
      refine G_al hY hA (va_runV (As := []) (rest := [.ref (ad r_2), .ref (ad 106)]) ⟨hx, hb, hml, hown, hg⟩ (kX11_trunkTree l D y aS H.size L hL ad N σ _ e_6) (cwV 0 hg ggV_RX11_156_X11_trunkTree rfl rfl rfl (by decide +kernel) ⟨Nat.le_of_ble_eq_true rfl, Nat.le_of_ble_eq_true rfl⟩) (G_pV (q := (RX11, TX11, 19)) hK hY (hL 0 (by decide)) gk_0 (by decide) rfl) rfl rfl hl.1 rfl (lv_room (Nat.le_of_ble_eq_true rfl)) dX11_endFullRun_36 ⟨Nat.le_of_ble_eq_true rfl, Nat.le_of_ble_eq_true rfl⟩) ?_
      clear hY
      rintro _ H locs rfl hY
      obtain ⟨r_7, e_8, h⟩ := g_bind h
      refine G_ai hY hA (va_runV (As := [.ref (ad r_2), .long r_5]) (rest := []) ⟨hx, hb, hml, hown, hg⟩ (kX9_verdictOf l D y aS H.size L hL ad N σ r_2 r_5 _ k_4 e_8) (cwV 2 hg ggV_RX11_338_X9_verdictOf rfl rfl rfl (by decide +kernel) ⟨Nat.le_of_ble_eq_true rfl, Nat.le_of_ble_eq_true rfl⟩) (G_pV (q := (RX9, TX9, 3)) hK hY (hL 106 (by decide)) gk_106 (by decide) rfl) rfl rfl hl.1 rfl (lv_room (Nat.le_of_ble_eq_true rfl)) dX11_endFullRun_39 ⟨Nat.le_of_ble_eq_true rfl, Nat.le_of_ble_eq_true rfl⟩) ?_
      clear hY
      rintro _ H locs rfl hY
      refine lv_istore_n (lv' := [(3, .int r_7), (0, .ref (ad 0)), (1, .int x1), (2, .int x2)]) hx hb dX11_endFullRun_42 rfl hl (by decide) rfl ?_
      clear hl
      intro ls hl
      refine lv_iload_n hx hb dX11_endFullRun_43 rfl (lv_at hl 0 rfl) ?_
      refine lv_if_ne (tgt := 48) hx hb dX11_endFullRun_44 (by decide) (fun z_9 => ?_) (fun z_9 => ?_)
      ·
        rw [if_neg z_9] at h
        refine lv_iload_n hx hb dX11_endFullRun_48 rfl (lv_at hl 0 rfl) ?_
        refine lv_iconst (v := 2) hx hb dX11_endFullRun_49 (by decide) ?_
        refine lv_icmp_ne (tgt := 56) hx hb dX11_endFullRun_50 (by decide) (fun z_10 => ?_) (fun z_10 => ?_)
        ·
          rw [if_neg z_10] at h
          exact wX11_endFullRun_56 hx hb hr hml hown hg hlocks hK hA hL hrec12 hY (lv_sub hl [1, 2, 3] rfl) h
        ·
          rw [if_pos z_10] at h
          refine lv_iinc (v := (x1 + 1)) (lv' := [(1, .int (x1 + 1)), (3, .int r_7), (0, .ref (ad 0)), (2, .int x2)]) hx hb dX11_endFullRun_53 hl (k := 2) rfl rfl (by decide) rfl ?_
          clear hl
          intro ls hl
          exact wX11_endFullRun_56 hx hb hr hml hown hg hlocks hK hA hL hrec12 hY (lv_sub hl [2, 0, 3] rfl) h
      ·
        rw [if_pos z_9] at h
        cases h
        exact g_vret hx hb hr hlocks () hY.1 hY.2.1 hY.2.2 trivial (Nat.le_of_ble_eq_true rfl) (Nat.le_of_ble_eq_true rfl) dX11_endFullRun_47
end
def fX11_endFullRun (N : Nat) (σ : gS) : Option gS := if (σ.1 0 17) = 0 then (some σ) else (lp (fX11_endFullRun_12 N) N (σ, 0, 0))
set_option maxRecDepth 100000 in
set_option maxHeartbeats 4000000 in
theorem kX11_endFullRun (l : Launch) (D : va_G) (y : Nat → ClassId) (aS : Nat → Nat) (sz : Nat) (L : List Nat) (hL : ∀ k, k < 179 → k ∈ L) (ad : Nat → Nat) (N : Nat) (σ : gS) (res : gS) (h : fX11_endFullRun N σ = some res) : Met l yX11_endFullRun (Cond.code yX11_endFullRun cX11_endFullRun 4 none :: wsL_law) ({ frames := 2, cells := 0, slots := 0, locals := 48 } : Room) (va_Pc [.ref (ad 0)] (gI D y aS (GW L y ad σ) sz)) (va_Qv (fun (_ : Unit) => True) (fun _ => gO D (va_A (GW L y ad σ) sz) (GW L y ad res)) (va_A (GW L y ad σ) sz)) 0 0 (va_A (GW L y ad σ) sz) := by
  refine g_of (by decide) (Nat.le_of_ble_eq_true rfl) ?_
  intro p e s m below meth c ls A hx hb hr hml hown hg hlocks hin hsz hK hP hD hS hA hAe hl
  rw [← hAe]
  replace hown : s.vm.findClass RX11 = some m.cls := hown
  have hY : gY D y A s L ad σ s.heap [] := ⟨hP, hD, hS⟩
  clear hP hD hS
  replace hl : lv_has ls 4 [(0, .ref (ad 0))] := hl
  unfold fX11_endFullRun at h
  refine lv_aload_n hx hb dX11_endFullRun_0 rfl (lv_at hl 0 rfl) ?_
  refine G_get (ci := 11) (j := 17) (C := RX11) (T := TX11) (N := 19) (v := .int (σ.1 0 17)) hx hb hg inlX11 hown hK hY (hL 0 (by decide)) gk_0 (by decide) rfl (by decide) tX11_17 (hg _ gw_706) rfl dX11_endFullRun_1 ?_
  refine lv_if_ne (tgt := 8) hx hb dX11_endFullRun_4 (by decide) (fun z_1 => ?_) (fun z_1 => ?_)
  ·
    rw [if_neg z_1] at h
    refine lv_iconst (v := 0) hx hb dX11_endFullRun_8 (by decide) ?_
    refine lv_istore_n (lv' := [(1, .int 0), (0, .ref (ad 0))]) hx hb dX11_endFullRun_9 rfl hl (by decide) rfl ?_
    clear hl
    intro ls hl
    refine lv_iconst (v := 0) hx hb dX11_endFullRun_10 (by decide) ?_
    refine lv_istore_n (lv' := [(2, .int 0), (1, .int 0), (0, .ref (ad 0))]) hx hb dX11_endFullRun_11 rfl hl (by decide) rfl ?_
    clear hl
    intro ls hl
    exact wX11_endFullRun_12 hx hb hr hml hown hg hlocks hK hA hL N _ _ _ hY (lv_sub hl [2, 1, 0] rfl) h
  ·
    rw [if_pos z_1] at h
    cases h
    exact g_vret hx hb hr hlocks () hY.1 hY.2.1 hY.2.2 trivial (Nat.le_of_ble_eq_true rfl) (Nat.le_of_ble_eq_true rfl) dX11_endFullRun_7
section
variable {p : Program} {l : Launch} {e : Env} {s : State} {m : MethodId} {args : Array Value} {below : List Frame} {meth : Method} {c : Code} {D : va_G} {y : Nat → ClassId} {aS : Nat → Nat} {A : Nat → Prop} {L : List Nat} {ad : Nat → Nat} {N : Nat} {res : Int32}
def fX11_isOn_54 (N : Nat) (rec3 : Int32 → Option Int32) (σ : gS) (r1 : Nat) (x2 : Int64) (x4 : Int32) : Option Int32 := rec3 (x4 + 1)
set_option maxRecDepth 100000 in
set_option maxHeartbeats 4000000 in
theorem wX11_isOn_54 {rec3 : Int32 → Option Int32} {σ : gS} {r1 : Nat} {x2 : Int64} {x4 : Int32} (hx : p.tables.exec = Jvm.exec) (hb : c.code = cX11_isOn) (hr : meth.sig.returnType = (some .boolean)) (hml : c.maxLocals = 6) (hown : s.vm.findClass RX11 = some m.cls) (hg : ∀ w ∈ wsL_law, w.before args s = true) (hlocks : meth.locks = false) (hK : gK D y aS s) (hA : ∀ q, s.heap.size ≤ q → A q) (hL : ∀ k, k < 179 → k ∈ L) (hrec3 : ∀ {x4n9 : Int32} (H : Heap) (locs : List Loc) (ls : Array Slot), gY D y A s L ad σ H locs → lv_has ls 6 [(0, .ref (ad 0)), (1, .ref (ad r1)), (2, .long x2), (4, .int x4n9)] → rec3 x4n9 = some res → W p l e ({ frames := 1, cells := 0, slots := 0, locals := 22 } : Room) s m args below meth c H locs 0 0 (MQ below (va_Qi (fun (r : Int32) (_ : Unit) => r = res) (fun _ => gO D A (GW L y ad σ)) A) args s 0 0 A) (F0 m 3 ls [])) (hr1 : gcl r1 = 3) {H : Heap} {locs : List Loc} {ls : Array Slot} (hY : gY D y A s L ad σ H locs) (hl : lv_has ls 6 [(0, .ref (ad 0)), (1, .ref (ad r1)), (2, .long x2), (4, .int x4)]) (h : fX11_isOn_54 N rec3 σ r1 x2 x4 = some res) : W p l e ({ frames := 1, cells := 0, slots := 0, locals := 22 } : Room) s m args below meth c H locs 0 0 (MQ below (va_Qi (fun (r : Int32) (_ : Unit) => r = res) (fun _ => gO D A (GW L y ad σ)) A) args s 0 0 A) (F0 m 54 ls []) := by
  unfold fX11_isOn_54 at h
  refine lv_iinc (v := (x4 + 1)) (lv' := [(4, .int (x4 + 1)), (0, .ref (ad 0)), (1, .ref (ad r1)), (2, .long x2)]) hx hb dX11_isOn_54 hl (k := 3) rfl rfl (by decide) rfl ?_
  clear hl
  intro ls hl
  refine lv_goto (tgt := 3) hx hb dX11_isOn_57 (by decide) ?_
  exact hrec3 _ _ _ hY (lv_sub hl [1, 2, 3, 0] rfl) h
def fX11_isOn_3 (N : Nat) (σ : gS) (r1 : Nat) (x2 : Int64) (rec3 : Int32 → Option Int32) (x4 : Int32) : Option Int32 := if 6 ≤ x4 then (some 0) else ((fX11_machineAt N σ x4).bind fun r_2 => if (σ.1 r_2 2) = (σ.1 r1 0) then (if (lg_cmp (σ.2.1 r_2 3) x2) = 0 then (if (σ.1 r_2 4) = (σ.1 r1 7) then (some 1) else (fX11_isOn_54 N rec3 σ r1 x2 x4)) else (fX11_isOn_54 N rec3 σ r1 x2 x4)) else (fX11_isOn_54 N rec3 σ r1 x2 x4))
set_option maxRecDepth 100000 in
set_option maxHeartbeats 4000000 in
theorem wX11_isOn_3 {σ : gS} {r1 : Nat} {x2 : Int64} (hx : p.tables.exec = Jvm.exec) (hb : c.code = cX11_isOn) (hr : meth.sig.returnType = (some .boolean)) (hml : c.maxLocals = 6) (hown : s.vm.findClass RX11 = some m.cls) (hg : ∀ w ∈ wsL_law, w.before args s = true) (hlocks : meth.locks = false) (hK : gK D y aS s) (hA : ∀ q, s.heap.size ≤ q → A q) (hL : ∀ k, k < 179 → k ∈ L) (hr1 : gcl r1 = 3) : ∀ (n : Nat) {x4 : Int32} (H : Heap) (locs : List Loc) (ls : Array Slot), gY D y A s L ad σ H locs → lv_has ls 6 [(0, .ref (ad 0)), (1, .ref (ad r1)), (2, .long x2), (4, .int x4)] → lp (fX11_isOn_3 N σ r1 x2) n x4 = some res → W p l e ({ frames := 1, cells := 0, slots := 0, locals := 22 } : Room) s m args below meth c H locs 0 0 (MQ below (va_Qi (fun (r : Int32) (_ : Unit) => r = res) (fun _ => gO D A (GW L y ad σ)) A) args s 0 0 A) (F0 m 3 ls []) := by
  intro n
  induction n with
  | zero => intro x4 H locs ls hY hl h; exact nomatch (show none = some res from h)
  | succ n hrec3 =>
    intro x4 H locs ls hY hl h
    replace h : fX11_isOn_3 N σ r1 x2 (lp (fX11_isOn_3 N σ r1 x2) n) x4 = some res := h
    generalize lp (fX11_isOn_3 N σ r1 x2) n = rec3 at h hrec3
    unfold fX11_isOn_3 at h
    try dsimp only at h
    refine lv_iload hx hb dX11_isOn_3 (lv_at hl 3 rfl) ?_
    refine lv_bipush (v := 6) hx hb dX11_isOn_5 (by decide +kernel) ?_
    refine lv_icmp_ge (tgt := 60) hx hb dX11_isOn_7 (by decide) (fun z_1 => ?_) (fun z_1 => ?_)
    ·
      rw [if_pos z_1] at h
      refine lv_iconst (v := 0) hx hb dX11_isOn_60 (by decide) ?_
      cases h
      exact g_iret hx hb hr hlocks () hY.1 hY.2.1 hY.2.2 rfl rfl (Nat.le_of_ble_eq_true rfl) (Nat.le_of_ble_eq_true rfl) dX11_isOn_61
    ·
      rw [if_neg z_1] at h
      refine lv_aload_n hx hb dX11_isOn_10 rfl (lv_at hl 0 rfl) ?_
      refine lv_iload hx hb dX11_isOn_11 (lv_at hl 3 rfl) ?_
      obtain ⟨r_2, e_3, h⟩ := g_bind h
      refine G_ar hY hA (va_runV (As := [.int x4]) (rest := []) ⟨hx, hb, hml, hown, hg⟩ (kX11_machineAt l D y aS H.size L hL ad N σ x4 _ e_3) (cwV 1 hg ggV_RX11_273_X11_machineAt rfl rfl rfl (by decide +kernel) ⟨Nat.le_of_ble_eq_true rfl, Nat.le_of_ble_eq_true rfl⟩) (G_pV (q := (RX11, TX11, 19)) hK hY (hL 0 (by decide)) gk_0 (by decide) rfl) rfl rfl hl.1 rfl (lv_room (Nat.le_of_ble_eq_true rfl)) dX11_isOn_13 ⟨Nat.le_of_ble_eq_true rfl, Nat.le_of_ble_eq_true rfl⟩) ?_
      clear hY
      rintro H locs k_4 hY
      refine lv_astore (lv' := [(5, .ref (ad r_2)), (0, .ref (ad 0)), (1, .ref (ad r1)), (2, .long x2), (4, .int x4)]) hx hb dX11_isOn_16 hl (by decide) rfl ?_
      clear hl
      intro ls hl
      refine lv_aload hx hb dX11_isOn_18 (lv_at hl 0 rfl) ?_
      refine G_get (ci := 6) (j := 2) (C := RX6) (T := TX6) (N := 6) (v := .int (σ.1 r_2 2)) hx hb hg inlX6 hown hK hY (hL _ (gcl_lt k_4 (by decide))) k_4 (by decide) rfl (by decide) tX6_2 (hg _ gw_546) rfl dX11_isOn_20 ?_
      refine lv_aload_n hx hb dX11_isOn_23 rfl (lv_at hl 2 rfl) ?_
      refine G_get (ci := 3) (j := 0) (C := RX3) (T := TX3) (N := 10) (v := .int (σ.1 r1 0)) hx hb hg inlX3 hown hK hY (hL _ (gcl_lt hr1 (by decide))) hr1 (by decide) rfl (by decide) tX3_0 (hg _ gw_843) rfl dX11_isOn_24 ?_
      refine lv_icmp_ne (tgt := 54) hx hb dX11_isOn_27 (by decide) (fun z_5 => ?_) (fun z_5 => ?_)
      ·
        rw [if_neg z_5] at h
        exact wX11_isOn_54 hx hb hr hml hown hg hlocks hK hA hL hrec3 hr1 hY (lv_sub hl [1, 2, 3, 4] rfl) h
      ·
        rw [if_pos z_5] at h
        refine lv_aload hx hb dX11_isOn_30 (lv_at hl 0 rfl) ?_
        refine G_get (ci := 6) (j := 3) (C := RX6) (T := TX6) (N := 6) (v := .long (σ.2.1 r_2 3)) hx hb hg inlX6 hown hK hY (hL _ (gcl_lt k_4 (by decide))) k_4 (by decide) rfl (by decide) tX6_3 (hg _ gw_758) rfl dX11_isOn_32 ?_
        refine lv_lload_n hx hb dX11_isOn_35 rfl (lv_at hl 3 rfl) ?_
        refine W.lcmp hx hb dX11_isOn_36 ?_
        refine lv_if_ne (tgt := 54) hx hb dX11_isOn_37 (by decide) (fun z_6 => ?_) (fun z_6 => ?_)
        ·
          rw [if_neg z_6] at h
          exact wX11_isOn_54 hx hb hr hml hown hg hlocks hK hA hL hrec3 hr1 hY (lv_sub hl [1, 2, 3, 4] rfl) h
        ·
          rw [if_pos z_6] at h
          refine lv_aload hx hb dX11_isOn_40 (lv_at hl 0 rfl) ?_
          refine G_get (ci := 6) (j := 4) (C := RX6) (T := TX6) (N := 6) (v := .int (σ.1 r_2 4)) hx hb hg inlX6 hown hK hY (hL _ (gcl_lt k_4 (by decide))) k_4 (by decide) rfl (by decide) tX6_4 (hg _ gw_756) rfl dX11_isOn_42 ?_
          refine lv_aload_n hx hb dX11_isOn_45 rfl (lv_at hl 2 rfl) ?_
          refine G_get (ci := 3) (j := 7) (C := RX3) (T := TX3) (N := 10) (v := .int (σ.1 r1 7)) hx hb hg inlX3 hown hK hY (hL _ (gcl_lt hr1 (by decide))) hr1 (by decide) rfl (by decide) tX3_7 (hg _ gw_757) rfl dX11_isOn_46 ?_
          refine lv_icmp_ne (tgt := 54) hx hb dX11_isOn_49 (by decide) (fun z_7 => ?_) (fun z_7 => ?_)
          ·
            rw [if_neg z_7] at h
            exact wX11_isOn_54 hx hb hr hml hown hg hlocks hK hA hL hrec3 hr1 hY (lv_sub hl [1, 2, 3, 4] rfl) h
          ·
            rw [if_pos z_7] at h
            refine lv_iconst (v := 1) hx hb dX11_isOn_52 (by decide) ?_
            cases h
            exact g_iret hx hb hr hlocks () hY.1 hY.2.1 hY.2.2 rfl rfl (Nat.le_of_ble_eq_true rfl) (Nat.le_of_ble_eq_true rfl) dX11_isOn_53
end
def fX11_isOn (N : Nat) (σ : gS) (r1 : Nat) (x2 : Int64) : Option Int32 := lp (fX11_isOn_3 N σ r1 x2) N 0
set_option maxRecDepth 100000 in
set_option maxHeartbeats 4000000 in
theorem kX11_isOn (l : Launch) (D : va_G) (y : Nat → ClassId) (aS : Nat → Nat) (sz : Nat) (L : List Nat) (hL : ∀ k, k < 179 → k ∈ L) (ad : Nat → Nat) (N : Nat) (σ : gS) (r1 : Nat) (x2 : Int64) (res : Int32) (hr1 : gcl r1 = 3) (h : fX11_isOn N σ r1 x2 = some res) : Met l yX11_isOn (Cond.code yX11_isOn cX11_isOn 6 (some .boolean) :: wsL_law) ({ frames := 1, cells := 0, slots := 0, locals := 22 } : Room) (va_Pc [.ref (ad 0), .ref (ad r1), .long x2] (gI D y aS (GW L y ad σ) sz)) (va_Qi (fun (r : Int32) (_ : Unit) => r = res) (fun _ => gO D (va_A (GW L y ad σ) sz) (GW L y ad σ)) (va_A (GW L y ad σ) sz)) 0 0 (va_A (GW L y ad σ) sz) := by
  refine g_of (by decide) (Nat.le_of_ble_eq_true rfl) ?_
  intro p e s m below meth c ls A hx hb hr hml hown hg hlocks hin hsz hK hP hD hS hA hAe hl
  rw [← hAe]
  replace hown : s.vm.findClass RX11 = some m.cls := hown
  have hY : gY D y A s L ad σ s.heap [] := ⟨hP, hD, hS⟩
  clear hP hD hS
  replace hl : lv_has ls 6 [(0, .ref (ad 0)), (1, .ref (ad r1)), (2, .long x2)] := hl
  unfold fX11_isOn at h
  refine lv_iconst (v := 0) hx hb dX11_isOn_0 (by decide) ?_
  refine lv_istore (lv' := [(4, .int 0), (0, .ref (ad 0)), (1, .ref (ad r1)), (2, .long x2)]) hx hb dX11_isOn_1 hl (by decide) rfl ?_
  clear hl
  intro ls hl
  exact wX11_isOn_3 hx hb hr hml hown hg hlocks hK hA hL hr1 N _ _ _ hY (lv_sub hl [1, 2, 3, 0] rfl) h
theorem ggV_RX11_521_X11_isOn : GoodIn wsL_law (wsV RX11 521 RX11 yX11_isOn (Cond.code yX11_isOn cX11_isOn 6 (some .boolean) :: wsL_law)) := g_gi (fun _ h => h) gW_good (List.forall_mem_cons.mpr ⟨⟨gw_839, rfl⟩, List.forall_mem_cons.mpr ⟨⟨gw_840, rfl⟩, List.forall_mem_cons.mpr ⟨⟨gw_841, rfl⟩, List.forall_mem_cons.mpr ⟨⟨gw_2, rfl⟩, fun _ h => nomatch h⟩⟩⟩⟩) ⟨gw_842, rfl⟩
theorem ggV_RX11_524_X10_add : GoodIn wsL_law (wsV RX11 524 RX10 yX10_add (Cond.code yX10_add cX10_add 7 none :: wsL_law)) := g_gi (fun _ h => h) gW_good (List.forall_mem_cons.mpr ⟨⟨gw_844, rfl⟩, List.forall_mem_cons.mpr ⟨⟨gw_845, rfl⟩, List.forall_mem_cons.mpr ⟨⟨gw_846, rfl⟩, List.forall_mem_cons.mpr ⟨⟨gw_35, rfl⟩, fun _ h => nomatch h⟩⟩⟩⟩) ⟨gw_847, rfl⟩
section
variable {p : Program} {l : Launch} {e : Env} {s : State} {m : MethodId} {args : Array Value} {below : List Frame} {meth : Method} {c : Code} {D : va_G} {y : Nat → ClassId} {aS : Nat → Nat} {A : Nat → Prop} {L : List Nat} {ad : Nat → Nat} {N : Nat} {res : gS}
def fX11_want_58 (N : Nat) (σ : gS) : Option gS := some σ
set_option maxRecDepth 100000 in
set_option maxHeartbeats 4000000 in
theorem wX11_want_58 {σ : gS} (hx : p.tables.exec = Jvm.exec) (hb : c.code = cX11_want) (hr : meth.sig.returnType = none) (hml : c.maxLocals = 9) (hown : s.vm.findClass RX11 = some m.cls) (hg : ∀ w ∈ wsL_law, w.before args s = true) (hlocks : meth.locks = false) (hK : gK D y aS s) (hA : ∀ q, s.heap.size ≤ q → A q) (hL : ∀ k, k < 179 → k ∈ L) {H : Heap} {locs : List Loc} {ls : Array Slot} (hY : gY D y A s L ad σ H locs) (hl : lv_has ls 9 []) (h : fX11_want_58 N σ = some res) : W p l e ({ frames := 2, cells := 0, slots := 0, locals := 48 } : Room) s m args below meth c H locs 0 0 (MQ below (va_Qv (fun (_ : Unit) => True) (fun _ => gO D A (GW L y ad res)) A) args s 0 0 A) (F0 m 58 ls []) := by
  unfold fX11_want_58 at h
  cases h
  exact g_vret hx hb hr hlocks () hY.1 hY.2.1 hY.2.2 trivial (Nat.le_of_ble_eq_true rfl) (Nat.le_of_ble_eq_true rfl) dX11_want_58
end
def fX11_want (N : Nat) (σ : gS) (x1 : Int32) (x2 : Int64) (x4 : Int32) (x5 : Int32) : Option gS := (fX7_at N σ x1).bind fun r_1 => (fX9_verdictOf N σ r_1 (x2 &&& (σ.2.1 r_1 3))).bind fun r_4 => if r_4 = 0 then ((fX11_isOn N σ r_1 (x2 &&& (σ.2.1 r_1 3))).bind fun r_7 => if r_7 = 0 then ((fX10_add N σ x1 (x2 &&& (σ.2.1 r_1 3)) x4 x5).bind fun r_10 => fX11_want_58 N r_10) else (fX11_want_58 N σ)) else (fX11_want_58 N σ)
set_option maxRecDepth 100000 in
set_option maxHeartbeats 4000000 in
theorem kX11_want (l : Launch) (D : va_G) (y : Nat → ClassId) (aS : Nat → Nat) (sz : Nat) (L : List Nat) (hL : ∀ k, k < 179 → k ∈ L) (ad : Nat → Nat) (N : Nat) (σ : gS) (x1 : Int32) (x2 : Int64) (x4 : Int32) (x5 : Int32) (res : gS) (h : fX11_want N σ x1 x2 x4 x5 = some res) : Met l yX11_want (Cond.code yX11_want cX11_want 9 none :: wsL_law) ({ frames := 2, cells := 0, slots := 0, locals := 48 } : Room) (va_Pc [.ref (ad 0), .int x1, .long x2, .int x4, .int x5] (gI D y aS (GW L y ad σ) sz)) (va_Qv (fun (_ : Unit) => True) (fun _ => gO D (va_A (GW L y ad σ) sz) (GW L y ad res)) (va_A (GW L y ad σ) sz)) 0 0 (va_A (GW L y ad σ) sz) := by
  refine g_of (by decide) (Nat.le_of_ble_eq_true rfl) ?_
  intro p e s m below meth c ls A hx hb hr hml hown hg hlocks hin hsz hK hP hD hS hA hAe hl
  rw [← hAe]
  replace hown : s.vm.findClass RX11 = some m.cls := hown
  have hY : gY D y A s L ad σ s.heap [] := ⟨hP, hD, hS⟩
  clear hP hD hS
  replace hl : lv_has ls 9 [(0, .ref (ad 0)), (1, .int x1), (2, .long x2), (4, .int x4), (5, .int x5)] := hl
  unfold fX11_want at h
  refine lv_aload_n hx hb dX11_want_0 rfl (lv_at hl 0 rfl) ?_
  refine G_get (ci := 11) (j := 1) (C := RX11) (T := TX11) (N := 19) (v := .ref (ad 65)) hx hb hg inlX11 hown hK hY (hL 0 (by decide)) gk_0 (by decide) rfl (by decide) tX11_1 (hg _ gw_20) rfl dX11_want_1 ?_
  refine lv_iload_n hx hb dX11_want_4 rfl (lv_at hl 1 rfl) ?_
  obtain ⟨r_1, e_2, h⟩ := g_bind h
  refine G_ar hY hA (va_runV (As := [.int x1]) (rest := []) ⟨hx, hb, hml, hown, hg⟩ (kX7_at l D y aS s.heap.size L hL ad N σ x1 _ e_2) (cwV 1 hg ggV_RX11_237_X7_at rfl rfl rfl (by decide +kernel) ⟨Nat.le_of_ble_eq_true rfl, Nat.le_of_ble_eq_true rfl⟩) (G_pV (q := (RX7, TX7, 6)) hK hY (hL 65 (by decide)) gk_65 (by decide) rfl) rfl rfl hl.1 rfl (lv_room (Nat.le_of_ble_eq_true rfl)) dX11_want_5 ⟨Nat.le_of_ble_eq_true rfl, Nat.le_of_ble_eq_true rfl⟩) ?_
  clear hY
  rintro H locs k_3 hY
  refine lv_astore (lv' := [(6, .ref (ad r_1)), (0, .ref (ad 0)), (1, .int x1), (2, .long x2), (4, .int x4), (5, .int x5)]) hx hb dX11_want_8 hl (by decide) rfl ?_
  clear hl
  intro ls hl
  refine lv_lload_n hx hb dX11_want_10 rfl (lv_at hl 3 rfl) ?_
  refine lv_aload hx hb dX11_want_11 (lv_at hl 0 rfl) ?_
  refine G_get (ci := 3) (j := 3) (C := RX3) (T := TX3) (N := 10) (v := .long (σ.2.1 r_1 3)) hx hb hg inlX3 hown hK hY (hL _ (gcl_lt k_3 (by decide))) k_3 (by decide) rfl (by decide) tX3_3 (hg _ gw_838) rfl dX11_want_13 ?_
  refine lv_land hx hb dX11_want_16 ?_
  refine lv_lstore (lv' := [(7, .long (x2 &&& (σ.2.1 r_1 3))), (6, .ref (ad r_1)), (0, .ref (ad 0)), (1, .int x1), (2, .long x2), (4, .int x4), (5, .int x5)]) hx hb dX11_want_17 hl (by decide) rfl ?_
  clear hl
  intro ls hl
  refine lv_aload_n hx hb dX11_want_19 rfl (lv_at hl 2 rfl) ?_
  refine G_get (ci := 11) (j := 2) (C := RX11) (T := TX11) (N := 19) (v := .ref (ad 106)) hx hb hg inlX11 hown hK hY (hL 0 (by decide)) gk_0 (by decide) rfl (by decide) tX11_2 (hg _ gw_24) rfl dX11_want_20 ?_
  refine lv_aload hx hb dX11_want_23 (lv_at hl 1 rfl) ?_
  refine lv_lload hx hb dX11_want_25 (lv_at hl 0 rfl) ?_
  obtain ⟨r_4, e_5, h⟩ := g_bind h
  refine G_ai hY hA (va_runV (As := [.ref (ad r_1), .long (x2 &&& (σ.2.1 r_1 3))]) (rest := []) ⟨hx, hb, hml, hown, hg⟩ (kX9_verdictOf l D y aS H.size L hL ad N σ r_1 (x2 &&& (σ.2.1 r_1 3)) _ k_3 e_5) (cwV 2 hg ggV_RX11_338_X9_verdictOf rfl rfl rfl (by decide +kernel) ⟨Nat.le_of_ble_eq_true rfl, Nat.le_of_ble_eq_true rfl⟩) (G_pV (q := (RX9, TX9, 3)) hK hY (hL 106 (by decide)) gk_106 (by decide) rfl) rfl rfl hl.1 rfl (lv_room (Nat.le_of_ble_eq_true rfl)) dX11_want_27 ⟨Nat.le_of_ble_eq_true rfl, Nat.le_of_ble_eq_true rfl⟩) ?_
  clear hY
  rintro _ H locs rfl hY
  refine lv_if_ne (tgt := 58) hx hb dX11_want_30 (by decide) (fun z_6 => ?_) (fun z_6 => ?_)
  ·
    rw [if_neg z_6] at h
    exact wX11_want_58 hx hb hr hml hown hg hlocks hK hA hL hY (lv_sub hl [] rfl) h
  ·
    rw [if_pos z_6] at h
    refine lv_aload_n hx hb dX11_want_33 rfl (lv_at hl 2 rfl) ?_
    refine lv_aload hx hb dX11_want_34 (lv_at hl 1 rfl) ?_
    refine lv_lload hx hb dX11_want_36 (lv_at hl 0 rfl) ?_
    obtain ⟨r_7, e_8, h⟩ := g_bind h
    refine G_ai hY hA (va_runV (As := [.ref (ad r_1), .long (x2 &&& (σ.2.1 r_1 3))]) (rest := []) ⟨hx, hb, hml, hown, hg⟩ (kX11_isOn l D y aS H.size L hL ad N σ r_1 (x2 &&& (σ.2.1 r_1 3)) _ k_3 e_8) (cwV 2 hg ggV_RX11_521_X11_isOn rfl rfl rfl (by decide +kernel) ⟨Nat.le_of_ble_eq_true rfl, Nat.le_of_ble_eq_true rfl⟩) (G_pV (q := (RX11, TX11, 19)) hK hY (hL 0 (by decide)) gk_0 (by decide) rfl) rfl rfl hl.1 rfl (lv_room (Nat.le_of_ble_eq_true rfl)) dX11_want_38 ⟨Nat.le_of_ble_eq_true rfl, Nat.le_of_ble_eq_true rfl⟩) ?_
    clear hY
    rintro _ H locs rfl hY
    refine lv_if_ne (tgt := 58) hx hb dX11_want_41 (by decide) (fun z_9 => ?_) (fun z_9 => ?_)
    ·
      rw [if_neg z_9] at h
      exact wX11_want_58 hx hb hr hml hown hg hlocks hK hA hL hY (lv_sub hl [] rfl) h
    ·
      rw [if_pos z_9] at h
      refine lv_aload_n hx hb dX11_want_44 rfl (lv_at hl 2 rfl) ?_
      refine G_get (ci := 11) (j := 5) (C := RX11) (T := TX11) (N := 19) (v := .ref (ad 125)) hx hb hg inlX11 hown hK hY (hL 0 (by decide)) gk_0 (by decide) rfl (by decide) tX11_5 (hg _ gw_36) rfl dX11_want_45 ?_
      refine lv_iload_n hx hb dX11_want_48 rfl (lv_at hl 3 rfl) ?_
      refine lv_lload hx hb dX11_want_49 (lv_at hl 0 rfl) ?_
      refine lv_iload hx hb dX11_want_51 (lv_at hl 5 rfl) ?_
      refine lv_iload hx hb dX11_want_53 (lv_at hl 6 rfl) ?_
      obtain ⟨r_10, e_11, h⟩ := g_bind h
      refine G_av hY hA (va_runV (As := [.int x1, .long (x2 &&& (σ.2.1 r_1 3)), .int x4, .int x5]) (rest := []) ⟨hx, hb, hml, hown, hg⟩ (kX10_add l D y aS H.size L hL ad N σ x1 (x2 &&& (σ.2.1 r_1 3)) x4 x5 _ e_11) (cwV 4 hg ggV_RX11_524_X10_add rfl rfl rfl (by decide +kernel) ⟨Nat.le_of_ble_eq_true rfl, Nat.le_of_ble_eq_true rfl⟩) (G_pV (q := (RX10, TX10, 4)) hK hY (hL 125 (by decide)) gk_125 (by decide) rfl) rfl rfl hl.1 rfl (lv_room (Nat.le_of_ble_eq_true rfl)) dX11_want_55 ⟨Nat.le_of_ble_eq_true rfl, Nat.le_of_ble_eq_true rfl⟩) ?_
      clear hY
      rintro H locs hY
      exact wX11_want_58 hx hb hr hml hown hg hlocks hK hA hL hY (lv_sub hl [] rfl) h
theorem ggV_RX11_511_X11_want : GoodIn wsL_law (wsV RX11 511 RX11 yX11_want (Cond.code yX11_want cX11_want 9 none :: wsL_law)) := g_gi (fun _ h => h) gW_good (List.forall_mem_cons.mpr ⟨⟨gw_834, rfl⟩, List.forall_mem_cons.mpr ⟨⟨gw_835, rfl⟩, List.forall_mem_cons.mpr ⟨⟨gw_836, rfl⟩, List.forall_mem_cons.mpr ⟨⟨gw_2, rfl⟩, fun _ h => nomatch h⟩⟩⟩⟩) ⟨gw_837, rfl⟩
section
variable {p : Program} {l : Launch} {e : Env} {s : State} {m : MethodId} {args : Array Value} {below : List Frame} {meth : Method} {c : Code} {D : va_G} {y : Nat → ClassId} {aS : Nat → Nat} {A : Nat → Prop} {L : List Nat} {ad : Nat → Nat} {N : Nat} {res : gS}
def fX11_listTests_34 (N : Nat) (rec3 : (gS × Int32) → Option gS) (σ : gS) (x1 : Int32) (x2 : Int64) (x4 : Int32) (x5 : Int32) : Option gS := rec3 (σ, (x5 + 1))
set_option maxRecDepth 100000 in
set_option maxHeartbeats 4000000 in
theorem wX11_listTests_34 {rec3 : (gS × Int32) → Option gS} {σ : gS} {x1 : Int32} {x2 : Int64} {x4 : Int32} {x5 : Int32} (hx : p.tables.exec = Jvm.exec) (hb : c.code = cX11_listTests) (hr : meth.sig.returnType = none) (hml : c.maxLocals = 6) (hown : s.vm.findClass RX11 = some m.cls) (hg : ∀ w ∈ wsL_law, w.before args s = true) (hlocks : meth.locks = false) (hK : gK D y aS s) (hA : ∀ q, s.heap.size ≤ q → A q) (hL : ∀ k, k < 179 → k ∈ L) (hrec3 : ∀ {σ9 : gS} {x5n9 : Int32} (H : Heap) (locs : List Loc) (ls : Array Slot), gY D y A s L ad σ9 H locs → lv_has ls 6 [(0, .ref (ad 0)), (1, .int x1), (2, .long x2), (4, .int x4), (5, .int x5n9)] → rec3 (σ9, x5n9) = some res → W p l e ({ frames := 3, cells := 0, slots := 0, locals := 76 } : Room) s m args below meth c H locs 0 0 (MQ below (va_Qv (fun (_ : Unit) => True) (fun _ => gO D A (GW L y ad res)) A) args s 0 0 A) (F0 m 3 ls [])) {H : Heap} {locs : List Loc} {ls : Array Slot} (hY : gY D y A s L ad σ H locs) (hl : lv_has ls 6 [(0, .ref (ad 0)), (1, .int x1), (2, .long x2), (4, .int x4), (5, .int x5)]) (h : fX11_listTests_34 N rec3 σ x1 x2 x4 x5 = some res) : W p l e ({ frames := 3, cells := 0, slots := 0, locals := 76 } : Room) s m args below meth c H locs 0 0 (MQ below (va_Qv (fun (_ : Unit) => True) (fun _ => gO D A (GW L y ad res)) A) args s 0 0 A) (F0 m 34 ls []) := by
  unfold fX11_listTests_34 at h
  refine lv_iinc (v := (x5 + 1)) (lv' := [(5, .int (x5 + 1)), (0, .ref (ad 0)), (1, .int x1), (2, .long x2), (4, .int x4)]) hx hb dX11_listTests_34 hl (k := 4) rfl rfl (by decide) rfl ?_
  clear hl
  intro ls hl
  refine lv_goto (tgt := 3) hx hb dX11_listTests_37 (by decide) ?_
  exact hrec3 _ _ _ hY (lv_sub hl [1, 2, 3, 4, 0] rfl) h
def fX11_listTests_3 (N : Nat) (x1 : Int32) (x2 : Int64) (x4 : Int32) (rec3 : (gS × Int32) → Option gS) (xx : gS × Int32) : Option gS := match xx with
  | (σ, x5) => if (σ.1 65 5) ≤ x5 then (some σ) else ((fX11_hasBit N σ x1 x5).bind fun r_2 => if r_2 = 0 then (fX11_listTests_34 N rec3 σ x1 x2 x4 x5) else ((fX11_want N σ x5 x2 ((-1) : Int32) x4).bind fun r_5 => fX11_listTests_34 N rec3 r_5 x1 x2 x4 x5))
set_option maxRecDepth 100000 in
set_option maxHeartbeats 4000000 in
theorem wX11_listTests_3 {x1 : Int32} {x2 : Int64} {x4 : Int32} (hx : p.tables.exec = Jvm.exec) (hb : c.code = cX11_listTests) (hr : meth.sig.returnType = none) (hml : c.maxLocals = 6) (hown : s.vm.findClass RX11 = some m.cls) (hg : ∀ w ∈ wsL_law, w.before args s = true) (hlocks : meth.locks = false) (hK : gK D y aS s) (hA : ∀ q, s.heap.size ≤ q → A q) (hL : ∀ k, k < 179 → k ∈ L) : ∀ (n : Nat) {σ : gS} {x5 : Int32} (H : Heap) (locs : List Loc) (ls : Array Slot), gY D y A s L ad σ H locs → lv_has ls 6 [(0, .ref (ad 0)), (1, .int x1), (2, .long x2), (4, .int x4), (5, .int x5)] → lp (fX11_listTests_3 N x1 x2 x4) n (σ, x5) = some res → W p l e ({ frames := 3, cells := 0, slots := 0, locals := 76 } : Room) s m args below meth c H locs 0 0 (MQ below (va_Qv (fun (_ : Unit) => True) (fun _ => gO D A (GW L y ad res)) A) args s 0 0 A) (F0 m 3 ls []) := by
  intro n
  induction n with
  | zero => intro σ x5 H locs ls hY hl h; exact nomatch (show none = some res from h)
  | succ n hrec3 =>
    intro σ x5 H locs ls hY hl h
    replace h : fX11_listTests_3 N x1 x2 x4 (lp (fX11_listTests_3 N x1 x2 x4) n) (σ, x5) = some res := h
    generalize lp (fX11_listTests_3 N x1 x2 x4) n = rec3 at h hrec3
    unfold fX11_listTests_3 at h
    try dsimp only at h
    refine lv_iload hx hb dX11_listTests_3 (lv_at hl 4 rfl) ?_
    refine lv_aload_n hx hb dX11_listTests_5 rfl (lv_at hl 0 rfl) ?_
    refine G_get (ci := 11) (j := 1) (C := RX11) (T := TX11) (N := 19) (v := .ref (ad 65)) hx hb hg inlX11 hown hK hY (hL 0 (by decide)) gk_0 (by decide) rfl (by decide) tX11_1 (hg _ gw_20) rfl dX11_listTests_6 ?_
    refine G_get (ci := 7) (j := 5) (C := RX7) (T := TX7) (N := 6) (v := .int (σ.1 65 5)) hx hb hg inlX7 hown hK hY (hL 65 (by decide)) gk_65 (by decide) rfl (by decide) tX7_5 (hg _ gw_490) rfl dX11_listTests_9 ?_
    refine lv_icmp_ge (tgt := 40) hx hb dX11_listTests_12 (by decide) (fun z_1 => ?_) (fun z_1 => ?_)
    ·
      rw [if_pos z_1] at h
      cases h
      exact g_vret hx hb hr hlocks () hY.1 hY.2.1 hY.2.2 trivial (Nat.le_of_ble_eq_true rfl) (Nat.le_of_ble_eq_true rfl) dX11_listTests_40
    ·
      rw [if_neg z_1] at h
      refine lv_iload_n hx hb dX11_listTests_15 rfl (lv_at hl 1 rfl) ?_
      refine lv_iload hx hb dX11_listTests_16 (lv_at hl 4 rfl) ?_
      obtain ⟨r_2, e_3, h⟩ := g_bind h
      refine G_ai hY hA (va_runS (As := [.int x1, .int x5]) (rest := []) ⟨hx, hb, hml, hown, hg⟩ (kX11_hasBit l D y aS H.size L hL ad N σ x1 x5 _ e_3) (va_cwS 2 hg ggS_RX11_175_X11_hasBit rfl rfl rfl (by decide +kernel) ⟨Nat.le_of_ble_eq_true rfl, Nat.le_of_ble_eq_true rfl⟩) (G_pS hK hY) rfl rfl hl.1 rfl (lv_room (Nat.le_of_ble_eq_true rfl)) dX11_listTests_18 ⟨Nat.le_of_ble_eq_true rfl, Nat.le_of_ble_eq_true rfl⟩) ?_
      clear hY
      rintro _ H locs rfl hY
      refine lv_if_eq (tgt := 34) hx hb dX11_listTests_21 (by decide) (fun z_4 => ?_) (fun z_4 => ?_)
      ·
        rw [if_pos z_4] at h
        exact wX11_listTests_34 hx hb hr hml hown hg hlocks hK hA hL hrec3 hY (lv_sub hl [0, 1, 2, 3, 4] rfl) h
      ·
        rw [if_neg z_4] at h
        refine lv_aload_n hx hb dX11_listTests_24 rfl (lv_at hl 0 rfl) ?_
        refine lv_iload hx hb dX11_listTests_25 (lv_at hl 4 rfl) ?_
        refine lv_lload_n hx hb dX11_listTests_27 rfl (lv_at hl 2 rfl) ?_
        refine lv_iconst (v := (-1)) hx hb dX11_listTests_28 (by decide) ?_
        refine lv_iload hx hb dX11_listTests_29 (lv_at hl 3 rfl) ?_
        obtain ⟨r_5, e_6, h⟩ := g_bind h
        refine G_av hY hA (va_runV (As := [.int x5, .long x2, .int (-1), .int x4]) (rest := []) ⟨hx, hb, hml, hown, hg⟩ (kX11_want l D y aS H.size L hL ad N σ x5 x2 ((-1) : Int32) x4 _ e_6) (cwV 4 hg ggV_RX11_511_X11_want rfl rfl rfl (by decide +kernel) ⟨Nat.le_of_ble_eq_true rfl, Nat.le_of_ble_eq_true rfl⟩) (G_pV (q := (RX11, TX11, 19)) hK hY (hL 0 (by decide)) gk_0 (by decide) rfl) rfl rfl hl.1 rfl (lv_room (Nat.le_of_ble_eq_true rfl)) dX11_listTests_31 ⟨Nat.le_of_ble_eq_true rfl, Nat.le_of_ble_eq_true rfl⟩) ?_
        clear hY
        rintro H locs hY
        exact wX11_listTests_34 hx hb hr hml hown hg hlocks hK hA hL hrec3 hY (lv_sub hl [0, 1, 2, 3, 4] rfl) h
end
def fX11_listTests (N : Nat) (σ : gS) (x1 : Int32) (x2 : Int64) (x4 : Int32) : Option gS := lp (fX11_listTests_3 N x1 x2 x4) N (σ, 0)
set_option maxRecDepth 100000 in
set_option maxHeartbeats 4000000 in
theorem kX11_listTests (l : Launch) (D : va_G) (y : Nat → ClassId) (aS : Nat → Nat) (sz : Nat) (L : List Nat) (hL : ∀ k, k < 179 → k ∈ L) (ad : Nat → Nat) (N : Nat) (σ : gS) (x1 : Int32) (x2 : Int64) (x4 : Int32) (res : gS) (h : fX11_listTests N σ x1 x2 x4 = some res) : Met l yX11_listTests (Cond.code yX11_listTests cX11_listTests 6 none :: wsL_law) ({ frames := 3, cells := 0, slots := 0, locals := 76 } : Room) (va_Pc [.ref (ad 0), .int x1, .long x2, .int x4] (gI D y aS (GW L y ad σ) sz)) (va_Qv (fun (_ : Unit) => True) (fun _ => gO D (va_A (GW L y ad σ) sz) (GW L y ad res)) (va_A (GW L y ad σ) sz)) 0 0 (va_A (GW L y ad σ) sz) := by
  refine g_of (by decide) (Nat.le_of_ble_eq_true rfl) ?_
  intro p e s m below meth c ls A hx hb hr hml hown hg hlocks hin hsz hK hP hD hS hA hAe hl
  rw [← hAe]
  replace hown : s.vm.findClass RX11 = some m.cls := hown
  have hY : gY D y A s L ad σ s.heap [] := ⟨hP, hD, hS⟩
  clear hP hD hS
  replace hl : lv_has ls 6 [(0, .ref (ad 0)), (1, .int x1), (2, .long x2), (4, .int x4)] := hl
  unfold fX11_listTests at h
  refine lv_iconst (v := 0) hx hb dX11_listTests_0 (by decide) ?_
  refine lv_istore (lv' := [(5, .int 0), (0, .ref (ad 0)), (1, .int x1), (2, .long x2), (4, .int x4)]) hx hb dX11_listTests_1 hl (by decide) rfl ?_
  clear hl
  intro ls hl
  exact wX11_listTests_3 hx hb hr hml hown hg hlocks hK hA hL N _ _ _ hY (lv_sub hl [1, 2, 3, 4, 0] rfl) h
theorem ggV_RX11_501_X11_listTests : GoodIn wsL_law (wsV RX11 501 RX11 yX11_listTests (Cond.code yX11_listTests cX11_listTests 6 none :: wsL_law)) := g_gi (fun _ h => h) gW_good (List.forall_mem_cons.mpr ⟨⟨gw_830, rfl⟩, List.forall_mem_cons.mpr ⟨⟨gw_831, rfl⟩, List.forall_mem_cons.mpr ⟨⟨gw_832, rfl⟩, List.forall_mem_cons.mpr ⟨⟨gw_2, rfl⟩, fun _ h => nomatch h⟩⟩⟩⟩) ⟨gw_833, rfl⟩
theorem ggV_RX11_515_X1_team : GoodIn wsL_law (wsV RX11 515 RX1 yX1_team (Cond.code yX1_team cX1_team 1 (some .int) :: wsL_law)) := g_gi (fun _ h => h) gW_good (List.forall_mem_cons.mpr ⟨⟨gw_855, rfl⟩, List.forall_mem_cons.mpr ⟨⟨gw_223, rfl⟩, List.forall_mem_cons.mpr ⟨⟨gw_224, rfl⟩, List.forall_mem_cons.mpr ⟨⟨gw_63, rfl⟩, fun _ h => nomatch h⟩⟩⟩⟩) ⟨gw_225, rfl⟩
section
variable {p : Program} {l : Launch} {e : Env} {s : State} {m : MethodId} {args : Array Value} {below : List Frame} {meth : Method} {c : Code} {D : va_G} {y : Nat → ClassId} {aS : Nat → Nat} {A : Nat → Prop} {L : List Nat} {ad : Nat → Nat} {N : Nat} {res : gS}
def fX11_listBatch_116 (N : Nat) (rec15 : (gS × Int32) → Option gS) (σ : gS) (x1 : Int32) (x2 : Int64) (x4 : Int32) : Option gS := rec15 (σ, (x4 + 1))
set_option maxRecDepth 100000 in
set_option maxHeartbeats 4000000 in
theorem wX11_listBatch_116 {rec15 : (gS × Int32) → Option gS} {σ : gS} {x1 : Int32} {x2 : Int64} {x4 : Int32} (hx : p.tables.exec = Jvm.exec) (hb : c.code = cX11_listBatch) (hr : meth.sig.returnType = none) (hml : c.maxLocals = 7) (hown : s.vm.findClass RX11 = some m.cls) (hg : ∀ w ∈ wsL_law, w.before args s = true) (hlocks : meth.locks = false) (hK : gK D y aS s) (hA : ∀ q, s.heap.size ≤ q → A q) (hL : ∀ k, k < 179 → k ∈ L) (hrec15 : ∀ {σ9 : gS} {x4n9 : Int32} (H : Heap) (locs : List Loc) (ls : Array Slot), gY D y A s L ad σ9 H locs → lv_has ls 7 [(0, .ref (ad 0)), (1, .int x1), (2, .long x2), (4, .int x4n9)] → rec15 (σ9, x4n9) = some res → W p l e ({ frames := 3, cells := 0, slots := 0, locals := 76 } : Room) s m args below meth c H locs 0 0 (MQ below (va_Qv (fun (_ : Unit) => True) (fun _ => gO D A (GW L y ad res)) A) args s 0 0 A) (F0 m 15 ls [])) {H : Heap} {locs : List Loc} {ls : Array Slot} (hY : gY D y A s L ad σ H locs) (hl : lv_has ls 7 [(0, .ref (ad 0)), (1, .int x1), (2, .long x2), (4, .int x4)]) (h : fX11_listBatch_116 N rec15 σ x1 x2 x4 = some res) : W p l e ({ frames := 3, cells := 0, slots := 0, locals := 76 } : Room) s m args below meth c H locs 0 0 (MQ below (va_Qv (fun (_ : Unit) => True) (fun _ => gO D A (GW L y ad res)) A) args s 0 0 A) (F0 m 116 ls []) := by
  unfold fX11_listBatch_116 at h
  refine lv_iinc (v := (x4 + 1)) (lv' := [(4, .int (x4 + 1)), (0, .ref (ad 0)), (1, .int x1), (2, .long x2)]) hx hb dX11_listBatch_116 hl (k := 3) rfl rfl (by decide) rfl ?_
  clear hl
  intro ls hl
  refine lv_goto (tgt := 15) hx hb dX11_listBatch_119 (by decide) ?_
  exact hrec15 _ _ _ hY (lv_sub hl [1, 2, 3, 0] rfl) h
def fX11_listBatch_104 (N : Nat) (rec15 : (gS × Int32) → Option gS) (σ : gS) (x1 : Int32) (x2 : Int64) (x4 : Int32) (xs0 : Int32) (xs1 : Int32) (xs2 : Int64) (xs3 : Int32) : Option gS := (fX11_want N σ xs3 xs2 xs1 xs0).bind fun r_1 => fX11_listBatch_116 N rec15 r_1 x1 x2 x4
set_option maxRecDepth 100000 in
set_option maxHeartbeats 4000000 in
theorem wX11_listBatch_104 {rec15 : (gS × Int32) → Option gS} {σ : gS} {x1 : Int32} {x2 : Int64} {x4 : Int32} {xs0 : Int32} {xs1 : Int32} {xs2 : Int64} {xs3 : Int32} (hx : p.tables.exec = Jvm.exec) (hb : c.code = cX11_listBatch) (hr : meth.sig.returnType = none) (hml : c.maxLocals = 7) (hown : s.vm.findClass RX11 = some m.cls) (hg : ∀ w ∈ wsL_law, w.before args s = true) (hlocks : meth.locks = false) (hK : gK D y aS s) (hA : ∀ q, s.heap.size ≤ q → A q) (hL : ∀ k, k < 179 → k ∈ L) (hrec15 : ∀ {σ9 : gS} {x4n9 : Int32} (H : Heap) (locs : List Loc) (ls : Array Slot), gY D y A s L ad σ9 H locs → lv_has ls 7 [(0, .ref (ad 0)), (1, .int x1), (2, .long x2), (4, .int x4n9)] → rec15 (σ9, x4n9) = some res → W p l e ({ frames := 3, cells := 0, slots := 0, locals := 76 } : Room) s m args below meth c H locs 0 0 (MQ below (va_Qv (fun (_ : Unit) => True) (fun _ => gO D A (GW L y ad res)) A) args s 0 0 A) (F0 m 15 ls [])) {H : Heap} {locs : List Loc} {ls : Array Slot} (hY : gY D y A s L ad σ H locs) (hl : lv_has ls 7 [(0, .ref (ad 0)), (1, .int x1), (2, .long x2), (4, .int x4)]) (h : fX11_listBatch_104 N rec15 σ x1 x2 x4 xs0 xs1 xs2 xs3 = some res) : W p l e ({ frames := 3, cells := 0, slots := 0, locals := 76 } : Room) s m args below meth c H locs 0 0 (MQ below (va_Qv (fun (_ : Unit) => True) (fun _ => gO D A (GW L y ad res)) A) args s 0 0 A) (F0 m 104 ls [.int xs0, .int xs1, .long xs2, .int xs3, .ref (ad 0)]) := by
  unfold fX11_listBatch_104 at h
  obtain ⟨r_1, e_2, h⟩ := g_bind h
  refine G_av hY hA (va_runV (As := [.int xs3, .long xs2, .int xs1, .int xs0]) (rest := []) ⟨hx, hb, hml, hown, hg⟩ (kX11_want l D y aS H.size L hL ad N σ xs3 xs2 xs1 xs0 _ e_2) (cwV 4 hg ggV_RX11_511_X11_want rfl rfl rfl (by decide +kernel) ⟨Nat.le_of_ble_eq_true rfl, Nat.le_of_ble_eq_true rfl⟩) (G_pV (q := (RX11, TX11, 19)) hK hY (hL 0 (by decide)) gk_0 (by decide) rfl) rfl rfl hl.1 rfl (lv_room (Nat.le_of_ble_eq_true rfl)) dX11_listBatch_104 ⟨Nat.le_of_ble_eq_true rfl, Nat.le_of_ble_eq_true rfl⟩) ?_
  clear hY
  rintro H locs hY
  refine lv_goto (tgt := 116) hx hb dX11_listBatch_107 (by decide) ?_
  exact wX11_listBatch_116 hx hb hr hml hown hg hlocks hK hA hL hrec15 hY (lv_sub hl [0, 1, 2, 3] rfl) h
def fX11_listBatch_39 (N : Nat) (rec15 : (gS × Int32) → Option gS) (x1 : Int32) (x2 : Int64) (x4 : Int32) (rec39 : (gS × Int32) → Option gS) (xx : gS × Int32) : Option gS := match xx with
  | (σ, x5) => (fX4_endOf N σ x1).bind fun r_1 => if r_1 ≤ x5 then (fX11_listBatch_116 N rec15 σ x1 x2 x4) else ((fX8_whole N σ 112 x5).bind fun r_4 => (fX2_at N σ r_4).bind fun r_6 => (fX11_hasBit N σ (σ.1 r_6 13) x4).bind fun r_9 => if r_9 = 0 then (rec39 (σ, (x5 + 1))) else ((fX1_team N σ r_6).bind fun r_12 => if x1 = 0 then (fX11_listBatch_104 N rec15 σ x1 x2 x4 0 r_12 x2 x4) else (fX11_listBatch_104 N rec15 σ x1 x2 x4 1 r_12 x2 x4)))
set_option maxRecDepth 100000 in
set_option maxHeartbeats 4000000 in
theorem wX11_listBatch_39 {rec15 : (gS × Int32) → Option gS} {x1 : Int32} {x2 : Int64} {x4 : Int32} (hx : p.tables.exec = Jvm.exec) (hb : c.code = cX11_listBatch) (hr : meth.sig.returnType = none) (hml : c.maxLocals = 7) (hown : s.vm.findClass RX11 = some m.cls) (hg : ∀ w ∈ wsL_law, w.before args s = true) (hlocks : meth.locks = false) (hK : gK D y aS s) (hA : ∀ q, s.heap.size ≤ q → A q) (hL : ∀ k, k < 179 → k ∈ L) (hrec15 : ∀ {σ9 : gS} {x4n9 : Int32} (H : Heap) (locs : List Loc) (ls : Array Slot), gY D y A s L ad σ9 H locs → lv_has ls 7 [(0, .ref (ad 0)), (1, .int x1), (2, .long x2), (4, .int x4n9)] → rec15 (σ9, x4n9) = some res → W p l e ({ frames := 3, cells := 0, slots := 0, locals := 76 } : Room) s m args below meth c H locs 0 0 (MQ below (va_Qv (fun (_ : Unit) => True) (fun _ => gO D A (GW L y ad res)) A) args s 0 0 A) (F0 m 15 ls [])) : ∀ (n : Nat) {σ : gS} {x5 : Int32} (H : Heap) (locs : List Loc) (ls : Array Slot), gY D y A s L ad σ H locs → lv_has ls 7 [(0, .ref (ad 0)), (1, .int x1), (2, .long x2), (4, .int x4), (5, .int x5)] → lp (fX11_listBatch_39 N rec15 x1 x2 x4) n (σ, x5) = some res → W p l e ({ frames := 3, cells := 0, slots := 0, locals := 76 } : Room) s m args below meth c H locs 0 0 (MQ below (va_Qv (fun (_ : Unit) => True) (fun _ => gO D A (GW L y ad res)) A) args s 0 0 A) (F0 m 39 ls []) := by
  intro n
  induction n with
  | zero => intro σ x5 H locs ls hY hl h; exact nomatch (show none = some res from h)
  | succ n hrec39 =>
    intro σ x5 H locs ls hY hl h
    replace h : fX11_listBatch_39 N rec15 x1 x2 x4 (lp (fX11_listBatch_39 N rec15 x1 x2 x4) n) (σ, x5) = some res := h
    generalize lp (fX11_listBatch_39 N rec15 x1 x2 x4) n = rec39 at h hrec39
    unfold fX11_listBatch_39 at h
    try dsimp only at h
    refine lv_iload hx hb dX11_listBatch_39 (lv_at hl 4 rfl) ?_
    refine lv_aload_n hx hb dX11_listBatch_41 rfl (lv_at hl 0 rfl) ?_
    refine G_get (ci := 11) (j := 3) (C := RX11) (T := TX11) (N := 19) (v := .ref (ad 109)) hx hb hg inlX11 hown hK hY (hL 0 (by decide)) gk_0 (by decide) rfl (by decide) tX11_3 (hg _ gw_28) rfl dX11_listBatch_42 ?_
    refine lv_iload_n hx hb dX11_listBatch_45 rfl (lv_at hl 1 rfl) ?_
    obtain ⟨r_1, e_2, h⟩ := g_bind h
    refine G_ai hY hA (va_runV (As := [.int x1]) (rest := [.int x5]) ⟨hx, hb, hml, hown, hg⟩ (kX4_endOf l D y aS H.size L hL ad N σ x1 _ e_2) (cwV 1 hg ggV_RX11_431_X4_endOf rfl rfl rfl (by decide +kernel) ⟨Nat.le_of_ble_eq_true rfl, Nat.le_of_ble_eq_true rfl⟩) (G_pV (q := (RX4, TX4, 9)) hK hY (hL 109 (by decide)) gk_109 (by decide) rfl) rfl rfl hl.1 rfl (lv_room (Nat.le_of_ble_eq_true rfl)) dX11_listBatch_46 ⟨Nat.le_of_ble_eq_true rfl, Nat.le_of_ble_eq_true rfl⟩) ?_
    clear hY
    rintro _ H locs rfl hY
    refine lv_icmp_ge (tgt := 116) hx hb dX11_listBatch_49 (by decide) (fun z_3 => ?_) (fun z_3 => ?_)
    ·
      rw [if_pos z_3] at h
      exact wX11_listBatch_116 hx hb hr hml hown hg hlocks hK hA hL hrec15 hY (lv_sub hl [0, 1, 2, 3] rfl) h
    ·
      rw [if_neg z_3] at h
      refine lv_aload_n hx hb dX11_listBatch_52 rfl (lv_at hl 0 rfl) ?_
      refine G_get (ci := 11) (j := 0) (C := RX11) (T := TX11) (N := 19) (v := .ref (ad 1)) hx hb hg inlX11 hown hK hY (hL 0 (by decide)) gk_0 (by decide) rfl (by decide) tX11_0 (hg _ gw_16) rfl dX11_listBatch_53 ?_
      refine lv_aload_n hx hb dX11_listBatch_56 rfl (lv_at hl 0 rfl) ?_
      refine G_get (ci := 11) (j := 3) (C := RX11) (T := TX11) (N := 19) (v := .ref (ad 109)) hx hb hg inlX11 hown hK hY (hL 0 (by decide)) gk_0 (by decide) rfl (by decide) tX11_3 (hg _ gw_28) rfl dX11_listBatch_57 ?_
      refine G_get (ci := 4) (j := 5) (C := RX4) (T := TX4) (N := 9) (v := .ref (ad 112)) hx hb hg inlX4 hown hK hY (hL 109 (by decide)) gk_109 (by decide) rfl (by decide) tX4_5 (hg _ gw_577) rfl dX11_listBatch_60 ?_
      refine lv_iload hx hb dX11_listBatch_63 (lv_at hl 4 rfl) ?_
      obtain ⟨r_4, e_5, h⟩ := g_bind h
      refine G_ai hY hA (va_runV (As := [.int x5]) (rest := [.ref (ad 1)]) ⟨hx, hb, hml, hown, hg⟩ (kX8_whole l D y aS H.size L hL ad N σ 112 x5 _ gk_112 e_5) (cwV 1 hg ggV_RX11_187_X8_whole rfl rfl rfl (by decide +kernel) ⟨Nat.le_of_ble_eq_true rfl, Nat.le_of_ble_eq_true rfl⟩) (G_pV (q := (RX8, TX8, 2)) hK hY (hL 112 (by decide)) gk_112 (by decide) rfl) rfl rfl hl.1 rfl (lv_room (Nat.le_of_ble_eq_true rfl)) dX11_listBatch_65 ⟨Nat.le_of_ble_eq_true rfl, Nat.le_of_ble_eq_true rfl⟩) ?_
      clear hY
      rintro _ H locs rfl hY
      obtain ⟨r_6, e_7, h⟩ := g_bind h
      refine G_ar hY hA (va_runV (As := [.int r_4]) (rest := []) ⟨hx, hb, hml, hown, hg⟩ (kX2_at l D y aS H.size L hL ad N σ r_4 _ e_7) (cwV 1 hg ggV_RX11_113_X2_at rfl rfl rfl (by decide +kernel) ⟨Nat.le_of_ble_eq_true rfl, Nat.le_of_ble_eq_true rfl⟩) (G_pV (q := (RX2, TX2, 5)) hK hY (hL 1 (by decide)) gk_1 (by decide) rfl) rfl rfl hl.1 rfl (lv_room (Nat.le_of_ble_eq_true rfl)) dX11_listBatch_68 ⟨Nat.le_of_ble_eq_true rfl, Nat.le_of_ble_eq_true rfl⟩) ?_
      clear hY
      rintro H locs k_8 hY
      refine lv_astore (lv' := [(6, .ref (ad r_6)), (0, .ref (ad 0)), (1, .int x1), (2, .long x2), (4, .int x4), (5, .int x5)]) hx hb dX11_listBatch_71 hl (by decide) rfl ?_
      clear hl
      intro ls hl
      refine lv_aload hx hb dX11_listBatch_73 (lv_at hl 0 rfl) ?_
      refine G_get (ci := 1) (j := 13) (C := RX1) (T := TX1) (N := 14) (v := .int (σ.1 r_6 13)) hx hb hg inlX1 hown hK hY (hL _ (gcl_lt k_8 (by decide))) k_8 (by decide) rfl (by decide) tX1_13 (hg _ gw_196) rfl dX11_listBatch_75 ?_
      refine lv_iload hx hb dX11_listBatch_78 (lv_at hl 4 rfl) ?_
      obtain ⟨r_9, e_10, h⟩ := g_bind h
      refine G_ai hY hA (va_runS (As := [.int (σ.1 r_6 13), .int x4]) (rest := []) ⟨hx, hb, hml, hown, hg⟩ (kX11_hasBit l D y aS H.size L hL ad N σ (σ.1 r_6 13) x4 _ e_10) (va_cwS 2 hg ggS_RX11_175_X11_hasBit rfl rfl rfl (by decide +kernel) ⟨Nat.le_of_ble_eq_true rfl, Nat.le_of_ble_eq_true rfl⟩) (G_pS hK hY) rfl rfl hl.1 rfl (lv_room (Nat.le_of_ble_eq_true rfl)) dX11_listBatch_80 ⟨Nat.le_of_ble_eq_true rfl, Nat.le_of_ble_eq_true rfl⟩) ?_
      clear hY
      rintro _ H locs rfl hY
      refine lv_if_eq (tgt := 110) hx hb dX11_listBatch_83 (by decide) (fun z_11 => ?_) (fun z_11 => ?_)
      ·
        rw [if_pos z_11] at h
        refine lv_iinc (v := (x5 + 1)) (lv' := [(5, .int (x5 + 1)), (6, .ref (ad r_6)), (0, .ref (ad 0)), (1, .int x1), (2, .long x2), (4, .int x4)]) hx hb dX11_listBatch_110 hl (k := 5) rfl rfl (by decide) rfl ?_
        clear hl
        intro ls hl
        refine lv_goto (tgt := 39) hx hb dX11_listBatch_113 (by decide) ?_
        exact hrec39 _ _ _ hY (lv_sub hl [2, 3, 4, 5, 0] rfl) h
      ·
        rw [if_neg z_11] at h
        refine lv_aload_n hx hb dX11_listBatch_86 rfl (lv_at hl 1 rfl) ?_
        refine lv_iload hx hb dX11_listBatch_87 (lv_at hl 4 rfl) ?_
        refine lv_lload_n hx hb dX11_listBatch_89 rfl (lv_at hl 3 rfl) ?_
        refine lv_aload hx hb dX11_listBatch_90 (lv_at hl 0 rfl) ?_
        obtain ⟨r_12, e_13, h⟩ := g_bind h
        refine G_ai hY hA (va_runV (As := []) (rest := [.long x2, .int x4, .ref (ad 0)]) ⟨hx, hb, hml, hown, hg⟩ (kX1_team l D y aS H.size L hL ad N σ r_6 _ k_8 e_13) (cwV 0 hg ggV_RX11_515_X1_team rfl rfl rfl (by decide +kernel) ⟨Nat.le_of_ble_eq_true rfl, Nat.le_of_ble_eq_true rfl⟩) (G_pV (q := (RX1, TX1, 14)) hK hY (hL _ (gcl_lt k_8 (by decide))) k_8 (by decide) rfl) rfl rfl hl.1 rfl (lv_room (Nat.le_of_ble_eq_true rfl)) dX11_listBatch_92 ⟨Nat.le_of_ble_eq_true rfl, Nat.le_of_ble_eq_true rfl⟩) ?_
        clear hY
        rintro _ H locs rfl hY
        refine lv_iload_n hx hb dX11_listBatch_95 rfl (lv_at hl 2 rfl) ?_
        refine lv_if_ne (tgt := 103) hx hb dX11_listBatch_96 (by decide) (fun z_14 => ?_) (fun z_14 => ?_)
        ·
          rw [if_neg z_14] at h
          refine lv_iconst (v := 1) hx hb dX11_listBatch_103 (by decide) ?_
          exact wX11_listBatch_104 hx hb hr hml hown hg hlocks hK hA hL hrec15 hY (lv_sub hl [1, 2, 3, 4] rfl) h
        ·
          rw [if_pos z_14] at h
          refine lv_iconst (v := 0) hx hb dX11_listBatch_99 (by decide) ?_
          refine lv_goto (tgt := 104) hx hb dX11_listBatch_100 (by decide) ?_
          exact wX11_listBatch_104 hx hb hr hml hown hg hlocks hK hA hL hrec15 hY (lv_sub hl [1, 2, 3, 4] rfl) h
def fX11_listBatch_15 (N : Nat) (x1 : Int32) (x2 : Int64) (rec15 : (gS × Int32) → Option gS) (xx : gS × Int32) : Option gS := match xx with
  | (σ, x4) => if (σ.1 65 5) ≤ x4 then (some σ) else ((fX4_endOf N σ (x1 - 1)).bind fun r_2 => lp (fX11_listBatch_39 N rec15 x1 x2 x4) N (σ, r_2))
set_option maxRecDepth 100000 in
set_option maxHeartbeats 4000000 in
theorem wX11_listBatch_15 {x1 : Int32} {x2 : Int64} (hx : p.tables.exec = Jvm.exec) (hb : c.code = cX11_listBatch) (hr : meth.sig.returnType = none) (hml : c.maxLocals = 7) (hown : s.vm.findClass RX11 = some m.cls) (hg : ∀ w ∈ wsL_law, w.before args s = true) (hlocks : meth.locks = false) (hK : gK D y aS s) (hA : ∀ q, s.heap.size ≤ q → A q) (hL : ∀ k, k < 179 → k ∈ L) : ∀ (n : Nat) {σ : gS} {x4 : Int32} (H : Heap) (locs : List Loc) (ls : Array Slot), gY D y A s L ad σ H locs → lv_has ls 7 [(0, .ref (ad 0)), (1, .int x1), (2, .long x2), (4, .int x4)] → lp (fX11_listBatch_15 N x1 x2) n (σ, x4) = some res → W p l e ({ frames := 3, cells := 0, slots := 0, locals := 76 } : Room) s m args below meth c H locs 0 0 (MQ below (va_Qv (fun (_ : Unit) => True) (fun _ => gO D A (GW L y ad res)) A) args s 0 0 A) (F0 m 15 ls []) := by
  intro n
  induction n with
  | zero => intro σ x4 H locs ls hY hl h; exact nomatch (show none = some res from h)
  | succ n hrec15 =>
    intro σ x4 H locs ls hY hl h
    replace h : fX11_listBatch_15 N x1 x2 (lp (fX11_listBatch_15 N x1 x2) n) (σ, x4) = some res := h
    generalize lp (fX11_listBatch_15 N x1 x2) n = rec15 at h hrec15
    unfold fX11_listBatch_15 at h
    try dsimp only at h
    refine lv_iload hx hb dX11_listBatch_15 (lv_at hl 3 rfl) ?_
    refine lv_aload_n hx hb dX11_listBatch_17 rfl (lv_at hl 0 rfl) ?_
    refine G_get (ci := 11) (j := 1) (C := RX11) (T := TX11) (N := 19) (v := .ref (ad 65)) hx hb hg inlX11 hown hK hY (hL 0 (by decide)) gk_0 (by decide) rfl (by decide) tX11_1 (hg _ gw_20) rfl dX11_listBatch_18 ?_
    refine G_get (ci := 7) (j := 5) (C := RX7) (T := TX7) (N := 6) (v := .int (σ.1 65 5)) hx hb hg inlX7 hown hK hY (hL 65 (by decide)) gk_65 (by decide) rfl (by decide) tX7_5 (hg _ gw_490) rfl dX11_listBatch_21 ?_
    refine lv_icmp_ge (tgt := 122) hx hb dX11_listBatch_24 (by decide) (fun z_1 => ?_) (fun z_1 => ?_)
    ·
      rw [if_pos z_1] at h
      cases h
      exact g_vret hx hb hr hlocks () hY.1 hY.2.1 hY.2.2 trivial (Nat.le_of_ble_eq_true rfl) (Nat.le_of_ble_eq_true rfl) dX11_listBatch_122
    ·
      rw [if_neg z_1] at h
      refine lv_aload_n hx hb dX11_listBatch_27 rfl (lv_at hl 0 rfl) ?_
      refine G_get (ci := 11) (j := 3) (C := RX11) (T := TX11) (N := 19) (v := .ref (ad 109)) hx hb hg inlX11 hown hK hY (hL 0 (by decide)) gk_0 (by decide) rfl (by decide) tX11_3 (hg _ gw_28) rfl dX11_listBatch_28 ?_
      refine lv_iload_n hx hb dX11_listBatch_31 rfl (lv_at hl 1 rfl) ?_
      refine lv_iconst (v := 1) hx hb dX11_listBatch_32 (by decide) ?_
      refine lv_isub hx hb dX11_listBatch_33 ?_
      obtain ⟨r_2, e_3, h⟩ := g_bind h
      refine G_ai hY hA (va_runV (As := [.int (x1 - 1)]) (rest := []) ⟨hx, hb, hml, hown, hg⟩ (kX4_endOf l D y aS H.size L hL ad N σ (x1 - 1) _ e_3) (cwV 1 hg ggV_RX11_431_X4_endOf rfl rfl rfl (by decide +kernel) ⟨Nat.le_of_ble_eq_true rfl, Nat.le_of_ble_eq_true rfl⟩) (G_pV (q := (RX4, TX4, 9)) hK hY (hL 109 (by decide)) gk_109 (by decide) rfl) rfl rfl hl.1 rfl (lv_room (Nat.le_of_ble_eq_true rfl)) dX11_listBatch_34 ⟨Nat.le_of_ble_eq_true rfl, Nat.le_of_ble_eq_true rfl⟩) ?_
      clear hY
      rintro _ H locs rfl hY
      refine lv_istore (lv' := [(5, .int r_2), (0, .ref (ad 0)), (1, .int x1), (2, .long x2), (4, .int x4)]) hx hb dX11_listBatch_37 hl (by decide) rfl ?_
      clear hl
      intro ls hl
      exact wX11_listBatch_39 hx hb hr hml hown hg hlocks hK hA hL hrec15 N _ _ _ hY (lv_sub hl [1, 2, 3, 4, 0] rfl) h
end
def fX11_listBatch (N : Nat) (σ : gS) (x1 : Int32) : Option gS := (fX8_get N σ 116 x1).bind fun r_1 => lp (fX11_listBatch_15 N x1 r_1) N (σ, 0)
set_option maxRecDepth 100000 in
set_option maxHeartbeats 4000000 in
theorem kX11_listBatch (l : Launch) (D : va_G) (y : Nat → ClassId) (aS : Nat → Nat) (sz : Nat) (L : List Nat) (hL : ∀ k, k < 179 → k ∈ L) (ad : Nat → Nat) (N : Nat) (σ : gS) (x1 : Int32) (res : gS) (h : fX11_listBatch N σ x1 = some res) : Met l yX11_listBatch (Cond.code yX11_listBatch cX11_listBatch 7 none :: wsL_law) ({ frames := 3, cells := 0, slots := 0, locals := 76 } : Room) (va_Pc [.ref (ad 0), .int x1] (gI D y aS (GW L y ad σ) sz)) (va_Qv (fun (_ : Unit) => True) (fun _ => gO D (va_A (GW L y ad σ) sz) (GW L y ad res)) (va_A (GW L y ad σ) sz)) 0 0 (va_A (GW L y ad σ) sz) := by
  refine g_of (by decide) (Nat.le_of_ble_eq_true rfl) ?_
  intro p e s m below meth c ls A hx hb hr hml hown hg hlocks hin hsz hK hP hD hS hA hAe hl
  rw [← hAe]
  replace hown : s.vm.findClass RX11 = some m.cls := hown
  have hY : gY D y A s L ad σ s.heap [] := ⟨hP, hD, hS⟩
  clear hP hD hS
  replace hl : lv_has ls 7 [(0, .ref (ad 0)), (1, .int x1)] := hl
  unfold fX11_listBatch at h
  refine lv_aload_n hx hb dX11_listBatch_0 rfl (lv_at hl 0 rfl) ?_
  refine G_get (ci := 11) (j := 3) (C := RX11) (T := TX11) (N := 19) (v := .ref (ad 109)) hx hb hg inlX11 hown hK hY (hL 0 (by decide)) gk_0 (by decide) rfl (by decide) tX11_3 (hg _ gw_28) rfl dX11_listBatch_1 ?_
  refine G_get (ci := 4) (j := 7) (C := RX4) (T := TX4) (N := 9) (v := .ref (ad 116)) hx hb hg inlX4 hown hK hY (hL 109 (by decide)) gk_109 (by decide) rfl (by decide) tX4_7 (hg _ gw_815) rfl dX11_listBatch_4 ?_
  refine lv_iload_n hx hb dX11_listBatch_7 rfl (lv_at hl 1 rfl) ?_
  obtain ⟨r_1, e_2, h⟩ := g_bind h
  refine G_al hY hA (va_runV (As := [.int x1]) (rest := []) ⟨hx, hb, hml, hown, hg⟩ (kX8_get l D y aS s.heap.size L hL ad N σ 116 x1 _ gk_116 e_2) (cwV 1 hg ggV_RX11_218_X8_get rfl rfl rfl (by decide +kernel) ⟨Nat.le_of_ble_eq_true rfl, Nat.le_of_ble_eq_true rfl⟩) (G_pV (q := (RX8, TX8, 2)) hK hY (hL 116 (by decide)) gk_116 (by decide) rfl) rfl rfl hl.1 rfl (lv_room (Nat.le_of_ble_eq_true rfl)) dX11_listBatch_8 ⟨Nat.le_of_ble_eq_true rfl, Nat.le_of_ble_eq_true rfl⟩) ?_
  clear hY
  rintro _ H locs rfl hY
  refine lv_lstore_n (lv' := [(2, .long r_1), (0, .ref (ad 0)), (1, .int x1)]) hx hb dX11_listBatch_11 rfl hl (by decide) rfl ?_
  clear hl
  intro ls hl
  refine lv_iconst (v := 0) hx hb dX11_listBatch_12 (by decide) ?_
  refine lv_istore (lv' := [(4, .int 0), (2, .long r_1), (0, .ref (ad 0)), (1, .int x1)]) hx hb dX11_listBatch_13 hl (by decide) rfl ?_
  clear hl
  intro ls hl
  exact wX11_listBatch_15 hx hb hr hml hown hg hlocks hK hA hL N _ _ _ hY (lv_sub hl [2, 3, 1, 0] rfl) h
theorem ggV_RX11_508_X11_listBatch : GoodIn wsL_law (wsV RX11 508 RX11 yX11_listBatch (Cond.code yX11_listBatch cX11_listBatch 7 none :: wsL_law)) := g_gi (fun _ h => h) gW_good (List.forall_mem_cons.mpr ⟨⟨gw_851, rfl⟩, List.forall_mem_cons.mpr ⟨⟨gw_852, rfl⟩, List.forall_mem_cons.mpr ⟨⟨gw_853, rfl⟩, List.forall_mem_cons.mpr ⟨⟨gw_2, rfl⟩, fun _ h => nomatch h⟩⟩⟩⟩) ⟨gw_854, rfl⟩
theorem ggV_RX11_498_X10_clear : GoodIn wsL_law (wsV RX11 498 RX10 yX10_clear (Cond.code yX10_clear cX10_clear 1 none :: wsL_law)) := g_gi (fun _ h => h) gW_good (List.forall_mem_cons.mpr ⟨⟨gw_825, rfl⟩, List.forall_mem_cons.mpr ⟨⟨gw_826, rfl⟩, List.forall_mem_cons.mpr ⟨⟨gw_827, rfl⟩, List.forall_mem_cons.mpr ⟨⟨gw_35, rfl⟩, fun _ h => nomatch h⟩⟩⟩⟩) ⟨gw_828, rfl⟩
section
variable {p : Program} {l : Launch} {e : Env} {s : State} {m : MethodId} {args : Array Value} {below : List Frame} {meth : Method} {c : Code} {D : va_G} {y : Nat → ClassId} {aS : Nat → Nat} {A : Nat → Prop} {L : List Nat} {ad : Nat → Nat} {N : Nat} {res : gS}
def fX11_listWanted_157 (N : Nat) (σ : gS) : Option gS := some σ
set_option maxRecDepth 100000 in
set_option maxHeartbeats 4000000 in
theorem wX11_listWanted_157 {σ : gS} (hx : p.tables.exec = Jvm.exec) (hb : c.code = cX11_listWanted) (hr : meth.sig.returnType = none) (hml : c.maxLocals = 2) (hown : s.vm.findClass RX11 = some m.cls) (hg : ∀ w ∈ wsL_law, w.before args s = true) (hlocks : meth.locks = false) (hK : gK D y aS s) (hA : ∀ q, s.heap.size ≤ q → A q) (hL : ∀ k, k < 179 → k ∈ L) {H : Heap} {locs : List Loc} {ls : Array Slot} (hY : gY D y A s L ad σ H locs) (hl : lv_has ls 2 []) (h : fX11_listWanted_157 N σ = some res) : W p l e ({ frames := 4, cells := 0, slots := 0, locals := 102 } : Room) s m args below meth c H locs 0 0 (MQ below (va_Qv (fun (_ : Unit) => True) (fun _ => gO D A (GW L y ad res)) A) args s 0 0 A) (F0 m 157 ls []) := by
  unfold fX11_listWanted_157 at h
  cases h
  exact g_vret hx hb hr hlocks () hY.1 hY.2.1 hY.2.2 trivial (Nat.le_of_ble_eq_true rfl) (Nat.le_of_ble_eq_true rfl) dX11_listWanted_157
def fX11_listWanted_130 (N : Nat) (σ : gS) : Option gS := if (σ.1 0 17) = 0 then (fX11_listWanted_157 N σ) else ((fX11_trunkTree N σ).bind fun r_2 => (fX11_listTests N σ (((1 : Int32) <<< ((σ.1 65 5) &&& 31)) - 1) r_2 (2 : Int32)).bind fun r_4 => fX11_listWanted_157 N r_4)
set_option maxRecDepth 100000 in
set_option maxHeartbeats 4000000 in
theorem wX11_listWanted_130 {σ : gS} (hx : p.tables.exec = Jvm.exec) (hb : c.code = cX11_listWanted) (hr : meth.sig.returnType = none) (hml : c.maxLocals = 2) (hown : s.vm.findClass RX11 = some m.cls) (hg : ∀ w ∈ wsL_law, w.before args s = true) (hlocks : meth.locks = false) (hK : gK D y aS s) (hA : ∀ q, s.heap.size ≤ q → A q) (hL : ∀ k, k < 179 → k ∈ L) {H : Heap} {locs : List Loc} {ls : Array Slot} (hY : gY D y A s L ad σ H locs) (hl : lv_has ls 2 [(0, .ref (ad 0))]) (h : fX11_listWanted_130 N σ = some res) : W p l e ({ frames := 4, cells := 0, slots := 0, locals := 102 } : Room) s m args below meth c H locs 0 0 (MQ below (va_Qv (fun (_ : Unit) => True) (fun _ => gO D A (GW L y ad res)) A) args s 0 0 A) (F0 m 130 ls []) := by
  unfold fX11_listWanted_130 at h
  refine lv_aload_n hx hb dX11_listWanted_130 rfl (lv_at hl 0 rfl) ?_
  refine G_get (ci := 11) (j := 17) (C := RX11) (T := TX11) (N := 19) (v := .int (σ.1 0 17)) hx hb hg inlX11 hown hK hY (hL 0 (by decide)) gk_0 (by decide) rfl (by decide) tX11_17 (hg _ gw_706) rfl dX11_listWanted_131 ?_
  refine lv_if_eq (tgt := 157) hx hb dX11_listWanted_134 (by decide) (fun z_1 => ?_) (fun z_1 => ?_)
  ·
    rw [if_pos z_1] at h
    exact wX11_listWanted_157 hx hb hr hml hown hg hlocks hK hA hL hY (lv_sub hl [] rfl) h
  ·
    rw [if_neg z_1] at h
    refine lv_aload_n hx hb dX11_listWanted_137 rfl (lv_at hl 0 rfl) ?_
    refine lv_iconst (v := 1) hx hb dX11_listWanted_138 (by decide) ?_
    refine lv_aload_n hx hb dX11_listWanted_139 rfl (lv_at hl 0 rfl) ?_
    refine G_get (ci := 11) (j := 1) (C := RX11) (T := TX11) (N := 19) (v := .ref (ad 65)) hx hb hg inlX11 hown hK hY (hL 0 (by decide)) gk_0 (by decide) rfl (by decide) tX11_1 (hg _ gw_20) rfl dX11_listWanted_140 ?_
    refine G_get (ci := 7) (j := 5) (C := RX7) (T := TX7) (N := 6) (v := .int (σ.1 65 5)) hx hb hg inlX7 hown hK hY (hL 65 (by decide)) gk_65 (by decide) rfl (by decide) tX7_5 (hg _ gw_490) rfl dX11_listWanted_143 ?_
    refine lv_ishl hx hb dX11_listWanted_146 ?_
    refine lv_iconst (v := 1) hx hb dX11_listWanted_147 (by decide) ?_
    refine lv_isub hx hb dX11_listWanted_148 ?_
    refine lv_aload_n hx hb dX11_listWanted_149 rfl (lv_at hl 0 rfl) ?_
    obtain ⟨r_2, e_3, h⟩ := g_bind h
    refine G_al hY hA (va_runV (As := []) (rest := [.int (((1 : Int32) <<< ((σ.1 65 5) &&& 31)) - 1), .ref (ad 0)]) ⟨hx, hb, hml, hown, hg⟩ (kX11_trunkTree l D y aS H.size L hL ad N σ _ e_3) (cwV 0 hg ggV_RX11_156_X11_trunkTree rfl rfl rfl (by decide +kernel) ⟨Nat.le_of_ble_eq_true rfl, Nat.le_of_ble_eq_true rfl⟩) (G_pV (q := (RX11, TX11, 19)) hK hY (hL 0 (by decide)) gk_0 (by decide) rfl) rfl rfl hl.1 rfl (lv_room (Nat.le_of_ble_eq_true rfl)) dX11_listWanted_150 ⟨Nat.le_of_ble_eq_true rfl, Nat.le_of_ble_eq_true rfl⟩) ?_
    clear hY
    rintro _ H locs rfl hY
    refine lv_iconst (v := 2) hx hb dX11_listWanted_153 (by decide) ?_
    obtain ⟨r_4, e_5, h⟩ := g_bind h
    refine G_av hY hA (va_runV (As := [.int (((1 : Int32) <<< ((σ.1 65 5) &&& 31)) - 1), .long r_2, .int 2]) (rest := []) ⟨hx, hb, hml, hown, hg⟩ (kX11_listTests l D y aS H.size L hL ad N σ (((1 : Int32) <<< ((σ.1 65 5) &&& 31)) - 1) r_2 (2 : Int32) _ e_5) (cwV 3 hg ggV_RX11_501_X11_listTests rfl rfl rfl (by decide +kernel) ⟨Nat.le_of_ble_eq_true rfl, Nat.le_of_ble_eq_true rfl⟩) (G_pV (q := (RX11, TX11, 19)) hK hY (hL 0 (by decide)) gk_0 (by decide) rfl) rfl rfl hl.1 rfl (lv_room (Nat.le_of_ble_eq_true rfl)) dX11_listWanted_154 ⟨Nat.le_of_ble_eq_true rfl, Nat.le_of_ble_eq_true rfl⟩) ?_
    clear hY
    rintro H locs hY
    exact wX11_listWanted_157 hx hb hr hml hown hg hlocks hK hA hL hY (lv_sub hl [] rfl) h
def fX11_listWanted_105 (N : Nat) (rec105 : (gS × Int32) → Option gS) (xx : gS × Int32) : Option gS := match xx with
  | (σ, x1) => if (σ.1 114 1) ≤ x1 then (fX11_listWanted_130 N σ) else ((fX11_listBatch N σ x1).bind fun r_2 => rec105 (r_2, (x1 + 1)))
set_option maxRecDepth 100000 in
set_option maxHeartbeats 4000000 in
theorem wX11_listWanted_105 (hx : p.tables.exec = Jvm.exec) (hb : c.code = cX11_listWanted) (hr : meth.sig.returnType = none) (hml : c.maxLocals = 2) (hown : s.vm.findClass RX11 = some m.cls) (hg : ∀ w ∈ wsL_law, w.before args s = true) (hlocks : meth.locks = false) (hK : gK D y aS s) (hA : ∀ q, s.heap.size ≤ q → A q) (hL : ∀ k, k < 179 → k ∈ L) : ∀ (n : Nat) {σ : gS} {x1 : Int32} (H : Heap) (locs : List Loc) (ls : Array Slot), gY D y A s L ad σ H locs → lv_has ls 2 [(0, .ref (ad 0)), (1, .int x1)] → lp (fX11_listWanted_105 N) n (σ, x1) = some res → W p l e ({ frames := 4, cells := 0, slots := 0, locals := 102 } : Room) s m args below meth c H locs 0 0 (MQ below (va_Qv (fun (_ : Unit) => True) (fun _ => gO D A (GW L y ad res)) A) args s 0 0 A) (F0 m 105 ls []) := by
  intro n
  induction n with
  | zero => intro σ x1 H locs ls hY hl h; exact nomatch (show none = some res from h)
  | succ n hrec105 =>
    intro σ x1 H locs ls hY hl h
    replace h : fX11_listWanted_105 N (lp (fX11_listWanted_105 N) n) (σ, x1) = some res := h
    generalize lp (fX11_listWanted_105 N) n = rec105 at h hrec105
    unfold fX11_listWanted_105 at h
    try dsimp only at h
    refine lv_iload_n hx hb dX11_listWanted_105 rfl (lv_at hl 1 rfl) ?_
    refine lv_aload_n hx hb dX11_listWanted_106 rfl (lv_at hl 0 rfl) ?_
    refine G_get (ci := 11) (j := 3) (C := RX11) (T := TX11) (N := 19) (v := .ref (ad 109)) hx hb hg inlX11 hown hK hY (hL 0 (by decide)) gk_0 (by decide) rfl (by decide) tX11_3 (hg _ gw_28) rfl dX11_listWanted_107 ?_
    refine G_get (ci := 4) (j := 6) (C := RX4) (T := TX4) (N := 9) (v := .ref (ad 114)) hx hb hg inlX4 hown hK hY (hL 109 (by decide)) gk_109 (by decide) rfl (by decide) tX4_6 (hg _ gw_824) rfl dX11_listWanted_110 ?_
    refine G_get (ci := 8) (j := 1) (C := RX8) (T := TX8) (N := 2) (v := .int (σ.1 114 1)) hx hb hg inlX8 hown hK hY (hL 114 (by decide)) gk_114 (by decide) rfl (by decide) tX8_1 (hg _ gw_178) rfl dX11_listWanted_113 ?_
    refine lv_icmp_ge (tgt := 130) hx hb dX11_listWanted_116 (by decide) (fun z_1 => ?_) (fun z_1 => ?_)
    ·
      rw [if_pos z_1] at h
      exact wX11_listWanted_130 hx hb hr hml hown hg hlocks hK hA hL hY (lv_sub hl [0] rfl) h
    ·
      rw [if_neg z_1] at h
      refine lv_aload_n hx hb dX11_listWanted_119 rfl (lv_at hl 0 rfl) ?_
      refine lv_iload_n hx hb dX11_listWanted_120 rfl (lv_at hl 1 rfl) ?_
      obtain ⟨r_2, e_3, h⟩ := g_bind h
      refine G_av hY hA (va_runV (As := [.int x1]) (rest := []) ⟨hx, hb, hml, hown, hg⟩ (kX11_listBatch l D y aS H.size L hL ad N σ x1 _ e_3) (cwV 1 hg ggV_RX11_508_X11_listBatch rfl rfl rfl (by decide +kernel) ⟨Nat.le_of_ble_eq_true rfl, Nat.le_of_ble_eq_true rfl⟩) (G_pV (q := (RX11, TX11, 19)) hK hY (hL 0 (by decide)) gk_0 (by decide) rfl) rfl rfl hl.1 rfl (lv_room (Nat.le_of_ble_eq_true rfl)) dX11_listWanted_121 ⟨Nat.le_of_ble_eq_true rfl, Nat.le_of_ble_eq_true rfl⟩) ?_
      clear hY
      rintro H locs hY
      refine lv_iinc (v := (x1 + 1)) (lv' := [(1, .int (x1 + 1)), (0, .ref (ad 0))]) hx hb dX11_listWanted_124 hl (k := 1) rfl rfl (by decide) rfl ?_
      clear hl
      intro ls hl
      refine lv_goto (tgt := 105) hx hb dX11_listWanted_127 (by decide) ?_
      exact hrec105 _ _ _ hY (lv_sub hl [1, 0] rfl) h
end
def fX11_listWanted (N : Nat) (σ : gS) : Option gS := (fX11_formBatches N σ).bind fun r_1 => (fX11_lookAtFirstBatch N r_1).bind fun r_3 => (fX10_clear N r_3).bind fun r_5 => (fX0_isNarrowed N r_5).bind fun r_7 => if r_7 = 0 then (if (r_5.1 118 3) = 2 then ((fX8_whole N r_5 121 (r_5.1 118 6)).bind fun r_11 => (fX8_get N r_5 119 (r_5.1 118 6)).bind fun r_13 => (fX11_listTests N r_5 r_11 r_13 (0 : Int32)).bind fun r_15 => fX11_listWanted_130 N r_15) else (lp (fX11_listWanted_105 N) N (r_5, 0))) else ((fX11_failedForBad N r_5).bind fun r_17 => (fX8_get N r_5 119 (r_5.1 118 4)).bind fun r_19 => (fX11_listTests N r_5 r_17 r_19 (0 : Int32)).bind fun r_21 => fX11_listWanted_130 N r_21)
set_option maxRecDepth 100000 in
set_option maxHeartbeats 4000000 in
theorem kX11_listWanted (l : Launch) (D : va_G) (y : Nat → ClassId) (aS : Nat → Nat) (sz : Nat) (L : List Nat) (hL : ∀ k, k < 179 → k ∈ L) (ad : Nat → Nat) (N : Nat) (σ : gS) (res : gS) (h : fX11_listWanted N σ = some res) : Met l yX11_listWanted (Cond.code yX11_listWanted cX11_listWanted 2 none :: wsL_law) ({ frames := 4, cells := 0, slots := 0, locals := 102 } : Room) (va_Pc [.ref (ad 0)] (gI D y aS (GW L y ad σ) sz)) (va_Qv (fun (_ : Unit) => True) (fun _ => gO D (va_A (GW L y ad σ) sz) (GW L y ad res)) (va_A (GW L y ad σ) sz)) 0 0 (va_A (GW L y ad σ) sz) := by
  refine g_of (by decide) (Nat.le_of_ble_eq_true rfl) ?_
  intro p e s m below meth c ls A hx hb hr hml hown hg hlocks hin hsz hK hP hD hS hA hAe hl
  rw [← hAe]
  replace hown : s.vm.findClass RX11 = some m.cls := hown
  have hY : gY D y A s L ad σ s.heap [] := ⟨hP, hD, hS⟩
  clear hP hD hS
  replace hl : lv_has ls 2 [(0, .ref (ad 0))] := hl
  unfold fX11_listWanted at h
  refine lv_aload_n hx hb dX11_listWanted_0 rfl (lv_at hl 0 rfl) ?_
  obtain ⟨r_1, e_2, h⟩ := g_bind h
  refine G_av hY hA (va_runV (As := []) (rest := []) ⟨hx, hb, hml, hown, hg⟩ (kX11_formBatches l D y aS s.heap.size L hL ad N σ _ e_2) (cwV 0 hg ggV_RX11_204_X11_formBatches rfl rfl rfl (by decide +kernel) ⟨Nat.le_of_ble_eq_true rfl, Nat.le_of_ble_eq_true rfl⟩) (G_pV (q := (RX11, TX11, 19)) hK hY (hL 0 (by decide)) gk_0 (by decide) rfl) rfl rfl hl.1 rfl (lv_room (Nat.le_of_ble_eq_true rfl)) dX11_listWanted_1 ⟨Nat.le_of_ble_eq_true rfl, Nat.le_of_ble_eq_true rfl⟩) ?_
  clear hY
  rintro H locs hY
  refine lv_aload_n hx hb dX11_listWanted_4 rfl (lv_at hl 0 rfl) ?_
  obtain ⟨r_3, e_4, h⟩ := g_bind h
  refine G_av hY hA (va_runV (As := []) (rest := []) ⟨hx, hb, hml, hown, hg⟩ (kX11_lookAtFirstBatch l D y aS H.size L hL ad N r_1 _ e_4) (cwV 0 hg ggV_RX11_305_X11_lookAtFirstBatch rfl rfl rfl (by decide +kernel) ⟨Nat.le_of_ble_eq_true rfl, Nat.le_of_ble_eq_true rfl⟩) (G_pV (q := (RX11, TX11, 19)) hK hY (hL 0 (by decide)) gk_0 (by decide) rfl) rfl rfl hl.1 rfl (lv_room (Nat.le_of_ble_eq_true rfl)) dX11_listWanted_5 ⟨Nat.le_of_ble_eq_true rfl, Nat.le_of_ble_eq_true rfl⟩) ?_
  clear hY
  rintro H locs hY
  refine lv_aload_n hx hb dX11_listWanted_8 rfl (lv_at hl 0 rfl) ?_
  refine G_get (ci := 11) (j := 5) (C := RX11) (T := TX11) (N := 19) (v := .ref (ad 125)) hx hb hg inlX11 hown hK hY (hL 0 (by decide)) gk_0 (by decide) rfl (by decide) tX11_5 (hg _ gw_36) rfl dX11_listWanted_9 ?_
  obtain ⟨r_5, e_6, h⟩ := g_bind h
  refine G_av hY hA (va_runV (As := []) (rest := []) ⟨hx, hb, hml, hown, hg⟩ (kX10_clear l D y aS H.size L hL ad N r_3 _ e_6) (cwV 0 hg ggV_RX11_498_X10_clear rfl rfl rfl (by decide +kernel) ⟨Nat.le_of_ble_eq_true rfl, Nat.le_of_ble_eq_true rfl⟩) (G_pV (q := (RX10, TX10, 4)) hK hY (hL 125 (by decide)) gk_125 (by decide) rfl) rfl rfl hl.1 rfl (lv_room (Nat.le_of_ble_eq_true rfl)) dX11_listWanted_12 ⟨Nat.le_of_ble_eq_true rfl, Nat.le_of_ble_eq_true rfl⟩) ?_
  clear hY
  rintro H locs hY
  refine lv_aload_n hx hb dX11_listWanted_15 rfl (lv_at hl 0 rfl) ?_
  refine G_get (ci := 11) (j := 4) (C := RX11) (T := TX11) (N := 19) (v := .ref (ad 118)) hx hb hg inlX11 hown hK hY (hL 0 (by decide)) gk_0 (by decide) rfl (by decide) tX11_4 (hg _ gw_32) rfl dX11_listWanted_16 ?_
  obtain ⟨r_7, e_8, h⟩ := g_bind h
  refine G_ai hY hA (va_runV (As := []) (rest := []) ⟨hx, hb, hml, hown, hg⟩ (kX0_isNarrowed l D y aS H.size L hL ad N r_5 _ e_8) (cwV 0 hg ggV_RX11_308_X0_isNarrowed rfl rfl rfl (by decide +kernel) ⟨Nat.le_of_ble_eq_true rfl, Nat.le_of_ble_eq_true rfl⟩) (G_pV (q := (RX0, TX0, 7)) hK hY (hL 118 (by decide)) gk_118 (by decide) rfl) rfl rfl hl.1 rfl (lv_room (Nat.le_of_ble_eq_true rfl)) dX11_listWanted_19 ⟨Nat.le_of_ble_eq_true rfl, Nat.le_of_ble_eq_true rfl⟩) ?_
  clear hY
  rintro _ H locs rfl hY
  refine lv_if_eq (tgt := 54) hx hb dX11_listWanted_22 (by decide) (fun z_9 => ?_) (fun z_9 => ?_)
  ·
    rw [if_pos z_9] at h
    refine lv_aload_n hx hb dX11_listWanted_54 rfl (lv_at hl 0 rfl) ?_
    refine G_get (ci := 11) (j := 4) (C := RX11) (T := TX11) (N := 19) (v := .ref (ad 118)) hx hb hg inlX11 hown hK hY (hL 0 (by decide)) gk_0 (by decide) rfl (by decide) tX11_4 (hg _ gw_32) rfl dX11_listWanted_55 ?_
    refine G_get (ci := 0) (j := 3) (C := RX0) (T := TX0) (N := 7) (v := .int (r_5.1 118 3)) hx hb hg inlX0 hown hK hY (hL 118 (by decide)) gk_118 (by decide) rfl (by decide) tX0_3 (hg _ gw_580) rfl dX11_listWanted_58 ?_
    refine lv_iconst (v := 2) hx hb dX11_listWanted_61 (by decide) ?_
    refine lv_icmp_ne (tgt := 103) hx hb dX11_listWanted_62 (by decide) (fun z_10 => ?_) (fun z_10 => ?_)
    ·
      rw [if_neg z_10] at h
      refine lv_iconst (v := 0) hx hb dX11_listWanted_103 (by decide) ?_
      refine lv_istore_n (lv' := [(1, .int 0), (0, .ref (ad 0))]) hx hb dX11_listWanted_104 rfl hl (by decide) rfl ?_
      clear hl
      intro ls hl
      exact wX11_listWanted_105 hx hb hr hml hown hg hlocks hK hA hL N _ _ _ hY (lv_sub hl [1, 0] rfl) h
    ·
      rw [if_pos z_10] at h
      refine lv_aload_n hx hb dX11_listWanted_65 rfl (lv_at hl 0 rfl) ?_
      refine G_get (ci := 11) (j := 4) (C := RX11) (T := TX11) (N := 19) (v := .ref (ad 118)) hx hb hg inlX11 hown hK hY (hL 0 (by decide)) gk_0 (by decide) rfl (by decide) tX11_4 (hg _ gw_32) rfl dX11_listWanted_66 ?_
      refine G_get (ci := 0) (j := 6) (C := RX0) (T := TX0) (N := 7) (v := .int (r_5.1 118 6)) hx hb hg inlX0 hown hK hY (hL 118 (by decide)) gk_118 (by decide) rfl (by decide) tX0_6 (hg _ gw_582) rfl dX11_listWanted_69 ?_
      refine lv_istore_n (lv' := [(1, .int (r_5.1 118 6)), (0, .ref (ad 0))]) hx hb dX11_listWanted_72 rfl hl (by decide) rfl ?_
      clear hl
      intro ls hl
      refine lv_aload_n hx hb dX11_listWanted_73 rfl (lv_at hl 1 rfl) ?_
      refine lv_aload_n hx hb dX11_listWanted_74 rfl (lv_at hl 1 rfl) ?_
      refine G_get (ci := 11) (j := 4) (C := RX11) (T := TX11) (N := 19) (v := .ref (ad 118)) hx hb hg inlX11 hown hK hY (hL 0 (by decide)) gk_0 (by decide) rfl (by decide) tX11_4 (hg _ gw_32) rfl dX11_listWanted_75 ?_
      refine G_get (ci := 0) (j := 1) (C := RX0) (T := TX0) (N := 7) (v := .ref (ad 121)) hx hb hg inlX0 hown hK hY (hL 118 (by decide)) gk_118 (by decide) rfl (by decide) tX0_1 (hg _ gw_607) rfl dX11_listWanted_78 ?_
      refine lv_iload_n hx hb dX11_listWanted_81 rfl (lv_at hl 0 rfl) ?_
      obtain ⟨r_11, e_12, h⟩ := g_bind h
      refine G_ai hY hA (va_runV (As := [.int (r_5.1 118 6)]) (rest := [.ref (ad 0)]) ⟨hx, hb, hml, hown, hg⟩ (kX8_whole l D y aS H.size L hL ad N r_5 121 (r_5.1 118 6) _ gk_121 e_12) (cwV 1 hg ggV_RX11_187_X8_whole rfl rfl rfl (by decide +kernel) ⟨Nat.le_of_ble_eq_true rfl, Nat.le_of_ble_eq_true rfl⟩) (G_pV (q := (RX8, TX8, 2)) hK hY (hL 121 (by decide)) gk_121 (by decide) rfl) rfl rfl hl.1 rfl (lv_room (Nat.le_of_ble_eq_true rfl)) dX11_listWanted_82 ⟨Nat.le_of_ble_eq_true rfl, Nat.le_of_ble_eq_true rfl⟩) ?_
      clear hY
      rintro _ H locs rfl hY
      refine lv_aload_n hx hb dX11_listWanted_85 rfl (lv_at hl 1 rfl) ?_
      refine G_get (ci := 11) (j := 4) (C := RX11) (T := TX11) (N := 19) (v := .ref (ad 118)) hx hb hg inlX11 hown hK hY (hL 0 (by decide)) gk_0 (by decide) rfl (by decide) tX11_4 (hg _ gw_32) rfl dX11_listWanted_86 ?_
      refine G_get (ci := 0) (j := 0) (C := RX0) (T := TX0) (N := 7) (v := .ref (ad 119)) hx hb hg inlX0 hown hK hY (hL 118 (by decide)) gk_118 (by decide) rfl (by decide) tX0_0 (hg _ gw_608) rfl dX11_listWanted_89 ?_
      refine lv_iload_n hx hb dX11_listWanted_92 rfl (lv_at hl 0 rfl) ?_
      obtain ⟨r_13, e_14, h⟩ := g_bind h
      refine G_al hY hA (va_runV (As := [.int (r_5.1 118 6)]) (rest := [.int r_11, .ref (ad 0)]) ⟨hx, hb, hml, hown, hg⟩ (kX8_get l D y aS H.size L hL ad N r_5 119 (r_5.1 118 6) _ gk_119 e_14) (cwV 1 hg ggV_RX11_218_X8_get rfl rfl rfl (by decide +kernel) ⟨Nat.le_of_ble_eq_true rfl, Nat.le_of_ble_eq_true rfl⟩) (G_pV (q := (RX8, TX8, 2)) hK hY (hL 119 (by decide)) gk_119 (by decide) rfl) rfl rfl hl.1 rfl (lv_room (Nat.le_of_ble_eq_true rfl)) dX11_listWanted_93 ⟨Nat.le_of_ble_eq_true rfl, Nat.le_of_ble_eq_true rfl⟩) ?_
      clear hY
      rintro _ H locs rfl hY
      refine lv_iconst (v := 0) hx hb dX11_listWanted_96 (by decide) ?_
      obtain ⟨r_15, e_16, h⟩ := g_bind h
      refine G_av hY hA (va_runV (As := [.int r_11, .long r_13, .int 0]) (rest := []) ⟨hx, hb, hml, hown, hg⟩ (kX11_listTests l D y aS H.size L hL ad N r_5 r_11 r_13 (0 : Int32) _ e_16) (cwV 3 hg ggV_RX11_501_X11_listTests rfl rfl rfl (by decide +kernel) ⟨Nat.le_of_ble_eq_true rfl, Nat.le_of_ble_eq_true rfl⟩) (G_pV (q := (RX11, TX11, 19)) hK hY (hL 0 (by decide)) gk_0 (by decide) rfl) rfl rfl hl.1 rfl (lv_room (Nat.le_of_ble_eq_true rfl)) dX11_listWanted_97 ⟨Nat.le_of_ble_eq_true rfl, Nat.le_of_ble_eq_true rfl⟩) ?_
      clear hY
      rintro H locs hY
      refine lv_goto (tgt := 130) hx hb dX11_listWanted_100 (by decide) ?_
      exact wX11_listWanted_130 hx hb hr hml hown hg hlocks hK hA hL hY (lv_sub hl [1] rfl) h
  ·
    rw [if_neg z_9] at h
    refine lv_aload_n hx hb dX11_listWanted_25 rfl (lv_at hl 0 rfl) ?_
    refine lv_aload_n hx hb dX11_listWanted_26 rfl (lv_at hl 0 rfl) ?_
    obtain ⟨r_17, e_18, h⟩ := g_bind h
    refine G_ai hY hA (va_runV (As := []) (rest := [.ref (ad 0)]) ⟨hx, hb, hml, hown, hg⟩ (kX11_failedForBad l D y aS H.size L hL ad N r_5 _ e_18) (cwV 0 hg ggV_RX11_459_X11_failedForBad rfl rfl rfl (by decide +kernel) ⟨Nat.le_of_ble_eq_true rfl, Nat.le_of_ble_eq_true rfl⟩) (G_pV (q := (RX11, TX11, 19)) hK hY (hL 0 (by decide)) gk_0 (by decide) rfl) rfl rfl hl.1 rfl (lv_room (Nat.le_of_ble_eq_true rfl)) dX11_listWanted_27 ⟨Nat.le_of_ble_eq_true rfl, Nat.le_of_ble_eq_true rfl⟩) ?_
    clear hY
    rintro _ H locs rfl hY
    refine lv_aload_n hx hb dX11_listWanted_30 rfl (lv_at hl 0 rfl) ?_
    refine G_get (ci := 11) (j := 4) (C := RX11) (T := TX11) (N := 19) (v := .ref (ad 118)) hx hb hg inlX11 hown hK hY (hL 0 (by decide)) gk_0 (by decide) rfl (by decide) tX11_4 (hg _ gw_32) rfl dX11_listWanted_31 ?_
    refine G_get (ci := 0) (j := 0) (C := RX0) (T := TX0) (N := 7) (v := .ref (ad 119)) hx hb hg inlX0 hown hK hY (hL 118 (by decide)) gk_118 (by decide) rfl (by decide) tX0_0 (hg _ gw_608) rfl dX11_listWanted_34 ?_
    refine lv_aload_n hx hb dX11_listWanted_37 rfl (lv_at hl 0 rfl) ?_
    refine G_get (ci := 11) (j := 4) (C := RX11) (T := TX11) (N := 19) (v := .ref (ad 118)) hx hb hg inlX11 hown hK hY (hL 0 (by decide)) gk_0 (by decide) rfl (by decide) tX11_4 (hg _ gw_32) rfl dX11_listWanted_38 ?_
    refine G_get (ci := 0) (j := 4) (C := RX0) (T := TX0) (N := 7) (v := .int (r_5.1 118 4)) hx hb hg inlX0 hown hK hY (hL 118 (by decide)) gk_118 (by decide) rfl (by decide) tX0_4 (hg _ gw_581) rfl dX11_listWanted_41 ?_
    obtain ⟨r_19, e_20, h⟩ := g_bind h
    refine G_al hY hA (va_runV (As := [.int (r_5.1 118 4)]) (rest := [.int r_17, .ref (ad 0)]) ⟨hx, hb, hml, hown, hg⟩ (kX8_get l D y aS H.size L hL ad N r_5 119 (r_5.1 118 4) _ gk_119 e_20) (cwV 1 hg ggV_RX11_218_X8_get rfl rfl rfl (by decide +kernel) ⟨Nat.le_of_ble_eq_true rfl, Nat.le_of_ble_eq_true rfl⟩) (G_pV (q := (RX8, TX8, 2)) hK hY (hL 119 (by decide)) gk_119 (by decide) rfl) rfl rfl hl.1 rfl (lv_room (Nat.le_of_ble_eq_true rfl)) dX11_listWanted_44 ⟨Nat.le_of_ble_eq_true rfl, Nat.le_of_ble_eq_true rfl⟩) ?_
    clear hY
    rintro _ H locs rfl hY
    refine lv_iconst (v := 0) hx hb dX11_listWanted_47 (by decide) ?_
    obtain ⟨r_21, e_22, h⟩ := g_bind h
    refine G_av hY hA (va_runV (As := [.int r_17, .long r_19, .int 0]) (rest := []) ⟨hx, hb, hml, hown, hg⟩ (kX11_listTests l D y aS H.size L hL ad N r_5 r_17 r_19 (0 : Int32) _ e_22) (cwV 3 hg ggV_RX11_501_X11_listTests rfl rfl rfl (by decide +kernel) ⟨Nat.le_of_ble_eq_true rfl, Nat.le_of_ble_eq_true rfl⟩) (G_pV (q := (RX11, TX11, 19)) hK hY (hL 0 (by decide)) gk_0 (by decide) rfl) rfl rfl hl.1 rfl (lv_room (Nat.le_of_ble_eq_true rfl)) dX11_listWanted_48 ⟨Nat.le_of_ble_eq_true rfl, Nat.le_of_ble_eq_true rfl⟩) ?_
    clear hY
    rintro H locs hY
    refine lv_goto (tgt := 130) hx hb dX11_listWanted_51 (by decide) ?_
    exact wX11_listWanted_130 hx hb hr hml hown hg hlocks hK hA hL hY (lv_sub hl [0] rfl) h
theorem ggV_RX11_541_X6_take : GoodIn wsL_law (wsV RX11 541 RX6 yX6_take (Cond.code yX6_take cX6_take 5 (some .int) :: wsL_law)) := g_gi (fun _ h => h) gW_good (List.forall_mem_cons.mpr ⟨⟨gw_873, rfl⟩, List.forall_mem_cons.mpr ⟨⟨gw_874, rfl⟩, List.forall_mem_cons.mpr ⟨⟨gw_875, rfl⟩, List.forall_mem_cons.mpr ⟨⟨gw_44, rfl⟩, fun _ h => nomatch h⟩⟩⟩⟩) ⟨gw_876, rfl⟩
theorem ggV_RX11_527_X10_firstFor : GoodIn wsL_law (wsV RX11 527 RX10 yX10_firstFor (Cond.code yX10_firstFor cX10_firstFor 4 (some .int) :: wsL_law)) := g_gi (fun _ h => h) gW_good (List.forall_mem_cons.mpr ⟨⟨gw_865, rfl⟩, List.forall_mem_cons.mpr ⟨⟨gw_866, rfl⟩, List.forall_mem_cons.mpr ⟨⟨gw_867, rfl⟩, List.forall_mem_cons.mpr ⟨⟨gw_35, rfl⟩, fun _ h => nomatch h⟩⟩⟩⟩) ⟨gw_868, rfl⟩
section
variable {p : Program} {l : Launch} {e : Env} {s : State} {m : MethodId} {args : Array Value} {below : List Frame} {meth : Method} {c : Code} {D : va_G} {y : Nat → ClassId} {aS : Nat → Nat} {A : Nat → Prop} {L : List Nat} {ad : Nat → Nat} {N : Nat} {res : Int32}
def fX11_teamInTurn_67 (N : Nat) (rec4 : (Int32 × Int32) → Option Int32) (σ : gS) (x1 : Int32) (x2 : Int32) : Option Int32 := rec4 (x1, (x2 + 1))
set_option maxRecDepth 100000 in
set_option maxHeartbeats 4000000 in
theorem wX11_teamInTurn_67 {rec4 : (Int32 × Int32) → Option Int32} {σ : gS} {x1 : Int32} {x2 : Int32} (hx : p.tables.exec = Jvm.exec) (hb : c.code = cX11_teamInTurn) (hr : meth.sig.returnType = (some .int)) (hml : c.maxLocals = 3) (hown : s.vm.findClass RX11 = some m.cls) (hg : ∀ w ∈ wsL_law, w.before args s = true) (hlocks : meth.locks = false) (hK : gK D y aS s) (hA : ∀ q, s.heap.size ≤ q → A q) (hL : ∀ k, k < 179 → k ∈ L) (hrec4 : ∀ {x1n9 : Int32} {x2n9 : Int32} (H : Heap) (locs : List Loc) (ls : Array Slot), gY D y A s L ad σ H locs → lv_has ls 3 [(0, .ref (ad 0)), (1, .int x1n9), (2, .int x2n9)] → rec4 (x1n9, x2n9) = some res → W p l e ({ frames := 2, cells := 0, slots := 0, locals := 44 } : Room) s m args below meth c H locs 0 0 (MQ below (va_Qi (fun (r : Int32) (_ : Unit) => r = res) (fun _ => gO D A (GW L y ad σ)) A) args s 0 0 A) (F0 m 4 ls [])) {H : Heap} {locs : List Loc} {ls : Array Slot} (hY : gY D y A s L ad σ H locs) (hl : lv_has ls 3 [(0, .ref (ad 0)), (1, .int x1), (2, .int x2)]) (h : fX11_teamInTurn_67 N rec4 σ x1 x2 = some res) : W p l e ({ frames := 2, cells := 0, slots := 0, locals := 44 } : Room) s m args below meth c H locs 0 0 (MQ below (va_Qi (fun (r : Int32) (_ : Unit) => r = res) (fun _ => gO D A (GW L y ad σ)) A) args s 0 0 A) (F0 m 67 ls []) := by
  unfold fX11_teamInTurn_67 at h
  refine lv_iinc (v := (x2 + 1)) (lv' := [(2, .int (x2 + 1)), (0, .ref (ad 0)), (1, .int x1)]) hx hb dX11_teamInTurn_67 hl (k := 2) rfl rfl (by decide) rfl ?_
  clear hl
  intro ls hl
  refine lv_goto (tgt := 4) hx hb dX11_teamInTurn_70 (by decide) ?_
  exact hrec4 _ _ _ hY (lv_sub hl [1, 2, 0] rfl) h
def fX11_teamInTurn_65 (N : Nat) (rec4 : (Int32 × Int32) → Option Int32) (σ : gS) (x2 : Int32) : Option Int32 := fX11_teamInTurn_67 N rec4 σ x2 x2
set_option maxRecDepth 100000 in
set_option maxHeartbeats 4000000 in
theorem wX11_teamInTurn_65 {rec4 : (Int32 × Int32) → Option Int32} {σ : gS} {x2 : Int32} (hx : p.tables.exec = Jvm.exec) (hb : c.code = cX11_teamInTurn) (hr : meth.sig.returnType = (some .int)) (hml : c.maxLocals = 3) (hown : s.vm.findClass RX11 = some m.cls) (hg : ∀ w ∈ wsL_law, w.before args s = true) (hlocks : meth.locks = false) (hK : gK D y aS s) (hA : ∀ q, s.heap.size ≤ q → A q) (hL : ∀ k, k < 179 → k ∈ L) (hrec4 : ∀ {x1n9 : Int32} {x2n9 : Int32} (H : Heap) (locs : List Loc) (ls : Array Slot), gY D y A s L ad σ H locs → lv_has ls 3 [(0, .ref (ad 0)), (1, .int x1n9), (2, .int x2n9)] → rec4 (x1n9, x2n9) = some res → W p l e ({ frames := 2, cells := 0, slots := 0, locals := 44 } : Room) s m args below meth c H locs 0 0 (MQ below (va_Qi (fun (r : Int32) (_ : Unit) => r = res) (fun _ => gO D A (GW L y ad σ)) A) args s 0 0 A) (F0 m 4 ls [])) {H : Heap} {locs : List Loc} {ls : Array Slot} (hY : gY D y A s L ad σ H locs) (hl : lv_has ls 3 [(0, .ref (ad 0)), (2, .int x2)]) (h : fX11_teamInTurn_65 N rec4 σ x2 = some res) : W p l e ({ frames := 2, cells := 0, slots := 0, locals := 44 } : Room) s m args below meth c H locs 0 0 (MQ below (va_Qi (fun (r : Int32) (_ : Unit) => r = res) (fun _ => gO D A (GW L y ad σ)) A) args s 0 0 A) (F0 m 65 ls []) := by
  unfold fX11_teamInTurn_65 at h
  refine lv_iload_n hx hb dX11_teamInTurn_65 rfl (lv_at hl 1 rfl) ?_
  refine lv_istore_n (lv' := [(1, .int x2), (0, .ref (ad 0)), (2, .int x2)]) hx hb dX11_teamInTurn_66 rfl hl (by decide) rfl ?_
  clear hl
  intro ls hl
  exact wX11_teamInTurn_67 hx hb hr hml hown hg hlocks hK hA hL hrec4 hY (lv_sub hl [1, 0, 2] rfl) h
def fX11_teamInTurn_4 (N : Nat) (σ : gS) (rec4 : (Int32 × Int32) → Option Int32) (xx : Int32 × Int32) : Option Int32 := match xx with
  | (x1, x2) => if 3 ≤ x2 then (some x1) else ((fX10_firstFor N σ (1 : Int32) x2).bind fun r_2 => if r_2 = (-1) then (fX11_teamInTurn_67 N rec4 σ x1 x2) else (if x1 = (-1) then (fX11_teamInTurn_65 N rec4 σ x2) else ((fX8_get N σ 157 x2).bind fun r_6 => (fX8_get N σ 155 x1).bind fun r_8 => (fX8_get N σ 157 x1).bind fun r_10 => (fX8_get N σ 155 x2).bind fun r_12 => if 0 ≤ (lg_cmp (r_6 * r_8) (r_10 * r_12)) then (fX11_teamInTurn_67 N rec4 σ x1 x2) else (fX11_teamInTurn_65 N rec4 σ x2))))
set_option maxRecDepth 100000 in
set_option maxHeartbeats 4000000 in
theorem wX11_teamInTurn_4 {σ : gS} (hx : p.tables.exec = Jvm.exec) (hb : c.code = cX11_teamInTurn) (hr : meth.sig.returnType = (some .int)) (hml : c.maxLocals = 3) (hown : s.vm.findClass RX11 = some m.cls) (hg : ∀ w ∈ wsL_law, w.before args s = true) (hlocks : meth.locks = false) (hK : gK D y aS s) (hA : ∀ q, s.heap.size ≤ q → A q) (hL : ∀ k, k < 179 → k ∈ L) : ∀ (n : Nat) {x1 : Int32} {x2 : Int32} (H : Heap) (locs : List Loc) (ls : Array Slot), gY D y A s L ad σ H locs → lv_has ls 3 [(0, .ref (ad 0)), (1, .int x1), (2, .int x2)] → lp (fX11_teamInTurn_4 N σ) n (x1, x2) = some res → W p l e ({ frames := 2, cells := 0, slots := 0, locals := 44 } : Room) s m args below meth c H locs 0 0 (MQ below (va_Qi (fun (r : Int32) (_ : Unit) => r = res) (fun _ => gO D A (GW L y ad σ)) A) args s 0 0 A) (F0 m 4 ls []) := by
  intro n
  induction n with
  | zero => intro x1 x2 H locs ls hY hl h; exact nomatch (show none = some res from h)
  | succ n hrec4 =>
    intro x1 x2 H locs ls hY hl h
    replace h : fX11_teamInTurn_4 N σ (lp (fX11_teamInTurn_4 N σ) n) (x1, x2) = some res := h
    generalize lp (fX11_teamInTurn_4 N σ) n = rec4 at h hrec4
    unfold fX11_teamInTurn_4 at h
    try dsimp only at h
    refine lv_iload_n hx hb dX11_teamInTurn_4 rfl (lv_at hl 2 rfl) ?_
    refine lv_iconst (v := 3) hx hb dX11_teamInTurn_5 (by decide) ?_
    refine lv_icmp_ge (tgt := 73) hx hb dX11_teamInTurn_6 (by decide) (fun z_1 => ?_) (fun z_1 => ?_)
    ·
      rw [if_pos z_1] at h
      refine lv_iload_n hx hb dX11_teamInTurn_73 rfl (lv_at hl 1 rfl) ?_
      cases h
      exact g_iret hx hb hr hlocks () hY.1 hY.2.1 hY.2.2 rfl rfl (Nat.le_of_ble_eq_true rfl) (Nat.le_of_ble_eq_true rfl) dX11_teamInTurn_74
    ·
      rw [if_neg z_1] at h
      refine lv_aload_n hx hb dX11_teamInTurn_9 rfl (lv_at hl 0 rfl) ?_
      refine G_get (ci := 11) (j := 5) (C := RX11) (T := TX11) (N := 19) (v := .ref (ad 125)) hx hb hg inlX11 hown hK hY (hL 0 (by decide)) gk_0 (by decide) rfl (by decide) tX11_5 (hg _ gw_36) rfl dX11_teamInTurn_10 ?_
      refine lv_iconst (v := 1) hx hb dX11_teamInTurn_13 (by decide) ?_
      refine lv_iload_n hx hb dX11_teamInTurn_14 rfl (lv_at hl 2 rfl) ?_
      obtain ⟨r_2, e_3, h⟩ := g_bind h
      refine G_ai hY hA (va_runV (As := [.int 1, .int x2]) (rest := []) ⟨hx, hb, hml, hown, hg⟩ (kX10_firstFor l D y aS H.size L hL ad N σ (1 : Int32) x2 _ e_3) (cwV 2 hg ggV_RX11_527_X10_firstFor rfl rfl rfl (by decide +kernel) ⟨Nat.le_of_ble_eq_true rfl, Nat.le_of_ble_eq_true rfl⟩) (G_pV (q := (RX10, TX10, 4)) hK hY (hL 125 (by decide)) gk_125 (by decide) rfl) rfl rfl hl.1 rfl (lv_room (Nat.le_of_ble_eq_true rfl)) dX11_teamInTurn_15 ⟨Nat.le_of_ble_eq_true rfl, Nat.le_of_ble_eq_true rfl⟩) ?_
      clear hY
      rintro _ H locs rfl hY
      refine lv_iconst (v := (-1)) hx hb dX11_teamInTurn_18 (by decide) ?_
      refine lv_icmp_eq (tgt := 67) hx hb dX11_teamInTurn_19 (by decide) (fun z_4 => ?_) (fun z_4 => ?_)
      ·
        rw [if_pos z_4] at h
        exact wX11_teamInTurn_67 hx hb hr hml hown hg hlocks hK hA hL hrec4 hY (lv_sub hl [0, 1, 2] rfl) h
      ·
        rw [if_neg z_4] at h
        refine lv_iload_n hx hb dX11_teamInTurn_22 rfl (lv_at hl 1 rfl) ?_
        refine lv_iconst (v := (-1)) hx hb dX11_teamInTurn_23 (by decide) ?_
        refine lv_icmp_eq (tgt := 65) hx hb dX11_teamInTurn_24 (by decide) (fun z_5 => ?_) (fun z_5 => ?_)
        ·
          rw [if_pos z_5] at h
          exact wX11_teamInTurn_65 hx hb hr hml hown hg hlocks hK hA hL hrec4 hY (lv_sub hl [0, 2] rfl) h
        ·
          rw [if_neg z_5] at h
          refine lv_aload_n hx hb dX11_teamInTurn_27 rfl (lv_at hl 0 rfl) ?_
          refine G_get (ci := 11) (j := 12) (C := RX11) (T := TX11) (N := 19) (v := .ref (ad 157)) hx hb hg inlX11 hown hK hY (hL 0 (by decide)) gk_0 (by decide) rfl (by decide) tX11_12 (hg _ gw_53) rfl dX11_teamInTurn_28 ?_
          refine lv_iload_n hx hb dX11_teamInTurn_31 rfl (lv_at hl 2 rfl) ?_
          obtain ⟨r_6, e_7, h⟩ := g_bind h
          refine G_al hY hA (va_runV (As := [.int x2]) (rest := []) ⟨hx, hb, hml, hown, hg⟩ (kX8_get l D y aS H.size L hL ad N σ 157 x2 _ gk_157 e_7) (cwV 1 hg ggV_RX11_218_X8_get rfl rfl rfl (by decide +kernel) ⟨Nat.le_of_ble_eq_true rfl, Nat.le_of_ble_eq_true rfl⟩) (G_pV (q := (RX8, TX8, 2)) hK hY (hL 157 (by decide)) gk_157 (by decide) rfl) rfl rfl hl.1 rfl (lv_room (Nat.le_of_ble_eq_true rfl)) dX11_teamInTurn_32 ⟨Nat.le_of_ble_eq_true rfl, Nat.le_of_ble_eq_true rfl⟩) ?_
          clear hY
          rintro _ H locs rfl hY
          refine lv_aload_n hx hb dX11_teamInTurn_35 rfl (lv_at hl 0 rfl) ?_
          refine G_get (ci := 11) (j := 11) (C := RX11) (T := TX11) (N := 19) (v := .ref (ad 155)) hx hb hg inlX11 hown hK hY (hL 0 (by decide)) gk_0 (by decide) rfl (by decide) tX11_11 (hg _ gw_52) rfl dX11_teamInTurn_36 ?_
          refine lv_iload_n hx hb dX11_teamInTurn_39 rfl (lv_at hl 1 rfl) ?_
          obtain ⟨r_8, e_9, h⟩ := g_bind h
          refine G_al hY hA (va_runV (As := [.int x1]) (rest := [.long r_6]) ⟨hx, hb, hml, hown, hg⟩ (kX8_get l D y aS H.size L hL ad N σ 155 x1 _ gk_155 e_9) (cwV 1 hg ggV_RX11_218_X8_get rfl rfl rfl (by decide +kernel) ⟨Nat.le_of_ble_eq_true rfl, Nat.le_of_ble_eq_true rfl⟩) (G_pV (q := (RX8, TX8, 2)) hK hY (hL 155 (by decide)) gk_155 (by decide) rfl) rfl rfl hl.1 rfl (lv_room (Nat.le_of_ble_eq_true rfl)) dX11_teamInTurn_40 ⟨Nat.le_of_ble_eq_true rfl, Nat.le_of_ble_eq_true rfl⟩) ?_
          clear hY
          rintro _ H locs rfl hY
          refine lv_lmul hx hb dX11_teamInTurn_43 ?_
          refine lv_aload_n hx hb dX11_teamInTurn_44 rfl (lv_at hl 0 rfl) ?_
          refine G_get (ci := 11) (j := 12) (C := RX11) (T := TX11) (N := 19) (v := .ref (ad 157)) hx hb hg inlX11 hown hK hY (hL 0 (by decide)) gk_0 (by decide) rfl (by decide) tX11_12 (hg _ gw_53) rfl dX11_teamInTurn_45 ?_
          refine lv_iload_n hx hb dX11_teamInTurn_48 rfl (lv_at hl 1 rfl) ?_
          obtain ⟨r_10, e_11, h⟩ := g_bind h
          refine G_al hY hA (va_runV (As := [.int x1]) (rest := [.long (r_6 * r_8)]) ⟨hx, hb, hml, hown, hg⟩ (kX8_get l D y aS H.size L hL ad N σ 157 x1 _ gk_157 e_11) (cwV 1 hg ggV_RX11_218_X8_get rfl rfl rfl (by decide +kernel) ⟨Nat.le_of_ble_eq_true rfl, Nat.le_of_ble_eq_true rfl⟩) (G_pV (q := (RX8, TX8, 2)) hK hY (hL 157 (by decide)) gk_157 (by decide) rfl) rfl rfl hl.1 rfl (lv_room (Nat.le_of_ble_eq_true rfl)) dX11_teamInTurn_49 ⟨Nat.le_of_ble_eq_true rfl, Nat.le_of_ble_eq_true rfl⟩) ?_
          clear hY
          rintro _ H locs rfl hY
          refine lv_aload_n hx hb dX11_teamInTurn_52 rfl (lv_at hl 0 rfl) ?_
          refine G_get (ci := 11) (j := 11) (C := RX11) (T := TX11) (N := 19) (v := .ref (ad 155)) hx hb hg inlX11 hown hK hY (hL 0 (by decide)) gk_0 (by decide) rfl (by decide) tX11_11 (hg _ gw_52) rfl dX11_teamInTurn_53 ?_
          refine lv_iload_n hx hb dX11_teamInTurn_56 rfl (lv_at hl 2 rfl) ?_
          obtain ⟨r_12, e_13, h⟩ := g_bind h
          refine G_al hY hA (va_runV (As := [.int x2]) (rest := [.long r_10, .long (r_6 * r_8)]) ⟨hx, hb, hml, hown, hg⟩ (kX8_get l D y aS H.size L hL ad N σ 155 x2 _ gk_155 e_13) (cwV 1 hg ggV_RX11_218_X8_get rfl rfl rfl (by decide +kernel) ⟨Nat.le_of_ble_eq_true rfl, Nat.le_of_ble_eq_true rfl⟩) (G_pV (q := (RX8, TX8, 2)) hK hY (hL 155 (by decide)) gk_155 (by decide) rfl) rfl rfl hl.1 rfl (lv_room (Nat.le_of_ble_eq_true rfl)) dX11_teamInTurn_57 ⟨Nat.le_of_ble_eq_true rfl, Nat.le_of_ble_eq_true rfl⟩) ?_
          clear hY
          rintro _ H locs rfl hY
          refine lv_lmul hx hb dX11_teamInTurn_60 ?_
          refine W.lcmp hx hb dX11_teamInTurn_61 ?_
          refine lv_if_ge (tgt := 67) hx hb dX11_teamInTurn_62 (by decide) (fun z_14 => ?_) (fun z_14 => ?_)
          ·
            rw [if_pos z_14] at h
            exact wX11_teamInTurn_67 hx hb hr hml hown hg hlocks hK hA hL hrec4 hY (lv_sub hl [0, 1, 2] rfl) h
          ·
            rw [if_neg z_14] at h
            exact wX11_teamInTurn_65 hx hb hr hml hown hg hlocks hK hA hL hrec4 hY (lv_sub hl [0, 2] rfl) h
end
def fX11_teamInTurn (N : Nat) (σ : gS) : Option Int32 := lp (fX11_teamInTurn_4 N σ) N ((-1), 0)
set_option maxRecDepth 100000 in
set_option maxHeartbeats 4000000 in
theorem kX11_teamInTurn (l : Launch) (D : va_G) (y : Nat → ClassId) (aS : Nat → Nat) (sz : Nat) (L : List Nat) (hL : ∀ k, k < 179 → k ∈ L) (ad : Nat → Nat) (N : Nat) (σ : gS) (res : Int32) (h : fX11_teamInTurn N σ = some res) : Met l yX11_teamInTurn (Cond.code yX11_teamInTurn cX11_teamInTurn 3 (some .int) :: wsL_law) ({ frames := 2, cells := 0, slots := 0, locals := 44 } : Room) (va_Pc [.ref (ad 0)] (gI D y aS (GW L y ad σ) sz)) (va_Qi (fun (r : Int32) (_ : Unit) => r = res) (fun _ => gO D (va_A (GW L y ad σ) sz) (GW L y ad σ)) (va_A (GW L y ad σ) sz)) 0 0 (va_A (GW L y ad σ) sz) := by
  refine g_of (by decide) (Nat.le_of_ble_eq_true rfl) ?_
  intro p e s m below meth c ls A hx hb hr hml hown hg hlocks hin hsz hK hP hD hS hA hAe hl
  rw [← hAe]
  replace hown : s.vm.findClass RX11 = some m.cls := hown
  have hY : gY D y A s L ad σ s.heap [] := ⟨hP, hD, hS⟩
  clear hP hD hS
  replace hl : lv_has ls 3 [(0, .ref (ad 0))] := hl
  unfold fX11_teamInTurn at h
  refine lv_iconst (v := (-1)) hx hb dX11_teamInTurn_0 (by decide) ?_
  refine lv_istore_n (lv' := [(1, .int (-1)), (0, .ref (ad 0))]) hx hb dX11_teamInTurn_1 rfl hl (by decide) rfl ?_
  clear hl
  intro ls hl
  refine lv_iconst (v := 0) hx hb dX11_teamInTurn_2 (by decide) ?_
  refine lv_istore_n (lv' := [(2, .int 0), (1, .int (-1)), (0, .ref (ad 0))]) hx hb dX11_teamInTurn_3 rfl hl (by decide) rfl ?_
  clear hl
  intro ls hl
  exact wX11_teamInTurn_4 hx hb hr hml hown hg hlocks hK hA hL N _ _ _ hY (lv_sub hl [2, 1, 0] rfl) h
theorem ggV_RX11_530_X11_teamInTurn : GoodIn wsL_law (wsV RX11 530 RX11 yX11_teamInTurn (Cond.code yX11_teamInTurn cX11_teamInTurn 3 (some .int) :: wsL_law)) := g_gi (fun _ h => h) gW_good (List.forall_mem_cons.mpr ⟨⟨gw_869, rfl⟩, List.forall_mem_cons.mpr ⟨⟨gw_870, rfl⟩, List.forall_mem_cons.mpr ⟨⟨gw_871, rfl⟩, List.forall_mem_cons.mpr ⟨⟨gw_2, rfl⟩, fun _ h => nomatch h⟩⟩⟩⟩) ⟨gw_872, rfl⟩
section
variable {p : Program} {l : Launch} {e : Env} {s : State} {m : MethodId} {args : Array Value} {below : List Frame} {meth : Method} {c : Code} {D : va_G} {y : Nat → ClassId} {aS : Nat → Nat} {A : Nat → Prop} {L : List Nat} {ad : Nat → Nat} {N : Nat} {res : gS}
def fX11_takeWanted_125 (N : Nat) (σ : gS) (x2 : Int32) : Option gS := (fX8_set N σ 132 x2 (3 : Int64)).bind fun r_1 => some r_1
set_option maxRecDepth 100000 in
set_option maxHeartbeats 4000000 in
theorem wX11_takeWanted_125 {σ : gS} {x2 : Int32} (hx : p.tables.exec = Jvm.exec) (hb : c.code = cX11_takeWanted) (hr : meth.sig.returnType = none) (hml : c.maxLocals = 5) (hown : s.vm.findClass RX11 = some m.cls) (hg : ∀ w ∈ wsL_law, w.before args s = true) (hlocks : meth.locks = false) (hK : gK D y aS s) (hA : ∀ q, s.heap.size ≤ q → A q) (hL : ∀ k, k < 179 → k ∈ L) {H : Heap} {locs : List Loc} {ls : Array Slot} (hY : gY D y A s L ad σ H locs) (hl : lv_has ls 5 [(0, .ref (ad 0)), (2, .int x2)]) (h : fX11_takeWanted_125 N σ x2 = some res) : W p l e ({ frames := 3, cells := 0, slots := 0, locals := 66 } : Room) s m args below meth c H locs 0 0 (MQ below (va_Qv (fun (_ : Unit) => True) (fun _ => gO D A (GW L y ad res)) A) args s 0 0 A) (F0 m 125 ls []) := by
  unfold fX11_takeWanted_125 at h
  refine lv_aload_n hx hb dX11_takeWanted_125 rfl (lv_at hl 0 rfl) ?_
  refine G_get (ci := 11) (j := 5) (C := RX11) (T := TX11) (N := 19) (v := .ref (ad 125)) hx hb hg inlX11 hown hK hY (hL 0 (by decide)) gk_0 (by decide) rfl (by decide) tX11_5 (hg _ gw_36) rfl dX11_takeWanted_126 ?_
  refine G_get (ci := 10) (j := 3) (C := RX10) (T := TX10) (N := 4) (v := .ref (ad 132)) hx hb hg inlX10 hown hK hY (hL 125 (by decide)) gk_125 (by decide) rfl (by decide) tX10_3 (hg _ gw_863) rfl dX11_takeWanted_129 ?_
  refine lv_iload_n hx hb dX11_takeWanted_132 rfl (lv_at hl 1 rfl) ?_
  refine lv_ldc2 (v := 3) hx hb hown (hg _ gw_864) dX11_takeWanted_133 ?_
  obtain ⟨r_1, e_2, h⟩ := g_bind h
  refine G_av hY hA (va_runV (As := [.int x2, .long 3]) (rest := []) ⟨hx, hb, hml, hown, hg⟩ (kX8_set l D y aS H.size L hL ad N σ 132 x2 (3 : Int64) _ gk_132 e_2) (cwV 2 hg ggV_RX11_190_X8_set rfl rfl rfl (by decide +kernel) ⟨Nat.le_of_ble_eq_true rfl, Nat.le_of_ble_eq_true rfl⟩) (G_pV (q := (RX8, TX8, 2)) hK hY (hL 132 (by decide)) gk_132 (by decide) rfl) rfl rfl hl.1 rfl (lv_room (Nat.le_of_ble_eq_true rfl)) dX11_takeWanted_136 ⟨Nat.le_of_ble_eq_true rfl, Nat.le_of_ble_eq_true rfl⟩) ?_
  clear hY
  rintro H locs hY
  cases h
  exact g_vret hx hb hr hlocks () hY.1 hY.2.1 hY.2.2 trivial (Nat.le_of_ble_eq_true rfl) (Nat.le_of_ble_eq_true rfl) dX11_takeWanted_139
def fX11_takeWanted_47 (N : Nat) (σ : gS) (r1 : Nat) (x2 : Int32) : Option gS := if x2 = (-1) then (some σ) else ((fX8_whole N σ 130 x2).bind fun r_2 => (fX8_whole N σ 126 x2).bind fun r_4 => (fX7_at N σ r_4).bind fun r_6 => (fX8_get N σ 128 x2).bind fun r_9 => (fX6_take N σ r1 r_6 r_9).bind fun r_11 => if r_2 = (-1) then (fX11_takeWanted_125 N r_11.2 x2) else ((fX8_get N r_11.2 157 r_2).bind fun r_14 => (fX8_set N r_11.2 157 r_2 (r_14 + (r_11.1.toInt64))).bind fun r_16 => fX11_takeWanted_125 N r_16 x2))
set_option maxRecDepth 100000 in
set_option maxHeartbeats 4000000 in
theorem wX11_takeWanted_47 {σ : gS} {r1 : Nat} {x2 : Int32} (hx : p.tables.exec = Jvm.exec) (hb : c.code = cX11_takeWanted) (hr : meth.sig.returnType = none) (hml : c.maxLocals = 5) (hown : s.vm.findClass RX11 = some m.cls) (hg : ∀ w ∈ wsL_law, w.before args s = true) (hlocks : meth.locks = false) (hK : gK D y aS s) (hA : ∀ q, s.heap.size ≤ q → A q) (hL : ∀ k, k < 179 → k ∈ L) (hr1 : gcl r1 = 6) {H : Heap} {locs : List Loc} {ls : Array Slot} (hY : gY D y A s L ad σ H locs) (hl : lv_has ls 5 [(0, .ref (ad 0)), (1, .ref (ad r1)), (2, .int x2)]) (h : fX11_takeWanted_47 N σ r1 x2 = some res) : W p l e ({ frames := 3, cells := 0, slots := 0, locals := 66 } : Room) s m args below meth c H locs 0 0 (MQ below (va_Qv (fun (_ : Unit) => True) (fun _ => gO D A (GW L y ad res)) A) args s 0 0 A) (F0 m 47 ls []) := by
  unfold fX11_takeWanted_47 at h
  refine lv_iload_n hx hb dX11_takeWanted_47 rfl (lv_at hl 2 rfl) ?_
  refine lv_iconst (v := (-1)) hx hb dX11_takeWanted_48 (by decide) ?_
  refine lv_icmp_ne (tgt := 53) hx hb dX11_takeWanted_49 (by decide) (fun z_1 => ?_) (fun z_1 => ?_)
  ·
    rw [if_neg z_1] at h
    refine lv_aload_n hx hb dX11_takeWanted_53 rfl (lv_at hl 0 rfl) ?_
    refine G_get (ci := 11) (j := 5) (C := RX11) (T := TX11) (N := 19) (v := .ref (ad 125)) hx hb hg inlX11 hown hK hY (hL 0 (by decide)) gk_0 (by decide) rfl (by decide) tX11_5 (hg _ gw_36) rfl dX11_takeWanted_54 ?_
    refine G_get (ci := 10) (j := 2) (C := RX10) (T := TX10) (N := 4) (v := .ref (ad 130)) hx hb hg inlX10 hown hK hY (hL 125 (by decide)) gk_125 (by decide) rfl (by decide) tX10_2 (hg _ gw_860) rfl dX11_takeWanted_57 ?_
    refine lv_iload_n hx hb dX11_takeWanted_60 rfl (lv_at hl 2 rfl) ?_
    obtain ⟨r_2, e_3, h⟩ := g_bind h
    refine G_ai hY hA (va_runV (As := [.int x2]) (rest := []) ⟨hx, hb, hml, hown, hg⟩ (kX8_whole l D y aS H.size L hL ad N σ 130 x2 _ gk_130 e_3) (cwV 1 hg ggV_RX11_187_X8_whole rfl rfl rfl (by decide +kernel) ⟨Nat.le_of_ble_eq_true rfl, Nat.le_of_ble_eq_true rfl⟩) (G_pV (q := (RX8, TX8, 2)) hK hY (hL 130 (by decide)) gk_130 (by decide) rfl) rfl rfl hl.1 rfl (lv_room (Nat.le_of_ble_eq_true rfl)) dX11_takeWanted_61 ⟨Nat.le_of_ble_eq_true rfl, Nat.le_of_ble_eq_true rfl⟩) ?_
    clear hY
    rintro _ H locs rfl hY
    refine lv_istore_n (lv' := [(3, .int r_2), (0, .ref (ad 0)), (1, .ref (ad r1)), (2, .int x2)]) hx hb dX11_takeWanted_64 rfl hl (by decide) rfl ?_
    clear hl
    intro ls hl
    refine lv_aload_n hx hb dX11_takeWanted_65 rfl (lv_at hl 2 rfl) ?_
    refine lv_aload_n hx hb dX11_takeWanted_66 rfl (lv_at hl 1 rfl) ?_
    refine G_get (ci := 11) (j := 1) (C := RX11) (T := TX11) (N := 19) (v := .ref (ad 65)) hx hb hg inlX11 hown hK hY (hL 0 (by decide)) gk_0 (by decide) rfl (by decide) tX11_1 (hg _ gw_20) rfl dX11_takeWanted_67 ?_
    refine lv_aload_n hx hb dX11_takeWanted_70 rfl (lv_at hl 1 rfl) ?_
    refine G_get (ci := 11) (j := 5) (C := RX11) (T := TX11) (N := 19) (v := .ref (ad 125)) hx hb hg inlX11 hown hK hY (hL 0 (by decide)) gk_0 (by decide) rfl (by decide) tX11_5 (hg _ gw_36) rfl dX11_takeWanted_71 ?_
    refine G_get (ci := 10) (j := 0) (C := RX10) (T := TX10) (N := 4) (v := .ref (ad 126)) hx hb hg inlX10 hown hK hY (hL 125 (by decide)) gk_125 (by decide) rfl (by decide) tX10_0 (hg _ gw_861) rfl dX11_takeWanted_74 ?_
    refine lv_iload_n hx hb dX11_takeWanted_77 rfl (lv_at hl 3 rfl) ?_
    obtain ⟨r_4, e_5, h⟩ := g_bind h
    refine G_ai hY hA (va_runV (As := [.int x2]) (rest := [.ref (ad 65), .ref (ad r1)]) ⟨hx, hb, hml, hown, hg⟩ (kX8_whole l D y aS H.size L hL ad N σ 126 x2 _ gk_126 e_5) (cwV 1 hg ggV_RX11_187_X8_whole rfl rfl rfl (by decide +kernel) ⟨Nat.le_of_ble_eq_true rfl, Nat.le_of_ble_eq_true rfl⟩) (G_pV (q := (RX8, TX8, 2)) hK hY (hL 126 (by decide)) gk_126 (by decide) rfl) rfl rfl hl.1 rfl (lv_room (Nat.le_of_ble_eq_true rfl)) dX11_takeWanted_78 ⟨Nat.le_of_ble_eq_true rfl, Nat.le_of_ble_eq_true rfl⟩) ?_
    clear hY
    rintro _ H locs rfl hY
    obtain ⟨r_6, e_7, h⟩ := g_bind h
    refine G_ar hY hA (va_runV (As := [.int r_4]) (rest := [.ref (ad r1)]) ⟨hx, hb, hml, hown, hg⟩ (kX7_at l D y aS H.size L hL ad N σ r_4 _ e_7) (cwV 1 hg ggV_RX11_237_X7_at rfl rfl rfl (by decide +kernel) ⟨Nat.le_of_ble_eq_true rfl, Nat.le_of_ble_eq_true rfl⟩) (G_pV (q := (RX7, TX7, 6)) hK hY (hL 65 (by decide)) gk_65 (by decide) rfl) rfl rfl hl.1 rfl (lv_room (Nat.le_of_ble_eq_true rfl)) dX11_takeWanted_81 ⟨Nat.le_of_ble_eq_true rfl, Nat.le_of_ble_eq_true rfl⟩) ?_
    clear hY
    rintro H locs k_8 hY
    refine lv_aload_n hx hb dX11_takeWanted_84 rfl (lv_at hl 1 rfl) ?_
    refine G_get (ci := 11) (j := 5) (C := RX11) (T := TX11) (N := 19) (v := .ref (ad 125)) hx hb hg inlX11 hown hK hY (hL 0 (by decide)) gk_0 (by decide) rfl (by decide) tX11_5 (hg _ gw_36) rfl dX11_takeWanted_85 ?_
    refine G_get (ci := 10) (j := 1) (C := RX10) (T := TX10) (N := 4) (v := .ref (ad 128)) hx hb hg inlX10 hown hK hY (hL 125 (by decide)) gk_125 (by decide) rfl (by decide) tX10_1 (hg _ gw_862) rfl dX11_takeWanted_88 ?_
    refine lv_iload_n hx hb dX11_takeWanted_91 rfl (lv_at hl 3 rfl) ?_
    obtain ⟨r_9, e_10, h⟩ := g_bind h
    refine G_al hY hA (va_runV (As := [.int x2]) (rest := [.ref (ad r_6), .ref (ad r1)]) ⟨hx, hb, hml, hown, hg⟩ (kX8_get l D y aS H.size L hL ad N σ 128 x2 _ gk_128 e_10) (cwV 1 hg ggV_RX11_218_X8_get rfl rfl rfl (by decide +kernel) ⟨Nat.le_of_ble_eq_true rfl, Nat.le_of_ble_eq_true rfl⟩) (G_pV (q := (RX8, TX8, 2)) hK hY (hL 128 (by decide)) gk_128 (by decide) rfl) rfl rfl hl.1 rfl (lv_room (Nat.le_of_ble_eq_true rfl)) dX11_takeWanted_92 ⟨Nat.le_of_ble_eq_true rfl, Nat.le_of_ble_eq_true rfl⟩) ?_
    clear hY
    rintro _ H locs rfl hY
    obtain ⟨r_11, e_12, h⟩ := g_bind h
    refine G_ai hY hA (va_runV (As := [.ref (ad r_6), .long r_9]) (rest := []) ⟨hx, hb, hml, hown, hg⟩ (kX6_take l D y aS H.size L hL ad N σ r1 r_6 r_9 _ hr1 k_8 e_12) (cwV 2 hg ggV_RX11_541_X6_take rfl rfl rfl (by decide +kernel) ⟨Nat.le_of_ble_eq_true rfl, Nat.le_of_ble_eq_true rfl⟩) (G_pV (q := (RX6, TX6, 6)) hK hY (hL _ (gcl_lt hr1 (by decide))) hr1 (by decide) rfl) rfl rfl hl.1 rfl (lv_room (Nat.le_of_ble_eq_true rfl)) dX11_takeWanted_95 ⟨Nat.le_of_ble_eq_true rfl, Nat.le_of_ble_eq_true rfl⟩) ?_
    clear hY
    rintro _ H locs rfl hY
    refine lv_istore (lv' := [(4, .int r_11.1), (3, .int r_2), (0, .ref (ad 0)), (1, .ref (ad r1)), (2, .int x2)]) hx hb dX11_takeWanted_98 hl (by decide) rfl ?_
    clear hl
    intro ls hl
    refine lv_iload_n hx hb dX11_takeWanted_100 rfl (lv_at hl 1 rfl) ?_
    refine lv_iconst (v := (-1)) hx hb dX11_takeWanted_101 (by decide) ?_
    refine lv_icmp_eq (tgt := 125) hx hb dX11_takeWanted_102 (by decide) (fun z_13 => ?_) (fun z_13 => ?_)
    ·
      rw [if_pos z_13] at h
      exact wX11_takeWanted_125 hx hb hr hml hown hg hlocks hK hA hL hY (lv_sub hl [2, 4] rfl) h
    ·
      rw [if_neg z_13] at h
      refine lv_aload_n hx hb dX11_takeWanted_105 rfl (lv_at hl 2 rfl) ?_
      refine G_get (ci := 11) (j := 12) (C := RX11) (T := TX11) (N := 19) (v := .ref (ad 157)) hx hb hg inlX11 hown hK hY (hL 0 (by decide)) gk_0 (by decide) rfl (by decide) tX11_12 (hg _ gw_53) rfl dX11_takeWanted_106 ?_
      refine lv_iload_n hx hb dX11_takeWanted_109 rfl (lv_at hl 1 rfl) ?_
      refine lv_aload_n hx hb dX11_takeWanted_110 rfl (lv_at hl 2 rfl) ?_
      refine G_get (ci := 11) (j := 12) (C := RX11) (T := TX11) (N := 19) (v := .ref (ad 157)) hx hb hg inlX11 hown hK hY (hL 0 (by decide)) gk_0 (by decide) rfl (by decide) tX11_12 (hg _ gw_53) rfl dX11_takeWanted_111 ?_
      refine lv_iload_n hx hb dX11_takeWanted_114 rfl (lv_at hl 1 rfl) ?_
      obtain ⟨r_14, e_15, h⟩ := g_bind h
      refine G_al hY hA (va_runV (As := [.int r_2]) (rest := [.int r_2, .ref (ad 157)]) ⟨hx, hb, hml, hown, hg⟩ (kX8_get l D y aS H.size L hL ad N r_11.2 157 r_2 _ gk_157 e_15) (cwV 1 hg ggV_RX11_218_X8_get rfl rfl rfl (by decide +kernel) ⟨Nat.le_of_ble_eq_true rfl, Nat.le_of_ble_eq_true rfl⟩) (G_pV (q := (RX8, TX8, 2)) hK hY (hL 157 (by decide)) gk_157 (by decide) rfl) rfl rfl hl.1 rfl (lv_room (Nat.le_of_ble_eq_true rfl)) dX11_takeWanted_115 ⟨Nat.le_of_ble_eq_true rfl, Nat.le_of_ble_eq_true rfl⟩) ?_
      clear hY
      rintro _ H locs rfl hY
      refine lv_iload hx hb dX11_takeWanted_118 (lv_at hl 0 rfl) ?_
      refine lv_i2l (v := (r_11.1.toInt64)) hx hb dX11_takeWanted_120 rfl ?_
      refine lv_ladd hx hb dX11_takeWanted_121 ?_
      obtain ⟨r_16, e_17, h⟩ := g_bind h
      refine G_av hY hA (va_runV (As := [.int r_2, .long (r_14 + (r_11.1.toInt64))]) (rest := []) ⟨hx, hb, hml, hown, hg⟩ (kX8_set l D y aS H.size L hL ad N r_11.2 157 r_2 (r_14 + (r_11.1.toInt64)) _ gk_157 e_17) (cwV 2 hg ggV_RX11_190_X8_set rfl rfl rfl (by decide +kernel) ⟨Nat.le_of_ble_eq_true rfl, Nat.le_of_ble_eq_true rfl⟩) (G_pV (q := (RX8, TX8, 2)) hK hY (hL 157 (by decide)) gk_157 (by decide) rfl) rfl rfl hl.1 rfl (lv_room (Nat.le_of_ble_eq_true rfl)) dX11_takeWanted_122 ⟨Nat.le_of_ble_eq_true rfl, Nat.le_of_ble_eq_true rfl⟩) ?_
      clear hY
      rintro H locs hY
      exact wX11_takeWanted_125 hx hb hr hml hown hg hlocks hK hA hL hY (lv_sub hl [2, 4] rfl) h
  ·
    rw [if_pos z_1] at h
    cases h
    exact g_vret hx hb hr hlocks () hY.1 hY.2.1 hY.2.2 trivial (Nat.le_of_ble_eq_true rfl) (Nat.le_of_ble_eq_true rfl) dX11_takeWanted_52
def fX11_takeWanted_46 (N : Nat) (σ : gS) (r1 : Nat) (xs0 : Int32) : Option gS := fX11_takeWanted_47 N σ r1 xs0
set_option maxRecDepth 100000 in
set_option maxHeartbeats 4000000 in
theorem wX11_takeWanted_46 {σ : gS} {r1 : Nat} {xs0 : Int32} (hx : p.tables.exec = Jvm.exec) (hb : c.code = cX11_takeWanted) (hr : meth.sig.returnType = none) (hml : c.maxLocals = 5) (hown : s.vm.findClass RX11 = some m.cls) (hg : ∀ w ∈ wsL_law, w.before args s = true) (hlocks : meth.locks = false) (hK : gK D y aS s) (hA : ∀ q, s.heap.size ≤ q → A q) (hL : ∀ k, k < 179 → k ∈ L) (hr1 : gcl r1 = 6) {H : Heap} {locs : List Loc} {ls : Array Slot} (hY : gY D y A s L ad σ H locs) (hl : lv_has ls 5 [(0, .ref (ad 0)), (1, .ref (ad r1))]) (h : fX11_takeWanted_46 N σ r1 xs0 = some res) : W p l e ({ frames := 3, cells := 0, slots := 0, locals := 66 } : Room) s m args below meth c H locs 0 0 (MQ below (va_Qv (fun (_ : Unit) => True) (fun _ => gO D A (GW L y ad res)) A) args s 0 0 A) (F0 m 46 ls [.int xs0]) := by
  unfold fX11_takeWanted_46 at h
  refine lv_istore_n (lv' := [(2, .int xs0), (0, .ref (ad 0)), (1, .ref (ad r1))]) hx hb dX11_takeWanted_46 rfl hl (by decide) rfl ?_
  clear hl
  intro ls hl
  exact wX11_takeWanted_47 hx hb hr hml hown hg hlocks hK hA hL hr1 hY (lv_sub hl [1, 2, 0] rfl) h
end
def fX11_takeWanted (N : Nat) (σ : gS) (r1 : Nat) : Option gS := (fX10_firstFor N σ (0 : Int32) ((-1) : Int32)).bind fun r_1 => if r_1 = (-1) then ((fX11_teamInTurn N σ).bind fun r_4 => if r_4 = (-1) then ((fX10_firstFor N σ (2 : Int32) ((-1) : Int32)).bind fun r_9 => fX11_takeWanted_46 N σ r1 r_9) else ((fX10_firstFor N σ (1 : Int32) r_4).bind fun r_7 => fX11_takeWanted_46 N σ r1 r_7)) else (fX11_takeWanted_47 N σ r1 r_1)
set_option maxRecDepth 100000 in
set_option maxHeartbeats 4000000 in
theorem kX11_takeWanted (l : Launch) (D : va_G) (y : Nat → ClassId) (aS : Nat → Nat) (sz : Nat) (L : List Nat) (hL : ∀ k, k < 179 → k ∈ L) (ad : Nat → Nat) (N : Nat) (σ : gS) (r1 : Nat) (res : gS) (hr1 : gcl r1 = 6) (h : fX11_takeWanted N σ r1 = some res) : Met l yX11_takeWanted (Cond.code yX11_takeWanted cX11_takeWanted 5 none :: wsL_law) ({ frames := 3, cells := 0, slots := 0, locals := 66 } : Room) (va_Pc [.ref (ad 0), .ref (ad r1)] (gI D y aS (GW L y ad σ) sz)) (va_Qv (fun (_ : Unit) => True) (fun _ => gO D (va_A (GW L y ad σ) sz) (GW L y ad res)) (va_A (GW L y ad σ) sz)) 0 0 (va_A (GW L y ad σ) sz) := by
  refine g_of (by decide) (Nat.le_of_ble_eq_true rfl) ?_
  intro p e s m below meth c ls A hx hb hr hml hown hg hlocks hin hsz hK hP hD hS hA hAe hl
  rw [← hAe]
  replace hown : s.vm.findClass RX11 = some m.cls := hown
  have hY : gY D y A s L ad σ s.heap [] := ⟨hP, hD, hS⟩
  clear hP hD hS
  replace hl : lv_has ls 5 [(0, .ref (ad 0)), (1, .ref (ad r1))] := hl
  unfold fX11_takeWanted at h
  refine lv_aload_n hx hb dX11_takeWanted_0 rfl (lv_at hl 0 rfl) ?_
  refine G_get (ci := 11) (j := 5) (C := RX11) (T := TX11) (N := 19) (v := .ref (ad 125)) hx hb hg inlX11 hown hK hY (hL 0 (by decide)) gk_0 (by decide) rfl (by decide) tX11_5 (hg _ gw_36) rfl dX11_takeWanted_1 ?_
  refine lv_iconst (v := 0) hx hb dX11_takeWanted_4 (by decide) ?_
  refine lv_iconst (v := (-1)) hx hb dX11_takeWanted_5 (by decide) ?_
  obtain ⟨r_1, e_2, h⟩ := g_bind h
  refine G_ai hY hA (va_runV (As := [.int 0, .int (-1)]) (rest := []) ⟨hx, hb, hml, hown, hg⟩ (kX10_firstFor l D y aS s.heap.size L hL ad N σ (0 : Int32) ((-1) : Int32) _ e_2) (cwV 2 hg ggV_RX11_527_X10_firstFor rfl rfl rfl (by decide +kernel) ⟨Nat.le_of_ble_eq_true rfl, Nat.le_of_ble_eq_true rfl⟩) (G_pV (q := (RX10, TX10, 4)) hK hY (hL 125 (by decide)) gk_125 (by decide) rfl) rfl rfl hl.1 rfl (lv_room (Nat.le_of_ble_eq_true rfl)) dX11_takeWanted_6 ⟨Nat.le_of_ble_eq_true rfl, Nat.le_of_ble_eq_true rfl⟩) ?_
  clear hY
  rintro _ H locs rfl hY
  refine lv_istore_n (lv' := [(2, .int r_1), (0, .ref (ad 0)), (1, .ref (ad r1))]) hx hb dX11_takeWanted_9 rfl hl (by decide) rfl ?_
  clear hl
  intro ls hl
  refine lv_iload_n hx hb dX11_takeWanted_10 rfl (lv_at hl 0 rfl) ?_
  refine lv_iconst (v := (-1)) hx hb dX11_takeWanted_11 (by decide) ?_
  refine lv_icmp_ne (tgt := 47) hx hb dX11_takeWanted_12 (by decide) (fun z_3 => ?_) (fun z_3 => ?_)
  ·
    rw [if_neg z_3] at h
    exact wX11_takeWanted_47 hx hb hr hml hown hg hlocks hK hA hL hr1 hY (lv_sub hl [1, 2, 0] rfl) h
  ·
    rw [if_pos z_3] at h
    refine lv_aload_n hx hb dX11_takeWanted_15 rfl (lv_at hl 1 rfl) ?_
    obtain ⟨r_4, e_5, h⟩ := g_bind h
    refine G_ai hY hA (va_runV (As := []) (rest := []) ⟨hx, hb, hml, hown, hg⟩ (kX11_teamInTurn l D y aS H.size L hL ad N σ _ e_5) (cwV 0 hg ggV_RX11_530_X11_teamInTurn rfl rfl rfl (by decide +kernel) ⟨Nat.le_of_ble_eq_true rfl, Nat.le_of_ble_eq_true rfl⟩) (G_pV (q := (RX11, TX11, 19)) hK hY (hL 0 (by decide)) gk_0 (by decide) rfl) rfl rfl hl.1 rfl (lv_room (Nat.le_of_ble_eq_true rfl)) dX11_takeWanted_16 ⟨Nat.le_of_ble_eq_true rfl, Nat.le_of_ble_eq_true rfl⟩) ?_
    clear hY
    rintro _ H locs rfl hY
    refine lv_istore_n (lv' := [(3, .int r_4), (2, .int r_1), (0, .ref (ad 0)), (1, .ref (ad r1))]) hx hb dX11_takeWanted_19 rfl hl (by decide) rfl ?_
    clear hl
    intro ls hl
    refine lv_iload_n hx hb dX11_takeWanted_20 rfl (lv_at hl 0 rfl) ?_
    refine lv_iconst (v := (-1)) hx hb dX11_takeWanted_21 (by decide) ?_
    refine lv_icmp_ne (tgt := 37) hx hb dX11_takeWanted_22 (by decide) (fun z_6 => ?_) (fun z_6 => ?_)
    ·
      rw [if_neg z_6] at h
      refine lv_aload_n hx hb dX11_takeWanted_37 rfl (lv_at hl 2 rfl) ?_
      refine G_get (ci := 11) (j := 5) (C := RX11) (T := TX11) (N := 19) (v := .ref (ad 125)) hx hb hg inlX11 hown hK hY (hL 0 (by decide)) gk_0 (by decide) rfl (by decide) tX11_5 (hg _ gw_36) rfl dX11_takeWanted_38 ?_
      refine lv_iconst (v := 1) hx hb dX11_takeWanted_41 (by decide) ?_
      refine lv_iload_n hx hb dX11_takeWanted_42 rfl (lv_at hl 0 rfl) ?_
      obtain ⟨r_7, e_8, h⟩ := g_bind h
      refine G_ai hY hA (va_runV (As := [.int 1, .int r_4]) (rest := []) ⟨hx, hb, hml, hown, hg⟩ (kX10_firstFor l D y aS H.size L hL ad N σ (1 : Int32) r_4 _ e_8) (cwV 2 hg ggV_RX11_527_X10_firstFor rfl rfl rfl (by decide +kernel) ⟨Nat.le_of_ble_eq_true rfl, Nat.le_of_ble_eq_true rfl⟩) (G_pV (q := (RX10, TX10, 4)) hK hY (hL 125 (by decide)) gk_125 (by decide) rfl) rfl rfl hl.1 rfl (lv_room (Nat.le_of_ble_eq_true rfl)) dX11_takeWanted_43 ⟨Nat.le_of_ble_eq_true rfl, Nat.le_of_ble_eq_true rfl⟩) ?_
      clear hY
      rintro _ H locs rfl hY
      exact wX11_takeWanted_46 hx hb hr hml hown hg hlocks hK hA hL hr1 hY (lv_sub hl [2, 3] rfl) h
    ·
      rw [if_pos z_6] at h
      refine lv_aload_n hx hb dX11_takeWanted_25 rfl (lv_at hl 2 rfl) ?_
      refine G_get (ci := 11) (j := 5) (C := RX11) (T := TX11) (N := 19) (v := .ref (ad 125)) hx hb hg inlX11 hown hK hY (hL 0 (by decide)) gk_0 (by decide) rfl (by decide) tX11_5 (hg _ gw_36) rfl dX11_takeWanted_26 ?_
      refine lv_iconst (v := 2) hx hb dX11_takeWanted_29 (by decide) ?_
      refine lv_iconst (v := (-1)) hx hb dX11_takeWanted_30 (by decide) ?_
      obtain ⟨r_9, e_10, h⟩ := g_bind h
      refine G_ai hY hA (va_runV (As := [.int 2, .int (-1)]) (rest := []) ⟨hx, hb, hml, hown, hg⟩ (kX10_firstFor l D y aS H.size L hL ad N σ (2 : Int32) ((-1) : Int32) _ e_10) (cwV 2 hg ggV_RX11_527_X10_firstFor rfl rfl rfl (by decide +kernel) ⟨Nat.le_of_ble_eq_true rfl, Nat.le_of_ble_eq_true rfl⟩) (G_pV (q := (RX10, TX10, 4)) hK hY (hL 125 (by decide)) gk_125 (by decide) rfl) rfl rfl hl.1 rfl (lv_room (Nat.le_of_ble_eq_true rfl)) dX11_takeWanted_31 ⟨Nat.le_of_ble_eq_true rfl, Nat.le_of_ble_eq_true rfl⟩) ?_
      clear hY
      rintro _ H locs rfl hY
      refine lv_goto (tgt := 46) hx hb dX11_takeWanted_34 (by decide) ?_
      exact wX11_takeWanted_46 hx hb hr hml hown hg hlocks hK hA hL hr1 hY (lv_sub hl [2, 3] rfl) h
