def dt26_X0_start : List (Nat × Instr × Nat) := [(0, (.aload_n 0, 1)), (1, (.getfield 14, 3)), (4, (.iconst 0, 1)), (5, (.putfield 26, 3)), (8, (.aload_n 0, 1)), (9, (.getfield 20, 3)), (12, (.iconst 0, 1)), (13, (.putfield 26, 3)), (16, (.aload_n 0, 1)), (17, (.getfield 23, 3)), (20, (.iconst 0, 1)), (21, (.putfield 26, 3)), (24, (.aload_n 0, 1)), (25, (.getfield 14, 3)), (28, (.lload_n 1, 1)), (29, (.invokevirtual 30, 3)), (32, (.aload_n 0, 1)), (33, (.getfield 20, 3)), (36, (.lconst 0, 1)), (37, (.invokevirtual 30, 3)), (40, (.aload_n 0, 1)), (41, (.getfield 23, 3)), (44, (.lconst 0, 1)), (45, (.invokevirtual 30, 3)), (48, (.aload_n 0, 1)), (49, (.iconst 0, 1)), (50, (.putfield 34, 3)), (53, (.aload_n 0, 1)), (54, (.iconst 0, 1)), (55, (.putfield 37, 3)), (58, (.aload_n 0, 1)), (59, (.iconst (-1), 1)), (60, (.putfield 40, 3)), (63, (.return_, 1))]
theorem dt26_X0_start_ok : ∀ q ∈ dt26_X0_start, decode cX0_start q.1 = .ok q.2 := by decide +kernel
theorem dX0_start_0 : decode cX0_start 0 = .ok (.aload_n 0, 1) := g_dec dt26_X0_start_ok (k := 0) rfl
theorem dX0_start_1 : decode cX0_start 1 = .ok (.getfield 14, 3) := g_dec dt26_X0_start_ok (k := 1) rfl
theorem dX0_start_4 : decode cX0_start 4 = .ok (.iconst 0, 1) := g_dec dt26_X0_start_ok (k := 2) rfl
theorem dX0_start_5 : decode cX0_start 5 = .ok (.putfield 26, 3) := g_dec dt26_X0_start_ok (k := 3) rfl
theorem dX0_start_8 : decode cX0_start 8 = .ok (.aload_n 0, 1) := g_dec dt26_X0_start_ok (k := 4) rfl
theorem dX0_start_9 : decode cX0_start 9 = .ok (.getfield 20, 3) := g_dec dt26_X0_start_ok (k := 5) rfl
theorem dX0_start_12 : decode cX0_start 12 = .ok (.iconst 0, 1) := g_dec dt26_X0_start_ok (k := 6) rfl
theorem dX0_start_13 : decode cX0_start 13 = .ok (.putfield 26, 3) := g_dec dt26_X0_start_ok (k := 7) rfl
theorem dX0_start_16 : decode cX0_start 16 = .ok (.aload_n 0, 1) := g_dec dt26_X0_start_ok (k := 8) rfl
theorem dX0_start_17 : decode cX0_start 17 = .ok (.getfield 23, 3) := g_dec dt26_X0_start_ok (k := 9) rfl
theorem dX0_start_20 : decode cX0_start 20 = .ok (.iconst 0, 1) := g_dec dt26_X0_start_ok (k := 10) rfl
theorem dX0_start_21 : decode cX0_start 21 = .ok (.putfield 26, 3) := g_dec dt26_X0_start_ok (k := 11) rfl
theorem dX0_start_24 : decode cX0_start 24 = .ok (.aload_n 0, 1) := g_dec dt26_X0_start_ok (k := 12) rfl
theorem dX0_start_25 : decode cX0_start 25 = .ok (.getfield 14, 3) := g_dec dt26_X0_start_ok (k := 13) rfl
theorem dX0_start_28 : decode cX0_start 28 = .ok (.lload_n 1, 1) := g_dec dt26_X0_start_ok (k := 14) rfl
theorem dX0_start_29 : decode cX0_start 29 = .ok (.invokevirtual 30, 3) := g_dec dt26_X0_start_ok (k := 15) rfl
theorem dX0_start_32 : decode cX0_start 32 = .ok (.aload_n 0, 1) := g_dec dt26_X0_start_ok (k := 16) rfl
theorem dX0_start_33 : decode cX0_start 33 = .ok (.getfield 20, 3) := g_dec dt26_X0_start_ok (k := 17) rfl
theorem dX0_start_36 : decode cX0_start 36 = .ok (.lconst 0, 1) := g_dec dt26_X0_start_ok (k := 18) rfl
theorem dX0_start_37 : decode cX0_start 37 = .ok (.invokevirtual 30, 3) := g_dec dt26_X0_start_ok (k := 19) rfl
theorem dX0_start_40 : decode cX0_start 40 = .ok (.aload_n 0, 1) := g_dec dt26_X0_start_ok (k := 20) rfl
theorem dX0_start_41 : decode cX0_start 41 = .ok (.getfield 23, 3) := g_dec dt26_X0_start_ok (k := 21) rfl
theorem dX0_start_44 : decode cX0_start 44 = .ok (.lconst 0, 1) := g_dec dt26_X0_start_ok (k := 22) rfl
theorem dX0_start_45 : decode cX0_start 45 = .ok (.invokevirtual 30, 3) := g_dec dt26_X0_start_ok (k := 23) rfl
theorem dX0_start_48 : decode cX0_start 48 = .ok (.aload_n 0, 1) := g_dec dt26_X0_start_ok (k := 24) rfl
theorem dX0_start_49 : decode cX0_start 49 = .ok (.iconst 0, 1) := g_dec dt26_X0_start_ok (k := 25) rfl
theorem dX0_start_50 : decode cX0_start 50 = .ok (.putfield 34, 3) := g_dec dt26_X0_start_ok (k := 26) rfl
theorem dX0_start_53 : decode cX0_start 53 = .ok (.aload_n 0, 1) := g_dec dt26_X0_start_ok (k := 27) rfl
theorem dX0_start_54 : decode cX0_start 54 = .ok (.iconst 0, 1) := g_dec dt26_X0_start_ok (k := 28) rfl
theorem dX0_start_55 : decode cX0_start 55 = .ok (.putfield 37, 3) := g_dec dt26_X0_start_ok (k := 29) rfl
theorem dX0_start_58 : decode cX0_start 58 = .ok (.aload_n 0, 1) := g_dec dt26_X0_start_ok (k := 30) rfl
theorem dX0_start_59 : decode cX0_start 59 = .ok (.iconst (-1), 1) := g_dec dt26_X0_start_ok (k := 31) rfl
theorem dX0_start_60 : decode cX0_start 60 = .ok (.putfield 40, 3) := g_dec dt26_X0_start_ok (k := 32) rfl
theorem dX0_start_63 : decode cX0_start 63 = .ok (.return_, 1) := g_dec dt26_X0_start_ok (k := 33) rfl
def dt27_X0_add : List (Nat × Instr × Nat) := [(0, (.aload_n 0, 1)), (1, (.getfield 14, 3)), (4, (.aload_n 1, 1)), (5, (.aload_n 0, 1)), (6, (.getfield 14, 3)), (9, (.aload_n 0, 1)), (10, (.getfield 37, 3)), (13, (.invokevirtual 43, 3)), (16, (.invokevirtual 47, 3)), (19, (.invokevirtual 30, 3)), (22, (.aload_n 0, 1)), (23, (.getfield 20, 3)), (26, (.aload_n 0, 1)), (27, (.getfield 20, 3)), (30, (.aload_n 0, 1)), (31, (.getfield 37, 3)), (34, (.invokevirtual 43, 3)), (37, (.aload_n 1, 1)), (38, (.getfield 53, 3)), (41, (.i2l, 1)), (42, (.lor, 1)), (43, (.invokevirtual 30, 3)), (46, (.aload_n 0, 1)), (47, (.getfield 23, 3)), (50, (.aload_n 0, 1)), (51, (.getfield 23, 3)), (54, (.aload_n 0, 1)), (55, (.getfield 37, 3)), (58, (.invokevirtual 43, 3)), (61, (.iload_n 2, 1)), (62, (.i2l, 1)), (63, (.ladd, 1)), (64, (.invokevirtual 30, 3)), (67, (.aload_n 0, 1)), (68, (.dup, 1)), (69, (.getfield 37, 3)), (72, (.iconst 1, 1)), (73, (.iadd, 1)), (74, (.putfield 37, 3)), (77, (.return_, 1))]
theorem dt27_X0_add_ok : ∀ q ∈ dt27_X0_add, decode cX0_add q.1 = .ok q.2 := by decide +kernel
theorem dX0_add_0 : decode cX0_add 0 = .ok (.aload_n 0, 1) := g_dec dt27_X0_add_ok (k := 0) rfl
theorem dX0_add_1 : decode cX0_add 1 = .ok (.getfield 14, 3) := g_dec dt27_X0_add_ok (k := 1) rfl
theorem dX0_add_4 : decode cX0_add 4 = .ok (.aload_n 1, 1) := g_dec dt27_X0_add_ok (k := 2) rfl
theorem dX0_add_5 : decode cX0_add 5 = .ok (.aload_n 0, 1) := g_dec dt27_X0_add_ok (k := 3) rfl
theorem dX0_add_6 : decode cX0_add 6 = .ok (.getfield 14, 3) := g_dec dt27_X0_add_ok (k := 4) rfl
theorem dX0_add_9 : decode cX0_add 9 = .ok (.aload_n 0, 1) := g_dec dt27_X0_add_ok (k := 5) rfl
theorem dX0_add_10 : decode cX0_add 10 = .ok (.getfield 37, 3) := g_dec dt27_X0_add_ok (k := 6) rfl
theorem dX0_add_13 : decode cX0_add 13 = .ok (.invokevirtual 43, 3) := g_dec dt27_X0_add_ok (k := 7) rfl
theorem dX0_add_16 : decode cX0_add 16 = .ok (.invokevirtual 47, 3) := g_dec dt27_X0_add_ok (k := 8) rfl
theorem dX0_add_19 : decode cX0_add 19 = .ok (.invokevirtual 30, 3) := g_dec dt27_X0_add_ok (k := 9) rfl
theorem dX0_add_22 : decode cX0_add 22 = .ok (.aload_n 0, 1) := g_dec dt27_X0_add_ok (k := 10) rfl
theorem dX0_add_23 : decode cX0_add 23 = .ok (.getfield 20, 3) := g_dec dt27_X0_add_ok (k := 11) rfl
theorem dX0_add_26 : decode cX0_add 26 = .ok (.aload_n 0, 1) := g_dec dt27_X0_add_ok (k := 12) rfl
theorem dX0_add_27 : decode cX0_add 27 = .ok (.getfield 20, 3) := g_dec dt27_X0_add_ok (k := 13) rfl
theorem dX0_add_30 : decode cX0_add 30 = .ok (.aload_n 0, 1) := g_dec dt27_X0_add_ok (k := 14) rfl
theorem dX0_add_31 : decode cX0_add 31 = .ok (.getfield 37, 3) := g_dec dt27_X0_add_ok (k := 15) rfl
theorem dX0_add_34 : decode cX0_add 34 = .ok (.invokevirtual 43, 3) := g_dec dt27_X0_add_ok (k := 16) rfl
theorem dX0_add_37 : decode cX0_add 37 = .ok (.aload_n 1, 1) := g_dec dt27_X0_add_ok (k := 17) rfl
theorem dX0_add_38 : decode cX0_add 38 = .ok (.getfield 53, 3) := g_dec dt27_X0_add_ok (k := 18) rfl
theorem dX0_add_41 : decode cX0_add 41 = .ok (.i2l, 1) := g_dec dt27_X0_add_ok (k := 19) rfl
theorem dX0_add_42 : decode cX0_add 42 = .ok (.lor, 1) := g_dec dt27_X0_add_ok (k := 20) rfl
theorem dX0_add_43 : decode cX0_add 43 = .ok (.invokevirtual 30, 3) := g_dec dt27_X0_add_ok (k := 21) rfl
theorem dX0_add_46 : decode cX0_add 46 = .ok (.aload_n 0, 1) := g_dec dt27_X0_add_ok (k := 22) rfl
theorem dX0_add_47 : decode cX0_add 47 = .ok (.getfield 23, 3) := g_dec dt27_X0_add_ok (k := 23) rfl
theorem dX0_add_50 : decode cX0_add 50 = .ok (.aload_n 0, 1) := g_dec dt27_X0_add_ok (k := 24) rfl
theorem dX0_add_51 : decode cX0_add 51 = .ok (.getfield 23, 3) := g_dec dt27_X0_add_ok (k := 25) rfl
theorem dX0_add_54 : decode cX0_add 54 = .ok (.aload_n 0, 1) := g_dec dt27_X0_add_ok (k := 26) rfl
theorem dX0_add_55 : decode cX0_add 55 = .ok (.getfield 37, 3) := g_dec dt27_X0_add_ok (k := 27) rfl
theorem dX0_add_58 : decode cX0_add 58 = .ok (.invokevirtual 43, 3) := g_dec dt27_X0_add_ok (k := 28) rfl
theorem dX0_add_61 : decode cX0_add 61 = .ok (.iload_n 2, 1) := g_dec dt27_X0_add_ok (k := 29) rfl
theorem dX0_add_62 : decode cX0_add 62 = .ok (.i2l, 1) := g_dec dt27_X0_add_ok (k := 30) rfl
theorem dX0_add_63 : decode cX0_add 63 = .ok (.ladd, 1) := g_dec dt27_X0_add_ok (k := 31) rfl
theorem dX0_add_64 : decode cX0_add 64 = .ok (.invokevirtual 30, 3) := g_dec dt27_X0_add_ok (k := 32) rfl
theorem dX0_add_67 : decode cX0_add 67 = .ok (.aload_n 0, 1) := g_dec dt27_X0_add_ok (k := 33) rfl
theorem dX0_add_68 : decode cX0_add 68 = .ok (.dup, 1) := g_dec dt27_X0_add_ok (k := 34) rfl
theorem dX0_add_69 : decode cX0_add 69 = .ok (.getfield 37, 3) := g_dec dt27_X0_add_ok (k := 35) rfl
theorem dX0_add_72 : decode cX0_add 72 = .ok (.iconst 1, 1) := g_dec dt27_X0_add_ok (k := 36) rfl
theorem dX0_add_73 : decode cX0_add 73 = .ok (.iadd, 1) := g_dec dt27_X0_add_ok (k := 37) rfl
theorem dX0_add_74 : decode cX0_add 74 = .ok (.putfield 37, 3) := g_dec dt27_X0_add_ok (k := 38) rfl
theorem dX0_add_77 : decode cX0_add 77 = .ok (.return_, 1) := g_dec dt27_X0_add_ok (k := 39) rfl
def dt28_X0_between : List (Nat × Instr × Nat) := [(31, (.iload_n 3, 1)), (32, (.aload_n 0, 1)), (33, (.getfield 37, 3)), (36, (.if_icmp .ge 40, 3)), (76, (.aload_n 0, 1)), (77, (.getfield 37, 3)), (80, (.iconst 1, 1)), (81, (.isub, 1)), (82, (.ireturn, 1)), (39, (.ldc2_w 55, 3)), (42, (.aload_n 0, 1)), (43, (.getfield 23, 3)), (46, (.iload_n 3, 1)), (47, (.invokevirtual 43, 3)), (50, (.aload_n 0, 1)), (51, (.getfield 23, 3)), (54, (.aload_n 0, 1)), (55, (.getfield 34, 3)), (58, (.invokevirtual 43, 3)), (61, (.lsub, 1)), (62, (.lmul, 1)), (63, (.lload_n 1, 1)), (64, (.lcmp, 1)), (65, (.ifCond .lt 5, 3)), (70, (.iinc 3 1, 3)), (73, (.goto (-42), 3)), (68, (.iload_n 3, 1)), (69, (.ireturn, 1)), (0, (.aload_n 0, 1)), (1, (.getfield 23, 3)), (4, (.aload_n 0, 1)), (5, (.getfield 37, 3)), (8, (.invokevirtual 43, 3)), (11, (.aload_n 0, 1)), (12, (.getfield 23, 3)), (15, (.aload_n 0, 1)), (16, (.getfield 34, 3)), (19, (.invokevirtual 43, 3)), (22, (.lsub, 1)), (23, (.lstore_n 1, 1)), (24, (.aload_n 0, 1)), (25, (.getfield 34, 3)), (28, (.iconst 1, 1)), (29, (.iadd, 1)), (30, (.istore_n 3, 1))]
theorem dt28_X0_between_ok : ∀ q ∈ dt28_X0_between, decode cX0_between q.1 = .ok q.2 := by decide +kernel
theorem dX0_between_31 : decode cX0_between 31 = .ok (.iload_n 3, 1) := g_dec dt28_X0_between_ok (k := 0) rfl
theorem dX0_between_32 : decode cX0_between 32 = .ok (.aload_n 0, 1) := g_dec dt28_X0_between_ok (k := 1) rfl
theorem dX0_between_33 : decode cX0_between 33 = .ok (.getfield 37, 3) := g_dec dt28_X0_between_ok (k := 2) rfl
theorem dX0_between_36 : decode cX0_between 36 = .ok (.if_icmp .ge 40, 3) := g_dec dt28_X0_between_ok (k := 3) rfl
theorem dX0_between_76 : decode cX0_between 76 = .ok (.aload_n 0, 1) := g_dec dt28_X0_between_ok (k := 4) rfl
theorem dX0_between_77 : decode cX0_between 77 = .ok (.getfield 37, 3) := g_dec dt28_X0_between_ok (k := 5) rfl
theorem dX0_between_80 : decode cX0_between 80 = .ok (.iconst 1, 1) := g_dec dt28_X0_between_ok (k := 6) rfl
theorem dX0_between_81 : decode cX0_between 81 = .ok (.isub, 1) := g_dec dt28_X0_between_ok (k := 7) rfl
theorem dX0_between_82 : decode cX0_between 82 = .ok (.ireturn, 1) := g_dec dt28_X0_between_ok (k := 8) rfl
theorem dX0_between_39 : decode cX0_between 39 = .ok (.ldc2_w 55, 3) := g_dec dt28_X0_between_ok (k := 9) rfl
theorem dX0_between_42 : decode cX0_between 42 = .ok (.aload_n 0, 1) := g_dec dt28_X0_between_ok (k := 10) rfl
theorem dX0_between_43 : decode cX0_between 43 = .ok (.getfield 23, 3) := g_dec dt28_X0_between_ok (k := 11) rfl
theorem dX0_between_46 : decode cX0_between 46 = .ok (.iload_n 3, 1) := g_dec dt28_X0_between_ok (k := 12) rfl
theorem dX0_between_47 : decode cX0_between 47 = .ok (.invokevirtual 43, 3) := g_dec dt28_X0_between_ok (k := 13) rfl
theorem dX0_between_50 : decode cX0_between 50 = .ok (.aload_n 0, 1) := g_dec dt28_X0_between_ok (k := 14) rfl
theorem dX0_between_51 : decode cX0_between 51 = .ok (.getfield 23, 3) := g_dec dt28_X0_between_ok (k := 15) rfl
theorem dX0_between_54 : decode cX0_between 54 = .ok (.aload_n 0, 1) := g_dec dt28_X0_between_ok (k := 16) rfl
theorem dX0_between_55 : decode cX0_between 55 = .ok (.getfield 34, 3) := g_dec dt28_X0_between_ok (k := 17) rfl
theorem dX0_between_58 : decode cX0_between 58 = .ok (.invokevirtual 43, 3) := g_dec dt28_X0_between_ok (k := 18) rfl
theorem dX0_between_61 : decode cX0_between 61 = .ok (.lsub, 1) := g_dec dt28_X0_between_ok (k := 19) rfl
theorem dX0_between_62 : decode cX0_between 62 = .ok (.lmul, 1) := g_dec dt28_X0_between_ok (k := 20) rfl
theorem dX0_between_63 : decode cX0_between 63 = .ok (.lload_n 1, 1) := g_dec dt28_X0_between_ok (k := 21) rfl
theorem dX0_between_64 : decode cX0_between 64 = .ok (.lcmp, 1) := g_dec dt28_X0_between_ok (k := 22) rfl
theorem dX0_between_65 : decode cX0_between 65 = .ok (.ifCond .lt 5, 3) := g_dec dt28_X0_between_ok (k := 23) rfl
theorem dX0_between_70 : decode cX0_between 70 = .ok (.iinc 3 1, 3) := g_dec dt28_X0_between_ok (k := 24) rfl
theorem dX0_between_73 : decode cX0_between 73 = .ok (.goto (-42), 3) := g_dec dt28_X0_between_ok (k := 25) rfl
theorem dX0_between_68 : decode cX0_between 68 = .ok (.iload_n 3, 1) := g_dec dt28_X0_between_ok (k := 26) rfl
theorem dX0_between_69 : decode cX0_between 69 = .ok (.ireturn, 1) := g_dec dt28_X0_between_ok (k := 27) rfl
theorem dX0_between_0 : decode cX0_between 0 = .ok (.aload_n 0, 1) := g_dec dt28_X0_between_ok (k := 28) rfl
theorem dX0_between_1 : decode cX0_between 1 = .ok (.getfield 23, 3) := g_dec dt28_X0_between_ok (k := 29) rfl
theorem dX0_between_4 : decode cX0_between 4 = .ok (.aload_n 0, 1) := g_dec dt28_X0_between_ok (k := 30) rfl
theorem dX0_between_5 : decode cX0_between 5 = .ok (.getfield 37, 3) := g_dec dt28_X0_between_ok (k := 31) rfl
theorem dX0_between_8 : decode cX0_between 8 = .ok (.invokevirtual 43, 3) := g_dec dt28_X0_between_ok (k := 32) rfl
theorem dX0_between_11 : decode cX0_between 11 = .ok (.aload_n 0, 1) := g_dec dt28_X0_between_ok (k := 33) rfl
theorem dX0_between_12 : decode cX0_between 12 = .ok (.getfield 23, 3) := g_dec dt28_X0_between_ok (k := 34) rfl
theorem dX0_between_15 : decode cX0_between 15 = .ok (.aload_n 0, 1) := g_dec dt28_X0_between_ok (k := 35) rfl
theorem dX0_between_16 : decode cX0_between 16 = .ok (.getfield 34, 3) := g_dec dt28_X0_between_ok (k := 36) rfl
theorem dX0_between_19 : decode cX0_between 19 = .ok (.invokevirtual 43, 3) := g_dec dt28_X0_between_ok (k := 37) rfl
theorem dX0_between_22 : decode cX0_between 22 = .ok (.lsub, 1) := g_dec dt28_X0_between_ok (k := 38) rfl
theorem dX0_between_23 : decode cX0_between 23 = .ok (.lstore_n 1, 1) := g_dec dt28_X0_between_ok (k := 39) rfl
theorem dX0_between_24 : decode cX0_between 24 = .ok (.aload_n 0, 1) := g_dec dt28_X0_between_ok (k := 40) rfl
theorem dX0_between_25 : decode cX0_between 25 = .ok (.getfield 34, 3) := g_dec dt28_X0_between_ok (k := 41) rfl
theorem dX0_between_28 : decode cX0_between 28 = .ok (.iconst 1, 1) := g_dec dt28_X0_between_ok (k := 42) rfl
theorem dX0_between_29 : decode cX0_between 29 = .ok (.iadd, 1) := g_dec dt28_X0_between_ok (k := 43) rfl
theorem dX0_between_30 : decode cX0_between 30 = .ok (.istore_n 3, 1) := g_dec dt28_X0_between_ok (k := 44) rfl
def dt29_X0_isNarrowed : List (Nat × Instr × Nat) := [(26, (.ireturn, 1)), (25, (.iconst 0, 1)), (0, (.aload_n 0, 1)), (1, (.getfield 57, 3)), (4, (.iconst 2, 1)), (5, (.if_icmp .ne 20, 3)), (8, (.aload_n 0, 1)), (9, (.getfield 37, 3)), (12, (.aload_n 0, 1)), (13, (.getfield 34, 3)), (16, (.isub, 1)), (17, (.iconst 1, 1)), (18, (.if_icmp .ne 7, 3)), (21, (.iconst 1, 1)), (22, (.goto 4, 3))]
theorem dt29_X0_isNarrowed_ok : ∀ q ∈ dt29_X0_isNarrowed, decode cX0_isNarrowed q.1 = .ok q.2 := by decide +kernel
theorem dX0_isNarrowed_26 : decode cX0_isNarrowed 26 = .ok (.ireturn, 1) := g_dec dt29_X0_isNarrowed_ok (k := 0) rfl
theorem dX0_isNarrowed_25 : decode cX0_isNarrowed 25 = .ok (.iconst 0, 1) := g_dec dt29_X0_isNarrowed_ok (k := 1) rfl
theorem dX0_isNarrowed_0 : decode cX0_isNarrowed 0 = .ok (.aload_n 0, 1) := g_dec dt29_X0_isNarrowed_ok (k := 2) rfl
theorem dX0_isNarrowed_1 : decode cX0_isNarrowed 1 = .ok (.getfield 57, 3) := g_dec dt29_X0_isNarrowed_ok (k := 3) rfl
theorem dX0_isNarrowed_4 : decode cX0_isNarrowed 4 = .ok (.iconst 2, 1) := g_dec dt29_X0_isNarrowed_ok (k := 4) rfl
theorem dX0_isNarrowed_5 : decode cX0_isNarrowed 5 = .ok (.if_icmp .ne 20, 3) := g_dec dt29_X0_isNarrowed_ok (k := 5) rfl
theorem dX0_isNarrowed_8 : decode cX0_isNarrowed 8 = .ok (.aload_n 0, 1) := g_dec dt29_X0_isNarrowed_ok (k := 6) rfl
theorem dX0_isNarrowed_9 : decode cX0_isNarrowed 9 = .ok (.getfield 37, 3) := g_dec dt29_X0_isNarrowed_ok (k := 7) rfl
theorem dX0_isNarrowed_12 : decode cX0_isNarrowed 12 = .ok (.aload_n 0, 1) := g_dec dt29_X0_isNarrowed_ok (k := 8) rfl
theorem dX0_isNarrowed_13 : decode cX0_isNarrowed 13 = .ok (.getfield 34, 3) := g_dec dt29_X0_isNarrowed_ok (k := 9) rfl
theorem dX0_isNarrowed_16 : decode cX0_isNarrowed 16 = .ok (.isub, 1) := g_dec dt29_X0_isNarrowed_ok (k := 10) rfl
theorem dX0_isNarrowed_17 : decode cX0_isNarrowed 17 = .ok (.iconst 1, 1) := g_dec dt29_X0_isNarrowed_ok (k := 11) rfl
theorem dX0_isNarrowed_18 : decode cX0_isNarrowed 18 = .ok (.if_icmp .ne 7, 3) := g_dec dt29_X0_isNarrowed_ok (k := 12) rfl
theorem dX0_isNarrowed_21 : decode cX0_isNarrowed 21 = .ok (.iconst 1, 1) := g_dec dt29_X0_isNarrowed_ok (k := 13) rfl
theorem dX0_isNarrowed_22 : decode cX0_isNarrowed 22 = .ok (.goto 4, 3) := g_dec dt29_X0_isNarrowed_ok (k := 14) rfl
def dt30_X2_at : List (Nat × Instr × Nat) := [(26, (.aload_n 0, 1)), (27, (.getfield 20, 3)), (30, (.areturn, 1)), (0, (.iload_n 1, 1)), (1, (.ifCond .lt 25, 3)), (4, (.iload_n 1, 1)), (5, (.aload_n 0, 1)), (6, (.getfield 11, 3)), (9, (.arraylength, 1)), (10, (.if_icmp .ge 16, 3)), (13, (.aload_n 0, 1)), (14, (.getfield 11, 3)), (17, (.iload_n 1, 1)), (18, (.aaload, 1)), (19, (.astore_n 2, 1)), (20, (.aload_n 2, 1)), (21, (.ifnull 5, 3)), (24, (.aload_n 2, 1)), (25, (.areturn, 1))]
theorem dt30_X2_at_ok : ∀ q ∈ dt30_X2_at, decode cX2_at q.1 = .ok q.2 := by decide +kernel
theorem dX2_at_26 : decode cX2_at 26 = .ok (.aload_n 0, 1) := g_dec dt30_X2_at_ok (k := 0) rfl
theorem dX2_at_27 : decode cX2_at 27 = .ok (.getfield 20, 3) := g_dec dt30_X2_at_ok (k := 1) rfl
theorem dX2_at_30 : decode cX2_at 30 = .ok (.areturn, 1) := g_dec dt30_X2_at_ok (k := 2) rfl
theorem dX2_at_0 : decode cX2_at 0 = .ok (.iload_n 1, 1) := g_dec dt30_X2_at_ok (k := 3) rfl
theorem dX2_at_1 : decode cX2_at 1 = .ok (.ifCond .lt 25, 3) := g_dec dt30_X2_at_ok (k := 4) rfl
theorem dX2_at_4 : decode cX2_at 4 = .ok (.iload_n 1, 1) := g_dec dt30_X2_at_ok (k := 5) rfl
theorem dX2_at_5 : decode cX2_at 5 = .ok (.aload_n 0, 1) := g_dec dt30_X2_at_ok (k := 6) rfl
theorem dX2_at_6 : decode cX2_at 6 = .ok (.getfield 11, 3) := g_dec dt30_X2_at_ok (k := 7) rfl
theorem dX2_at_9 : decode cX2_at 9 = .ok (.arraylength, 1) := g_dec dt30_X2_at_ok (k := 8) rfl
theorem dX2_at_10 : decode cX2_at 10 = .ok (.if_icmp .ge 16, 3) := g_dec dt30_X2_at_ok (k := 9) rfl
theorem dX2_at_13 : decode cX2_at 13 = .ok (.aload_n 0, 1) := g_dec dt30_X2_at_ok (k := 10) rfl
theorem dX2_at_14 : decode cX2_at 14 = .ok (.getfield 11, 3) := g_dec dt30_X2_at_ok (k := 11) rfl
theorem dX2_at_17 : decode cX2_at 17 = .ok (.iload_n 1, 1) := g_dec dt30_X2_at_ok (k := 12) rfl
theorem dX2_at_18 : decode cX2_at 18 = .ok (.aaload, 1) := g_dec dt30_X2_at_ok (k := 13) rfl
theorem dX2_at_19 : decode cX2_at 19 = .ok (.astore_n 2, 1) := g_dec dt30_X2_at_ok (k := 14) rfl
theorem dX2_at_20 : decode cX2_at 20 = .ok (.aload_n 2, 1) := g_dec dt30_X2_at_ok (k := 15) rfl
theorem dX2_at_21 : decode cX2_at 21 = .ok (.ifnull 5, 3) := g_dec dt30_X2_at_ok (k := 16) rfl
theorem dX2_at_24 : decode cX2_at 24 = .ok (.aload_n 2, 1) := g_dec dt30_X2_at_ok (k := 17) rfl
theorem dX2_at_25 : decode cX2_at 25 = .ok (.areturn, 1) := g_dec dt30_X2_at_ok (k := 18) rfl
def dt31_X2_beginOne : List (Nat × Instr × Nat) := [(0, (.aload_n 0, 1)), (1, (.getfield 24, 3)), (4, (.iload_n 1, 1)), (5, (.putfield 27, 3)), (8, (.aload_n 0, 1)), (9, (.getfield 24, 3)), (12, (.iload_n 2, 1)), (13, (.putfield 31, 3)), (16, (.aload_n 0, 1)), (17, (.getfield 24, 3)), (20, (.iconst 0, 1)), (21, (.putfield 34, 3)), (24, (.aload_n 0, 1)), (25, (.getfield 24, 3)), (28, (.lconst 0, 1)), (29, (.putfield 37, 3)), (32, (.aload_n 0, 1)), (33, (.getfield 24, 3)), (36, (.lconst 0, 1)), (37, (.putfield 41, 3)), (40, (.aload_n 0, 1)), (41, (.iconst 1, 1)), (42, (.putfield 44, 3)), (45, (.return_, 1))]
theorem dt31_X2_beginOne_ok : ∀ q ∈ dt31_X2_beginOne, decode cX2_beginOne q.1 = .ok q.2 := by decide +kernel
theorem dX2_beginOne_0 : decode cX2_beginOne 0 = .ok (.aload_n 0, 1) := g_dec dt31_X2_beginOne_ok (k := 0) rfl
theorem dX2_beginOne_1 : decode cX2_beginOne 1 = .ok (.getfield 24, 3) := g_dec dt31_X2_beginOne_ok (k := 1) rfl
theorem dX2_beginOne_4 : decode cX2_beginOne 4 = .ok (.iload_n 1, 1) := g_dec dt31_X2_beginOne_ok (k := 2) rfl
theorem dX2_beginOne_5 : decode cX2_beginOne 5 = .ok (.putfield 27, 3) := g_dec dt31_X2_beginOne_ok (k := 3) rfl
theorem dX2_beginOne_8 : decode cX2_beginOne 8 = .ok (.aload_n 0, 1) := g_dec dt31_X2_beginOne_ok (k := 4) rfl
theorem dX2_beginOne_9 : decode cX2_beginOne 9 = .ok (.getfield 24, 3) := g_dec dt31_X2_beginOne_ok (k := 5) rfl
theorem dX2_beginOne_12 : decode cX2_beginOne 12 = .ok (.iload_n 2, 1) := g_dec dt31_X2_beginOne_ok (k := 6) rfl
theorem dX2_beginOne_13 : decode cX2_beginOne 13 = .ok (.putfield 31, 3) := g_dec dt31_X2_beginOne_ok (k := 7) rfl
theorem dX2_beginOne_16 : decode cX2_beginOne 16 = .ok (.aload_n 0, 1) := g_dec dt31_X2_beginOne_ok (k := 8) rfl
theorem dX2_beginOne_17 : decode cX2_beginOne 17 = .ok (.getfield 24, 3) := g_dec dt31_X2_beginOne_ok (k := 9) rfl
theorem dX2_beginOne_20 : decode cX2_beginOne 20 = .ok (.iconst 0, 1) := g_dec dt31_X2_beginOne_ok (k := 10) rfl
theorem dX2_beginOne_21 : decode cX2_beginOne 21 = .ok (.putfield 34, 3) := g_dec dt31_X2_beginOne_ok (k := 11) rfl
theorem dX2_beginOne_24 : decode cX2_beginOne 24 = .ok (.aload_n 0, 1) := g_dec dt31_X2_beginOne_ok (k := 12) rfl
theorem dX2_beginOne_25 : decode cX2_beginOne 25 = .ok (.getfield 24, 3) := g_dec dt31_X2_beginOne_ok (k := 13) rfl
theorem dX2_beginOne_28 : decode cX2_beginOne 28 = .ok (.lconst 0, 1) := g_dec dt31_X2_beginOne_ok (k := 14) rfl
theorem dX2_beginOne_29 : decode cX2_beginOne 29 = .ok (.putfield 37, 3) := g_dec dt31_X2_beginOne_ok (k := 15) rfl
theorem dX2_beginOne_32 : decode cX2_beginOne 32 = .ok (.aload_n 0, 1) := g_dec dt31_X2_beginOne_ok (k := 16) rfl
theorem dX2_beginOne_33 : decode cX2_beginOne 33 = .ok (.getfield 24, 3) := g_dec dt31_X2_beginOne_ok (k := 17) rfl
theorem dX2_beginOne_36 : decode cX2_beginOne 36 = .ok (.lconst 0, 1) := g_dec dt31_X2_beginOne_ok (k := 18) rfl
theorem dX2_beginOne_37 : decode cX2_beginOne 37 = .ok (.putfield 41, 3) := g_dec dt31_X2_beginOne_ok (k := 19) rfl
theorem dX2_beginOne_40 : decode cX2_beginOne 40 = .ok (.aload_n 0, 1) := g_dec dt31_X2_beginOne_ok (k := 20) rfl
theorem dX2_beginOne_41 : decode cX2_beginOne 41 = .ok (.iconst 1, 1) := g_dec dt31_X2_beginOne_ok (k := 21) rfl
theorem dX2_beginOne_42 : decode cX2_beginOne 42 = .ok (.putfield 44, 3) := g_dec dt31_X2_beginOne_ok (k := 22) rfl
theorem dX2_beginOne_45 : decode cX2_beginOne 45 = .ok (.return_, 1) := g_dec dt31_X2_beginOne_ok (k := 23) rfl
def dt32_X2_baseFor : List (Nat × Instr × Nat) := [(43, (.lload_n 2, 1)), (44, (.lreturn, 1)), (0, (.aload_n 1, 1)), (1, (.getfield 31, 3)), (4, (.iconst (-1), 1)), (5, (.if_icmp .eq 38, 3)), (8, (.aload_n 0, 1)), (9, (.aload_n 1, 1)), (10, (.getfield 31, 3)), (13, (.invokevirtual 48, 3)), (16, (.invokevirtual 52, 3)), (19, (.ifCond .eq 24, 3)), (22, (.aload_n 0, 1)), (23, (.aload_n 1, 1)), (24, (.getfield 31, 3)), (27, (.invokevirtual 48, 3)), (30, (.astore 4, 2)), (32, (.aload 4, 2)), (34, (.aload 4, 2)), (36, (.getfield 56, 3)), (39, (.invokevirtual 59, 3)), (42, (.lreturn, 1))]
theorem dt32_X2_baseFor_ok : ∀ q ∈ dt32_X2_baseFor, decode cX2_baseFor q.1 = .ok q.2 := by decide +kernel
theorem dX2_baseFor_43 : decode cX2_baseFor 43 = .ok (.lload_n 2, 1) := g_dec dt32_X2_baseFor_ok (k := 0) rfl
theorem dX2_baseFor_44 : decode cX2_baseFor 44 = .ok (.lreturn, 1) := g_dec dt32_X2_baseFor_ok (k := 1) rfl
theorem dX2_baseFor_0 : decode cX2_baseFor 0 = .ok (.aload_n 1, 1) := g_dec dt32_X2_baseFor_ok (k := 2) rfl
theorem dX2_baseFor_1 : decode cX2_baseFor 1 = .ok (.getfield 31, 3) := g_dec dt32_X2_baseFor_ok (k := 3) rfl
theorem dX2_baseFor_4 : decode cX2_baseFor 4 = .ok (.iconst (-1), 1) := g_dec dt32_X2_baseFor_ok (k := 4) rfl
theorem dX2_baseFor_5 : decode cX2_baseFor 5 = .ok (.if_icmp .eq 38, 3) := g_dec dt32_X2_baseFor_ok (k := 5) rfl
theorem dX2_baseFor_8 : decode cX2_baseFor 8 = .ok (.aload_n 0, 1) := g_dec dt32_X2_baseFor_ok (k := 6) rfl
theorem dX2_baseFor_9 : decode cX2_baseFor 9 = .ok (.aload_n 1, 1) := g_dec dt32_X2_baseFor_ok (k := 7) rfl
theorem dX2_baseFor_10 : decode cX2_baseFor 10 = .ok (.getfield 31, 3) := g_dec dt32_X2_baseFor_ok (k := 8) rfl
theorem dX2_baseFor_13 : decode cX2_baseFor 13 = .ok (.invokevirtual 48, 3) := g_dec dt32_X2_baseFor_ok (k := 9) rfl
theorem dX2_baseFor_16 : decode cX2_baseFor 16 = .ok (.invokevirtual 52, 3) := g_dec dt32_X2_baseFor_ok (k := 10) rfl
theorem dX2_baseFor_19 : decode cX2_baseFor 19 = .ok (.ifCond .eq 24, 3) := g_dec dt32_X2_baseFor_ok (k := 11) rfl
theorem dX2_baseFor_22 : decode cX2_baseFor 22 = .ok (.aload_n 0, 1) := g_dec dt32_X2_baseFor_ok (k := 12) rfl
theorem dX2_baseFor_23 : decode cX2_baseFor 23 = .ok (.aload_n 1, 1) := g_dec dt32_X2_baseFor_ok (k := 13) rfl
theorem dX2_baseFor_24 : decode cX2_baseFor 24 = .ok (.getfield 31, 3) := g_dec dt32_X2_baseFor_ok (k := 14) rfl
theorem dX2_baseFor_27 : decode cX2_baseFor 27 = .ok (.invokevirtual 48, 3) := g_dec dt32_X2_baseFor_ok (k := 15) rfl
theorem dX2_baseFor_30 : decode cX2_baseFor 30 = .ok (.astore 4, 2) := g_dec dt32_X2_baseFor_ok (k := 16) rfl
theorem dX2_baseFor_32 : decode cX2_baseFor 32 = .ok (.aload 4, 2) := g_dec dt32_X2_baseFor_ok (k := 17) rfl
theorem dX2_baseFor_34 : decode cX2_baseFor 34 = .ok (.aload 4, 2) := g_dec dt32_X2_baseFor_ok (k := 18) rfl
theorem dX2_baseFor_36 : decode cX2_baseFor 36 = .ok (.getfield 56, 3) := g_dec dt32_X2_baseFor_ok (k := 19) rfl
theorem dX2_baseFor_39 : decode cX2_baseFor 39 = .ok (.invokevirtual 59, 3) := g_dec dt32_X2_baseFor_ok (k := 20) rfl
theorem dX2_baseFor_42 : decode cX2_baseFor 42 = .ok (.lreturn, 1) := g_dec dt32_X2_baseFor_ok (k := 21) rfl
def dt33_X2_addBegun : List (Nat × Instr × Nat) := [(0, (.aload_n 0, 1)), (1, (.aload_n 0, 1)), (2, (.getfield 63, 3)), (5, (.invokevirtual 48, 3)), (8, (.astore_n 3, 1)), (9, (.aload_n 3, 1)), (10, (.aload_n 0, 1)), (11, (.getfield 24, 3)), (14, (.getfield 27, 3)), (17, (.putfield 27, 3)), (20, (.aload_n 3, 1)), (21, (.aload_n 0, 1)), (22, (.getfield 24, 3)), (25, (.getfield 31, 3)), (28, (.putfield 31, 3)), (31, (.aload_n 3, 1)), (32, (.aload_n 0, 1)), (33, (.getfield 24, 3)), (36, (.getfield 34, 3)), (39, (.putfield 34, 3)), (42, (.aload_n 3, 1)), (43, (.aload_n 0, 1)), (44, (.getfield 24, 3)), (47, (.getfield 37, 3)), (50, (.putfield 37, 3)), (53, (.aload_n 3, 1)), (54, (.aload_n 0, 1)), (55, (.getfield 24, 3)), (58, (.getfield 41, 3)), (61, (.putfield 41, 3)), (64, (.aload_n 3, 1)), (65, (.lload_n 1, 1)), (66, (.putfield 56, 3)), (69, (.aload_n 0, 1)), (70, (.iconst 0, 1)), (71, (.putfield 44, 3)), (74, (.aload_n 0, 1)), (75, (.dup, 1)), (76, (.getfield 63, 3)), (79, (.dup_x1, 1)), (80, (.iconst 1, 1)), (81, (.iadd, 1)), (82, (.putfield 63, 3)), (85, (.ireturn, 1))]
theorem dt33_X2_addBegun_ok : ∀ q ∈ dt33_X2_addBegun, decode cX2_addBegun q.1 = .ok q.2 := by decide +kernel
theorem dX2_addBegun_0 : decode cX2_addBegun 0 = .ok (.aload_n 0, 1) := g_dec dt33_X2_addBegun_ok (k := 0) rfl
theorem dX2_addBegun_1 : decode cX2_addBegun 1 = .ok (.aload_n 0, 1) := g_dec dt33_X2_addBegun_ok (k := 1) rfl
theorem dX2_addBegun_2 : decode cX2_addBegun 2 = .ok (.getfield 63, 3) := g_dec dt33_X2_addBegun_ok (k := 2) rfl
theorem dX2_addBegun_5 : decode cX2_addBegun 5 = .ok (.invokevirtual 48, 3) := g_dec dt33_X2_addBegun_ok (k := 3) rfl
theorem dX2_addBegun_8 : decode cX2_addBegun 8 = .ok (.astore_n 3, 1) := g_dec dt33_X2_addBegun_ok (k := 4) rfl
theorem dX2_addBegun_9 : decode cX2_addBegun 9 = .ok (.aload_n 3, 1) := g_dec dt33_X2_addBegun_ok (k := 5) rfl
theorem dX2_addBegun_10 : decode cX2_addBegun 10 = .ok (.aload_n 0, 1) := g_dec dt33_X2_addBegun_ok (k := 6) rfl
theorem dX2_addBegun_11 : decode cX2_addBegun 11 = .ok (.getfield 24, 3) := g_dec dt33_X2_addBegun_ok (k := 7) rfl
theorem dX2_addBegun_14 : decode cX2_addBegun 14 = .ok (.getfield 27, 3) := g_dec dt33_X2_addBegun_ok (k := 8) rfl
theorem dX2_addBegun_17 : decode cX2_addBegun 17 = .ok (.putfield 27, 3) := g_dec dt33_X2_addBegun_ok (k := 9) rfl
theorem dX2_addBegun_20 : decode cX2_addBegun 20 = .ok (.aload_n 3, 1) := g_dec dt33_X2_addBegun_ok (k := 10) rfl
theorem dX2_addBegun_21 : decode cX2_addBegun 21 = .ok (.aload_n 0, 1) := g_dec dt33_X2_addBegun_ok (k := 11) rfl
theorem dX2_addBegun_22 : decode cX2_addBegun 22 = .ok (.getfield 24, 3) := g_dec dt33_X2_addBegun_ok (k := 12) rfl
theorem dX2_addBegun_25 : decode cX2_addBegun 25 = .ok (.getfield 31, 3) := g_dec dt33_X2_addBegun_ok (k := 13) rfl
theorem dX2_addBegun_28 : decode cX2_addBegun 28 = .ok (.putfield 31, 3) := g_dec dt33_X2_addBegun_ok (k := 14) rfl
theorem dX2_addBegun_31 : decode cX2_addBegun 31 = .ok (.aload_n 3, 1) := g_dec dt33_X2_addBegun_ok (k := 15) rfl
theorem dX2_addBegun_32 : decode cX2_addBegun 32 = .ok (.aload_n 0, 1) := g_dec dt33_X2_addBegun_ok (k := 16) rfl
theorem dX2_addBegun_33 : decode cX2_addBegun 33 = .ok (.getfield 24, 3) := g_dec dt33_X2_addBegun_ok (k := 17) rfl
theorem dX2_addBegun_36 : decode cX2_addBegun 36 = .ok (.getfield 34, 3) := g_dec dt33_X2_addBegun_ok (k := 18) rfl
theorem dX2_addBegun_39 : decode cX2_addBegun 39 = .ok (.putfield 34, 3) := g_dec dt33_X2_addBegun_ok (k := 19) rfl
theorem dX2_addBegun_42 : decode cX2_addBegun 42 = .ok (.aload_n 3, 1) := g_dec dt33_X2_addBegun_ok (k := 20) rfl
theorem dX2_addBegun_43 : decode cX2_addBegun 43 = .ok (.aload_n 0, 1) := g_dec dt33_X2_addBegun_ok (k := 21) rfl
theorem dX2_addBegun_44 : decode cX2_addBegun 44 = .ok (.getfield 24, 3) := g_dec dt33_X2_addBegun_ok (k := 22) rfl
theorem dX2_addBegun_47 : decode cX2_addBegun 47 = .ok (.getfield 37, 3) := g_dec dt33_X2_addBegun_ok (k := 23) rfl
theorem dX2_addBegun_50 : decode cX2_addBegun 50 = .ok (.putfield 37, 3) := g_dec dt33_X2_addBegun_ok (k := 24) rfl
theorem dX2_addBegun_53 : decode cX2_addBegun 53 = .ok (.aload_n 3, 1) := g_dec dt33_X2_addBegun_ok (k := 25) rfl
theorem dX2_addBegun_54 : decode cX2_addBegun 54 = .ok (.aload_n 0, 1) := g_dec dt33_X2_addBegun_ok (k := 26) rfl
theorem dX2_addBegun_55 : decode cX2_addBegun 55 = .ok (.getfield 24, 3) := g_dec dt33_X2_addBegun_ok (k := 27) rfl
theorem dX2_addBegun_58 : decode cX2_addBegun 58 = .ok (.getfield 41, 3) := g_dec dt33_X2_addBegun_ok (k := 28) rfl
theorem dX2_addBegun_61 : decode cX2_addBegun 61 = .ok (.putfield 41, 3) := g_dec dt33_X2_addBegun_ok (k := 29) rfl
theorem dX2_addBegun_64 : decode cX2_addBegun 64 = .ok (.aload_n 3, 1) := g_dec dt33_X2_addBegun_ok (k := 30) rfl
theorem dX2_addBegun_65 : decode cX2_addBegun 65 = .ok (.lload_n 1, 1) := g_dec dt33_X2_addBegun_ok (k := 31) rfl
theorem dX2_addBegun_66 : decode cX2_addBegun 66 = .ok (.putfield 56, 3) := g_dec dt33_X2_addBegun_ok (k := 32) rfl
theorem dX2_addBegun_69 : decode cX2_addBegun 69 = .ok (.aload_n 0, 1) := g_dec dt33_X2_addBegun_ok (k := 33) rfl
theorem dX2_addBegun_70 : decode cX2_addBegun 70 = .ok (.iconst 0, 1) := g_dec dt33_X2_addBegun_ok (k := 34) rfl
theorem dX2_addBegun_71 : decode cX2_addBegun 71 = .ok (.putfield 44, 3) := g_dec dt33_X2_addBegun_ok (k := 35) rfl
theorem dX2_addBegun_74 : decode cX2_addBegun 74 = .ok (.aload_n 0, 1) := g_dec dt33_X2_addBegun_ok (k := 36) rfl
theorem dX2_addBegun_75 : decode cX2_addBegun 75 = .ok (.dup, 1) := g_dec dt33_X2_addBegun_ok (k := 37) rfl
theorem dX2_addBegun_76 : decode cX2_addBegun 76 = .ok (.getfield 63, 3) := g_dec dt33_X2_addBegun_ok (k := 38) rfl
theorem dX2_addBegun_79 : decode cX2_addBegun 79 = .ok (.dup_x1, 1) := g_dec dt33_X2_addBegun_ok (k := 39) rfl
theorem dX2_addBegun_80 : decode cX2_addBegun 80 = .ok (.iconst 1, 1) := g_dec dt33_X2_addBegun_ok (k := 40) rfl
theorem dX2_addBegun_81 : decode cX2_addBegun 81 = .ok (.iadd, 1) := g_dec dt33_X2_addBegun_ok (k := 41) rfl
theorem dX2_addBegun_82 : decode cX2_addBegun 82 = .ok (.putfield 63, 3) := g_dec dt33_X2_addBegun_ok (k := 42) rfl
theorem dX2_addBegun_85 : decode cX2_addBegun 85 = .ok (.ireturn, 1) := g_dec dt33_X2_addBegun_ok (k := 43) rfl
def dt34_X2_addRevert : List (Nat × Instr × Nat) := [(0, (.aload_n 0, 1)), (1, (.aload_n 0, 1)), (2, (.getfield 63, 3)), (5, (.invokevirtual 48, 3)), (8, (.astore 7, 2)), (10, (.aload 7, 2)), (12, (.iload_n 1, 1)), (13, (.putfield 27, 3)), (16, (.aload 7, 2)), (18, (.iconst 1, 1)), (19, (.putfield 66, 3)), (22, (.aload 7, 2)), (24, (.lload_n 2, 1)), (25, (.putfield 56, 3)), (28, (.aload 7, 2)), (30, (.iload 4, 2)), (32, (.putfield 34, 3)), (35, (.aload 7, 2)), (37, (.iload 4, 2)), (39, (.invokestatic 69, 3)), (42, (.putfield 37, 3)), (45, (.aload 7, 2)), (47, (.lload 5, 2)), (49, (.aload 7, 2)), (51, (.getfield 37, 3)), (54, (.land, 1)), (55, (.putfield 41, 3)), (58, (.aload_n 0, 1)), (59, (.dup, 1)), (60, (.getfield 63, 3)), (63, (.iconst 1, 1)), (64, (.iadd, 1)), (65, (.putfield 63, 3)), (68, (.aload 7, 2)), (70, (.areturn, 1))]
theorem dt34_X2_addRevert_ok : ∀ q ∈ dt34_X2_addRevert, decode cX2_addRevert q.1 = .ok q.2 := by decide +kernel
theorem dX2_addRevert_0 : decode cX2_addRevert 0 = .ok (.aload_n 0, 1) := g_dec dt34_X2_addRevert_ok (k := 0) rfl
theorem dX2_addRevert_1 : decode cX2_addRevert 1 = .ok (.aload_n 0, 1) := g_dec dt34_X2_addRevert_ok (k := 1) rfl
theorem dX2_addRevert_2 : decode cX2_addRevert 2 = .ok (.getfield 63, 3) := g_dec dt34_X2_addRevert_ok (k := 2) rfl
theorem dX2_addRevert_5 : decode cX2_addRevert 5 = .ok (.invokevirtual 48, 3) := g_dec dt34_X2_addRevert_ok (k := 3) rfl
theorem dX2_addRevert_8 : decode cX2_addRevert 8 = .ok (.astore 7, 2) := g_dec dt34_X2_addRevert_ok (k := 4) rfl
theorem dX2_addRevert_10 : decode cX2_addRevert 10 = .ok (.aload 7, 2) := g_dec dt34_X2_addRevert_ok (k := 5) rfl
theorem dX2_addRevert_12 : decode cX2_addRevert 12 = .ok (.iload_n 1, 1) := g_dec dt34_X2_addRevert_ok (k := 6) rfl
theorem dX2_addRevert_13 : decode cX2_addRevert 13 = .ok (.putfield 27, 3) := g_dec dt34_X2_addRevert_ok (k := 7) rfl
theorem dX2_addRevert_16 : decode cX2_addRevert 16 = .ok (.aload 7, 2) := g_dec dt34_X2_addRevert_ok (k := 8) rfl
theorem dX2_addRevert_18 : decode cX2_addRevert 18 = .ok (.iconst 1, 1) := g_dec dt34_X2_addRevert_ok (k := 9) rfl
theorem dX2_addRevert_19 : decode cX2_addRevert 19 = .ok (.putfield 66, 3) := g_dec dt34_X2_addRevert_ok (k := 10) rfl
theorem dX2_addRevert_22 : decode cX2_addRevert 22 = .ok (.aload 7, 2) := g_dec dt34_X2_addRevert_ok (k := 11) rfl
theorem dX2_addRevert_24 : decode cX2_addRevert 24 = .ok (.lload_n 2, 1) := g_dec dt34_X2_addRevert_ok (k := 12) rfl
theorem dX2_addRevert_25 : decode cX2_addRevert 25 = .ok (.putfield 56, 3) := g_dec dt34_X2_addRevert_ok (k := 13) rfl
theorem dX2_addRevert_28 : decode cX2_addRevert 28 = .ok (.aload 7, 2) := g_dec dt34_X2_addRevert_ok (k := 14) rfl
theorem dX2_addRevert_30 : decode cX2_addRevert 30 = .ok (.iload 4, 2) := g_dec dt34_X2_addRevert_ok (k := 15) rfl
theorem dX2_addRevert_32 : decode cX2_addRevert 32 = .ok (.putfield 34, 3) := g_dec dt34_X2_addRevert_ok (k := 16) rfl
theorem dX2_addRevert_35 : decode cX2_addRevert 35 = .ok (.aload 7, 2) := g_dec dt34_X2_addRevert_ok (k := 17) rfl
theorem dX2_addRevert_37 : decode cX2_addRevert 37 = .ok (.iload 4, 2) := g_dec dt34_X2_addRevert_ok (k := 18) rfl
theorem dX2_addRevert_39 : decode cX2_addRevert 39 = .ok (.invokestatic 69, 3) := g_dec dt34_X2_addRevert_ok (k := 19) rfl
theorem dX2_addRevert_42 : decode cX2_addRevert 42 = .ok (.putfield 37, 3) := g_dec dt34_X2_addRevert_ok (k := 20) rfl
theorem dX2_addRevert_45 : decode cX2_addRevert 45 = .ok (.aload 7, 2) := g_dec dt34_X2_addRevert_ok (k := 21) rfl
theorem dX2_addRevert_47 : decode cX2_addRevert 47 = .ok (.lload 5, 2) := g_dec dt34_X2_addRevert_ok (k := 22) rfl
theorem dX2_addRevert_49 : decode cX2_addRevert 49 = .ok (.aload 7, 2) := g_dec dt34_X2_addRevert_ok (k := 23) rfl
theorem dX2_addRevert_51 : decode cX2_addRevert 51 = .ok (.getfield 37, 3) := g_dec dt34_X2_addRevert_ok (k := 24) rfl
theorem dX2_addRevert_54 : decode cX2_addRevert 54 = .ok (.land, 1) := g_dec dt34_X2_addRevert_ok (k := 25) rfl
theorem dX2_addRevert_55 : decode cX2_addRevert 55 = .ok (.putfield 41, 3) := g_dec dt34_X2_addRevert_ok (k := 26) rfl
theorem dX2_addRevert_58 : decode cX2_addRevert 58 = .ok (.aload_n 0, 1) := g_dec dt34_X2_addRevert_ok (k := 27) rfl
theorem dX2_addRevert_59 : decode cX2_addRevert 59 = .ok (.dup, 1) := g_dec dt34_X2_addRevert_ok (k := 28) rfl
theorem dX2_addRevert_60 : decode cX2_addRevert 60 = .ok (.getfield 63, 3) := g_dec dt34_X2_addRevert_ok (k := 29) rfl
theorem dX2_addRevert_63 : decode cX2_addRevert 63 = .ok (.iconst 1, 1) := g_dec dt34_X2_addRevert_ok (k := 30) rfl
theorem dX2_addRevert_64 : decode cX2_addRevert 64 = .ok (.iadd, 1) := g_dec dt34_X2_addRevert_ok (k := 31) rfl
theorem dX2_addRevert_65 : decode cX2_addRevert 65 = .ok (.putfield 63, 3) := g_dec dt34_X2_addRevert_ok (k := 32) rfl
theorem dX2_addRevert_68 : decode cX2_addRevert 68 = .ok (.aload 7, 2) := g_dec dt34_X2_addRevert_ok (k := 33) rfl
theorem dX2_addRevert_70 : decode cX2_addRevert 70 = .ok (.areturn, 1) := g_dec dt34_X2_addRevert_ok (k := 34) rfl
def dt35_X2_onesThatAre : List (Nat × Instr × Nat) := [(34, (.iinc 4 1, 3)), (37, (.goto (-32), 3)), (5, (.iload 4, 2)), (7, (.aload_n 0, 1)), (8, (.getfield 63, 3)), (11, (.if_icmp .ge 29, 3)), (40, (.lload_n 2, 1)), (41, (.lreturn, 1)), (14, (.aload_n 0, 1)), (15, (.iload 4, 2)), (17, (.invokevirtual 48, 3)), (20, (.getfield 73, 3)), (23, (.iload_n 1, 1)), (24, (.if_icmp .ne 10, 3)), (27, (.lload_n 2, 1)), (28, (.lconst 1, 1)), (29, (.iload 4, 2)), (31, (.lshl, 1)), (32, (.lor, 1)), (33, (.lstore_n 2, 1)), (0, (.lconst 0, 1)), (1, (.lstore_n 2, 1)), (2, (.iconst 0, 1)), (3, (.istore 4, 2))]
theorem dt35_X2_onesThatAre_ok : ∀ q ∈ dt35_X2_onesThatAre, decode cX2_onesThatAre q.1 = .ok q.2 := by decide +kernel
theorem dX2_onesThatAre_34 : decode cX2_onesThatAre 34 = .ok (.iinc 4 1, 3) := g_dec dt35_X2_onesThatAre_ok (k := 0) rfl
theorem dX2_onesThatAre_37 : decode cX2_onesThatAre 37 = .ok (.goto (-32), 3) := g_dec dt35_X2_onesThatAre_ok (k := 1) rfl
theorem dX2_onesThatAre_5 : decode cX2_onesThatAre 5 = .ok (.iload 4, 2) := g_dec dt35_X2_onesThatAre_ok (k := 2) rfl
theorem dX2_onesThatAre_7 : decode cX2_onesThatAre 7 = .ok (.aload_n 0, 1) := g_dec dt35_X2_onesThatAre_ok (k := 3) rfl
theorem dX2_onesThatAre_8 : decode cX2_onesThatAre 8 = .ok (.getfield 63, 3) := g_dec dt35_X2_onesThatAre_ok (k := 4) rfl
theorem dX2_onesThatAre_11 : decode cX2_onesThatAre 11 = .ok (.if_icmp .ge 29, 3) := g_dec dt35_X2_onesThatAre_ok (k := 5) rfl
theorem dX2_onesThatAre_40 : decode cX2_onesThatAre 40 = .ok (.lload_n 2, 1) := g_dec dt35_X2_onesThatAre_ok (k := 6) rfl
theorem dX2_onesThatAre_41 : decode cX2_onesThatAre 41 = .ok (.lreturn, 1) := g_dec dt35_X2_onesThatAre_ok (k := 7) rfl
theorem dX2_onesThatAre_14 : decode cX2_onesThatAre 14 = .ok (.aload_n 0, 1) := g_dec dt35_X2_onesThatAre_ok (k := 8) rfl
theorem dX2_onesThatAre_15 : decode cX2_onesThatAre 15 = .ok (.iload 4, 2) := g_dec dt35_X2_onesThatAre_ok (k := 9) rfl
theorem dX2_onesThatAre_17 : decode cX2_onesThatAre 17 = .ok (.invokevirtual 48, 3) := g_dec dt35_X2_onesThatAre_ok (k := 10) rfl
theorem dX2_onesThatAre_20 : decode cX2_onesThatAre 20 = .ok (.getfield 73, 3) := g_dec dt35_X2_onesThatAre_ok (k := 11) rfl
theorem dX2_onesThatAre_23 : decode cX2_onesThatAre 23 = .ok (.iload_n 1, 1) := g_dec dt35_X2_onesThatAre_ok (k := 12) rfl
theorem dX2_onesThatAre_24 : decode cX2_onesThatAre 24 = .ok (.if_icmp .ne 10, 3) := g_dec dt35_X2_onesThatAre_ok (k := 13) rfl
theorem dX2_onesThatAre_27 : decode cX2_onesThatAre 27 = .ok (.lload_n 2, 1) := g_dec dt35_X2_onesThatAre_ok (k := 14) rfl
theorem dX2_onesThatAre_28 : decode cX2_onesThatAre 28 = .ok (.lconst 1, 1) := g_dec dt35_X2_onesThatAre_ok (k := 15) rfl
theorem dX2_onesThatAre_29 : decode cX2_onesThatAre 29 = .ok (.iload 4, 2) := g_dec dt35_X2_onesThatAre_ok (k := 16) rfl
theorem dX2_onesThatAre_31 : decode cX2_onesThatAre 31 = .ok (.lshl, 1) := g_dec dt35_X2_onesThatAre_ok (k := 17) rfl
theorem dX2_onesThatAre_32 : decode cX2_onesThatAre 32 = .ok (.lor, 1) := g_dec dt35_X2_onesThatAre_ok (k := 18) rfl
theorem dX2_onesThatAre_33 : decode cX2_onesThatAre 33 = .ok (.lstore_n 2, 1) := g_dec dt35_X2_onesThatAre_ok (k := 19) rfl
theorem dX2_onesThatAre_0 : decode cX2_onesThatAre 0 = .ok (.lconst 0, 1) := g_dec dt35_X2_onesThatAre_ok (k := 20) rfl
theorem dX2_onesThatAre_1 : decode cX2_onesThatAre 1 = .ok (.lstore_n 2, 1) := g_dec dt35_X2_onesThatAre_ok (k := 21) rfl
theorem dX2_onesThatAre_2 : decode cX2_onesThatAre 2 = .ok (.iconst 0, 1) := g_dec dt35_X2_onesThatAre_ok (k := 22) rfl
theorem dX2_onesThatAre_3 : decode cX2_onesThatAre 3 = .ok (.istore 4, 2) := g_dec dt35_X2_onesThatAre_ok (k := 23) rfl
def dt36_X3_reopen : List (Nat × Instr × Nat) := [(0, (.aload_n 0, 1)), (1, (.dup, 1)), (2, (.getfield 24, 3)), (5, (.iconst 1, 1)), (6, (.iadd, 1)), (7, (.putfield 24, 3)), (10, (.aload_n 0, 1)), (11, (.iconst 0, 1)), (12, (.putfield 27, 3)), (15, (.return_, 1))]
theorem dt36_X3_reopen_ok : ∀ q ∈ dt36_X3_reopen, decode cX3_reopen q.1 = .ok q.2 := by decide +kernel
theorem dX3_reopen_0 : decode cX3_reopen 0 = .ok (.aload_n 0, 1) := g_dec dt36_X3_reopen_ok (k := 0) rfl
theorem dX3_reopen_1 : decode cX3_reopen 1 = .ok (.dup, 1) := g_dec dt36_X3_reopen_ok (k := 1) rfl
theorem dX3_reopen_2 : decode cX3_reopen 2 = .ok (.getfield 24, 3) := g_dec dt36_X3_reopen_ok (k := 2) rfl
theorem dX3_reopen_5 : decode cX3_reopen 5 = .ok (.iconst 1, 1) := g_dec dt36_X3_reopen_ok (k := 3) rfl
theorem dX3_reopen_6 : decode cX3_reopen 6 = .ok (.iadd, 1) := g_dec dt36_X3_reopen_ok (k := 4) rfl
theorem dX3_reopen_7 : decode cX3_reopen 7 = .ok (.putfield 24, 3) := g_dec dt36_X3_reopen_ok (k := 5) rfl
theorem dX3_reopen_10 : decode cX3_reopen 10 = .ok (.aload_n 0, 1) := g_dec dt36_X3_reopen_ok (k := 6) rfl
theorem dX3_reopen_11 : decode cX3_reopen 11 = .ok (.iconst 0, 1) := g_dec dt36_X3_reopen_ok (k := 7) rfl
theorem dX3_reopen_12 : decode cX3_reopen 12 = .ok (.putfield 27, 3) := g_dec dt36_X3_reopen_ok (k := 8) rfl
theorem dX3_reopen_15 : decode cX3_reopen 15 = .ok (.return_, 1) := g_dec dt36_X3_reopen_ok (k := 9) rfl
def dt37_X3_isInQuarantine : List (Nat × Instr × Nat) := [(13, (.ireturn, 1)), (0, (.aload_n 0, 1)), (1, (.getfield 30, 3)), (4, (.iconst 2, 1)), (5, (.if_icmp .lt 7, 3)), (12, (.iconst 0, 1)), (8, (.iconst 1, 1)), (9, (.goto 4, 3))]
theorem dt37_X3_isInQuarantine_ok : ∀ q ∈ dt37_X3_isInQuarantine, decode cX3_isInQuarantine q.1 = .ok q.2 := by decide +kernel
theorem dX3_isInQuarantine_13 : decode cX3_isInQuarantine 13 = .ok (.ireturn, 1) := g_dec dt37_X3_isInQuarantine_ok (k := 0) rfl
theorem dX3_isInQuarantine_0 : decode cX3_isInQuarantine 0 = .ok (.aload_n 0, 1) := g_dec dt37_X3_isInQuarantine_ok (k := 1) rfl
theorem dX3_isInQuarantine_1 : decode cX3_isInQuarantine 1 = .ok (.getfield 30, 3) := g_dec dt37_X3_isInQuarantine_ok (k := 2) rfl
theorem dX3_isInQuarantine_4 : decode cX3_isInQuarantine 4 = .ok (.iconst 2, 1) := g_dec dt37_X3_isInQuarantine_ok (k := 3) rfl
theorem dX3_isInQuarantine_5 : decode cX3_isInQuarantine 5 = .ok (.if_icmp .lt 7, 3) := g_dec dt37_X3_isInQuarantine_ok (k := 4) rfl
theorem dX3_isInQuarantine_12 : decode cX3_isInQuarantine 12 = .ok (.iconst 0, 1) := g_dec dt37_X3_isInQuarantine_ok (k := 5) rfl
theorem dX3_isInQuarantine_8 : decode cX3_isInQuarantine 8 = .ok (.iconst 1, 1) := g_dec dt37_X3_isInQuarantine_ok (k := 6) rfl
theorem dX3_isInQuarantine_9 : decode cX3_isInQuarantine 9 = .ok (.goto 4, 3) := g_dec dt37_X3_isInQuarantine_ok (k := 7) rfl
def dt38_X3_allowed : List (Nat × Instr × Nat) := [(12, (.ireturn, 1)), (0, (.aload_n 0, 1)), (1, (.invokevirtual 33, 3)), (4, (.ifCond .eq 7, 3)), (11, (.iconst 2, 1)), (7, (.iconst 5, 1)), (8, (.goto 4, 3))]
theorem dt38_X3_allowed_ok : ∀ q ∈ dt38_X3_allowed, decode cX3_allowed q.1 = .ok q.2 := by decide +kernel
theorem dX3_allowed_12 : decode cX3_allowed 12 = .ok (.ireturn, 1) := g_dec dt38_X3_allowed_ok (k := 0) rfl
theorem dX3_allowed_0 : decode cX3_allowed 0 = .ok (.aload_n 0, 1) := g_dec dt38_X3_allowed_ok (k := 1) rfl
theorem dX3_allowed_1 : decode cX3_allowed 1 = .ok (.invokevirtual 33, 3) := g_dec dt38_X3_allowed_ok (k := 2) rfl
theorem dX3_allowed_4 : decode cX3_allowed 4 = .ok (.ifCond .eq 7, 3) := g_dec dt38_X3_allowed_ok (k := 3) rfl
theorem dX3_allowed_11 : decode cX3_allowed 11 = .ok (.iconst 2, 1) := g_dec dt38_X3_allowed_ok (k := 4) rfl
theorem dX3_allowed_7 : decode cX3_allowed 7 = .ok (.iconst 5, 1) := g_dec dt38_X3_allowed_ok (k := 5) rfl
theorem dX3_allowed_8 : decode cX3_allowed 8 = .ok (.goto 4, 3) := g_dec dt38_X3_allowed_ok (k := 6) rfl
def dt39_X3_breaksARule : List (Nat × Instr × Nat) := [(69, (.iinc 3 4, 3)), (72, (.goto (-70), 3)), (2, (.iload_n 3, 1)), (3, (.iconst 4, 1)), (4, (.iadd, 1)), (5, (.aload_n 0, 1)), (6, (.getfield 14, 3)), (9, (.getfield 52, 3)), (12, (.if_icmp .gt 63, 3)), (75, (.iconst 0, 1)), (76, (.ireturn, 1)), (15, (.lload_n 1, 1)), (16, (.aload_n 0, 1)), (17, (.getfield 14, 3)), (20, (.iload_n 3, 1)), (21, (.invokevirtual 55, 3)), (24, (.invokestatic 59, 3)), (27, (.aload_n 0, 1)), (28, (.getfield 14, 3)), (31, (.iload_n 3, 1)), (32, (.iconst 1, 1)), (33, (.iadd, 1)), (34, (.invokevirtual 55, 3)), (37, (.if_icmp .ne 32, 3)), (40, (.lload_n 1, 1)), (41, (.aload_n 0, 1)), (42, (.getfield 14, 3)), (45, (.iload_n 3, 1)), (46, (.iconst 2, 1)), (47, (.iadd, 1)), (48, (.invokevirtual 55, 3)), (51, (.invokestatic 59, 3)), (54, (.aload_n 0, 1)), (55, (.getfield 14, 3)), (58, (.iload_n 3, 1)), (59, (.iconst 3, 1)), (60, (.iadd, 1)), (61, (.invokevirtual 55, 3)), (64, (.if_icmp .ne 5, 3)), (67, (.iconst 1, 1)), (68, (.ireturn, 1)), (0, (.iconst 0, 1)), (1, (.istore_n 3, 1))]
theorem dt39_X3_breaksARule_ok : ∀ q ∈ dt39_X3_breaksARule, decode cX3_breaksARule q.1 = .ok q.2 := by decide +kernel
theorem dX3_breaksARule_69 : decode cX3_breaksARule 69 = .ok (.iinc 3 4, 3) := g_dec dt39_X3_breaksARule_ok (k := 0) rfl
theorem dX3_breaksARule_72 : decode cX3_breaksARule 72 = .ok (.goto (-70), 3) := g_dec dt39_X3_breaksARule_ok (k := 1) rfl
theorem dX3_breaksARule_2 : decode cX3_breaksARule 2 = .ok (.iload_n 3, 1) := g_dec dt39_X3_breaksARule_ok (k := 2) rfl
theorem dX3_breaksARule_3 : decode cX3_breaksARule 3 = .ok (.iconst 4, 1) := g_dec dt39_X3_breaksARule_ok (k := 3) rfl
theorem dX3_breaksARule_4 : decode cX3_breaksARule 4 = .ok (.iadd, 1) := g_dec dt39_X3_breaksARule_ok (k := 4) rfl
theorem dX3_breaksARule_5 : decode cX3_breaksARule 5 = .ok (.aload_n 0, 1) := g_dec dt39_X3_breaksARule_ok (k := 5) rfl
theorem dX3_breaksARule_6 : decode cX3_breaksARule 6 = .ok (.getfield 14, 3) := g_dec dt39_X3_breaksARule_ok (k := 6) rfl
theorem dX3_breaksARule_9 : decode cX3_breaksARule 9 = .ok (.getfield 52, 3) := g_dec dt39_X3_breaksARule_ok (k := 7) rfl
theorem dX3_breaksARule_12 : decode cX3_breaksARule 12 = .ok (.if_icmp .gt 63, 3) := g_dec dt39_X3_breaksARule_ok (k := 8) rfl
theorem dX3_breaksARule_75 : decode cX3_breaksARule 75 = .ok (.iconst 0, 1) := g_dec dt39_X3_breaksARule_ok (k := 9) rfl
theorem dX3_breaksARule_76 : decode cX3_breaksARule 76 = .ok (.ireturn, 1) := g_dec dt39_X3_breaksARule_ok (k := 10) rfl
theorem dX3_breaksARule_15 : decode cX3_breaksARule 15 = .ok (.lload_n 1, 1) := g_dec dt39_X3_breaksARule_ok (k := 11) rfl
theorem dX3_breaksARule_16 : decode cX3_breaksARule 16 = .ok (.aload_n 0, 1) := g_dec dt39_X3_breaksARule_ok (k := 12) rfl
theorem dX3_breaksARule_17 : decode cX3_breaksARule 17 = .ok (.getfield 14, 3) := g_dec dt39_X3_breaksARule_ok (k := 13) rfl
theorem dX3_breaksARule_20 : decode cX3_breaksARule 20 = .ok (.iload_n 3, 1) := g_dec dt39_X3_breaksARule_ok (k := 14) rfl
theorem dX3_breaksARule_21 : decode cX3_breaksARule 21 = .ok (.invokevirtual 55, 3) := g_dec dt39_X3_breaksARule_ok (k := 15) rfl
theorem dX3_breaksARule_24 : decode cX3_breaksARule 24 = .ok (.invokestatic 59, 3) := g_dec dt39_X3_breaksARule_ok (k := 16) rfl
theorem dX3_breaksARule_27 : decode cX3_breaksARule 27 = .ok (.aload_n 0, 1) := g_dec dt39_X3_breaksARule_ok (k := 17) rfl
theorem dX3_breaksARule_28 : decode cX3_breaksARule 28 = .ok (.getfield 14, 3) := g_dec dt39_X3_breaksARule_ok (k := 18) rfl
theorem dX3_breaksARule_31 : decode cX3_breaksARule 31 = .ok (.iload_n 3, 1) := g_dec dt39_X3_breaksARule_ok (k := 19) rfl
theorem dX3_breaksARule_32 : decode cX3_breaksARule 32 = .ok (.iconst 1, 1) := g_dec dt39_X3_breaksARule_ok (k := 20) rfl
theorem dX3_breaksARule_33 : decode cX3_breaksARule 33 = .ok (.iadd, 1) := g_dec dt39_X3_breaksARule_ok (k := 21) rfl
theorem dX3_breaksARule_34 : decode cX3_breaksARule 34 = .ok (.invokevirtual 55, 3) := g_dec dt39_X3_breaksARule_ok (k := 22) rfl
theorem dX3_breaksARule_37 : decode cX3_breaksARule 37 = .ok (.if_icmp .ne 32, 3) := g_dec dt39_X3_breaksARule_ok (k := 23) rfl
theorem dX3_breaksARule_40 : decode cX3_breaksARule 40 = .ok (.lload_n 1, 1) := g_dec dt39_X3_breaksARule_ok (k := 24) rfl
theorem dX3_breaksARule_41 : decode cX3_breaksARule 41 = .ok (.aload_n 0, 1) := g_dec dt39_X3_breaksARule_ok (k := 25) rfl
theorem dX3_breaksARule_42 : decode cX3_breaksARule 42 = .ok (.getfield 14, 3) := g_dec dt39_X3_breaksARule_ok (k := 26) rfl
theorem dX3_breaksARule_45 : decode cX3_breaksARule 45 = .ok (.iload_n 3, 1) := g_dec dt39_X3_breaksARule_ok (k := 27) rfl
theorem dX3_breaksARule_46 : decode cX3_breaksARule 46 = .ok (.iconst 2, 1) := g_dec dt39_X3_breaksARule_ok (k := 28) rfl
theorem dX3_breaksARule_47 : decode cX3_breaksARule 47 = .ok (.iadd, 1) := g_dec dt39_X3_breaksARule_ok (k := 29) rfl
theorem dX3_breaksARule_48 : decode cX3_breaksARule 48 = .ok (.invokevirtual 55, 3) := g_dec dt39_X3_breaksARule_ok (k := 30) rfl
theorem dX3_breaksARule_51 : decode cX3_breaksARule 51 = .ok (.invokestatic 59, 3) := g_dec dt39_X3_breaksARule_ok (k := 31) rfl
theorem dX3_breaksARule_54 : decode cX3_breaksARule 54 = .ok (.aload_n 0, 1) := g_dec dt39_X3_breaksARule_ok (k := 32) rfl
theorem dX3_breaksARule_55 : decode cX3_breaksARule 55 = .ok (.getfield 14, 3) := g_dec dt39_X3_breaksARule_ok (k := 33) rfl
theorem dX3_breaksARule_58 : decode cX3_breaksARule 58 = .ok (.iload_n 3, 1) := g_dec dt39_X3_breaksARule_ok (k := 34) rfl
theorem dX3_breaksARule_59 : decode cX3_breaksARule 59 = .ok (.iconst 3, 1) := g_dec dt39_X3_breaksARule_ok (k := 35) rfl
theorem dX3_breaksARule_60 : decode cX3_breaksARule 60 = .ok (.iadd, 1) := g_dec dt39_X3_breaksARule_ok (k := 36) rfl
theorem dX3_breaksARule_61 : decode cX3_breaksARule 61 = .ok (.invokevirtual 55, 3) := g_dec dt39_X3_breaksARule_ok (k := 37) rfl
theorem dX3_breaksARule_64 : decode cX3_breaksARule 64 = .ok (.if_icmp .ne 5, 3) := g_dec dt39_X3_breaksARule_ok (k := 38) rfl
theorem dX3_breaksARule_67 : decode cX3_breaksARule 67 = .ok (.iconst 1, 1) := g_dec dt39_X3_breaksARule_ok (k := 39) rfl
theorem dX3_breaksARule_68 : decode cX3_breaksARule 68 = .ok (.ireturn, 1) := g_dec dt39_X3_breaksARule_ok (k := 40) rfl
theorem dX3_breaksARule_0 : decode cX3_breaksARule 0 = .ok (.iconst 0, 1) := g_dec dt39_X3_breaksARule_ok (k := 41) rfl
theorem dX3_breaksARule_1 : decode cX3_breaksARule 1 = .ok (.istore_n 3, 1) := g_dec dt39_X3_breaksARule_ok (k := 42) rfl
def dt40_X3_draw : List (Nat × Instr × Nat) := [(50, (.iinc 5 1, 3)), (53, (.goto (-42), 3)), (11, (.iload 5, 2)), (13, (.bipush 12, 2)), (15, (.if_icmp .ge 41, 3)), (56, (.iload 4, 2)), (58, (.i2l, 1)), (59, (.ldc2_w 69, 3)), (62, (.lmul, 1)), (63, (.iload_n 3, 1)), (64, (.i2l, 1)), (65, (.ldc2_w 71, 3)), (68, (.lmul, 1)), (69, (.ladd, 1)), (70, (.ldc2_w 73, 3)), (73, (.lrem, 1)), (74, (.ldc2_w 75, 3)), (77, (.lrem, 1)), (78, (.l2i, 1)), (79, (.ireturn, 1)), (18, (.aload_n 0, 1)), (19, (.getfield 62, 3)), (22, (.iload 5, 2)), (24, (.invokestatic 65, 3)), (27, (.ifCond .eq 23, 3)), (30, (.iload 4, 2)), (32, (.bipush 11, 2)), (34, (.imul, 1)), (35, (.lload_n 1, 1)), (36, (.iload 5, 2)), (38, (.invokestatic 59, 3)), (41, (.iadd, 1)), (42, (.iconst 1, 1)), (43, (.iadd, 1)), (44, (.sipush 10007, 3)), (47, (.irem, 1)), (48, (.istore 4, 2)), (0, (.aload_n 0, 1)), (1, (.getfield 20, 3)), (4, (.iconst 1, 1)), (5, (.iadd, 1)), (6, (.istore 4, 2)), (8, (.iconst 0, 1)), (9, (.istore 5, 2))]
theorem dt40_X3_draw_ok : ∀ q ∈ dt40_X3_draw, decode cX3_draw q.1 = .ok q.2 := by decide +kernel
theorem dX3_draw_50 : decode cX3_draw 50 = .ok (.iinc 5 1, 3) := g_dec dt40_X3_draw_ok (k := 0) rfl
theorem dX3_draw_53 : decode cX3_draw 53 = .ok (.goto (-42), 3) := g_dec dt40_X3_draw_ok (k := 1) rfl
theorem dX3_draw_11 : decode cX3_draw 11 = .ok (.iload 5, 2) := g_dec dt40_X3_draw_ok (k := 2) rfl
theorem dX3_draw_13 : decode cX3_draw 13 = .ok (.bipush 12, 2) := g_dec dt40_X3_draw_ok (k := 3) rfl
theorem dX3_draw_15 : decode cX3_draw 15 = .ok (.if_icmp .ge 41, 3) := g_dec dt40_X3_draw_ok (k := 4) rfl
theorem dX3_draw_56 : decode cX3_draw 56 = .ok (.iload 4, 2) := g_dec dt40_X3_draw_ok (k := 5) rfl
theorem dX3_draw_58 : decode cX3_draw 58 = .ok (.i2l, 1) := g_dec dt40_X3_draw_ok (k := 6) rfl
theorem dX3_draw_59 : decode cX3_draw 59 = .ok (.ldc2_w 69, 3) := g_dec dt40_X3_draw_ok (k := 7) rfl
theorem dX3_draw_62 : decode cX3_draw 62 = .ok (.lmul, 1) := g_dec dt40_X3_draw_ok (k := 8) rfl
theorem dX3_draw_63 : decode cX3_draw 63 = .ok (.iload_n 3, 1) := g_dec dt40_X3_draw_ok (k := 9) rfl
theorem dX3_draw_64 : decode cX3_draw 64 = .ok (.i2l, 1) := g_dec dt40_X3_draw_ok (k := 10) rfl
theorem dX3_draw_65 : decode cX3_draw 65 = .ok (.ldc2_w 71, 3) := g_dec dt40_X3_draw_ok (k := 11) rfl
theorem dX3_draw_68 : decode cX3_draw 68 = .ok (.lmul, 1) := g_dec dt40_X3_draw_ok (k := 12) rfl
theorem dX3_draw_69 : decode cX3_draw 69 = .ok (.ladd, 1) := g_dec dt40_X3_draw_ok (k := 13) rfl
theorem dX3_draw_70 : decode cX3_draw 70 = .ok (.ldc2_w 73, 3) := g_dec dt40_X3_draw_ok (k := 14) rfl
theorem dX3_draw_73 : decode cX3_draw 73 = .ok (.lrem, 1) := g_dec dt40_X3_draw_ok (k := 15) rfl
theorem dX3_draw_74 : decode cX3_draw 74 = .ok (.ldc2_w 75, 3) := g_dec dt40_X3_draw_ok (k := 16) rfl
theorem dX3_draw_77 : decode cX3_draw 77 = .ok (.lrem, 1) := g_dec dt40_X3_draw_ok (k := 17) rfl
theorem dX3_draw_78 : decode cX3_draw 78 = .ok (.l2i, 1) := g_dec dt40_X3_draw_ok (k := 18) rfl
theorem dX3_draw_79 : decode cX3_draw 79 = .ok (.ireturn, 1) := g_dec dt40_X3_draw_ok (k := 19) rfl
theorem dX3_draw_18 : decode cX3_draw 18 = .ok (.aload_n 0, 1) := g_dec dt40_X3_draw_ok (k := 20) rfl
theorem dX3_draw_19 : decode cX3_draw 19 = .ok (.getfield 62, 3) := g_dec dt40_X3_draw_ok (k := 21) rfl
theorem dX3_draw_22 : decode cX3_draw 22 = .ok (.iload 5, 2) := g_dec dt40_X3_draw_ok (k := 22) rfl
theorem dX3_draw_24 : decode cX3_draw 24 = .ok (.invokestatic 65, 3) := g_dec dt40_X3_draw_ok (k := 23) rfl
theorem dX3_draw_27 : decode cX3_draw 27 = .ok (.ifCond .eq 23, 3) := g_dec dt40_X3_draw_ok (k := 24) rfl
theorem dX3_draw_30 : decode cX3_draw 30 = .ok (.iload 4, 2) := g_dec dt40_X3_draw_ok (k := 25) rfl
theorem dX3_draw_32 : decode cX3_draw 32 = .ok (.bipush 11, 2) := g_dec dt40_X3_draw_ok (k := 26) rfl
theorem dX3_draw_34 : decode cX3_draw 34 = .ok (.imul, 1) := g_dec dt40_X3_draw_ok (k := 27) rfl
theorem dX3_draw_35 : decode cX3_draw 35 = .ok (.lload_n 1, 1) := g_dec dt40_X3_draw_ok (k := 28) rfl
theorem dX3_draw_36 : decode cX3_draw 36 = .ok (.iload 5, 2) := g_dec dt40_X3_draw_ok (k := 29) rfl
theorem dX3_draw_38 : decode cX3_draw 38 = .ok (.invokestatic 59, 3) := g_dec dt40_X3_draw_ok (k := 30) rfl
theorem dX3_draw_41 : decode cX3_draw 41 = .ok (.iadd, 1) := g_dec dt40_X3_draw_ok (k := 31) rfl
theorem dX3_draw_42 : decode cX3_draw 42 = .ok (.iconst 1, 1) := g_dec dt40_X3_draw_ok (k := 32) rfl
theorem dX3_draw_43 : decode cX3_draw 43 = .ok (.iadd, 1) := g_dec dt40_X3_draw_ok (k := 33) rfl
theorem dX3_draw_44 : decode cX3_draw 44 = .ok (.sipush 10007, 3) := g_dec dt40_X3_draw_ok (k := 34) rfl
theorem dX3_draw_47 : decode cX3_draw 47 = .ok (.irem, 1) := g_dec dt40_X3_draw_ok (k := 35) rfl
theorem dX3_draw_48 : decode cX3_draw 48 = .ok (.istore 4, 2) := g_dec dt40_X3_draw_ok (k := 36) rfl
theorem dX3_draw_0 : decode cX3_draw 0 = .ok (.aload_n 0, 1) := g_dec dt40_X3_draw_ok (k := 37) rfl
theorem dX3_draw_1 : decode cX3_draw 1 = .ok (.getfield 20, 3) := g_dec dt40_X3_draw_ok (k := 38) rfl
theorem dX3_draw_4 : decode cX3_draw 4 = .ok (.iconst 1, 1) := g_dec dt40_X3_draw_ok (k := 39) rfl
theorem dX3_draw_5 : decode cX3_draw 5 = .ok (.iadd, 1) := g_dec dt40_X3_draw_ok (k := 40) rfl
theorem dX3_draw_6 : decode cX3_draw 6 = .ok (.istore 4, 2) := g_dec dt40_X3_draw_ok (k := 41) rfl
theorem dX3_draw_8 : decode cX3_draw 8 = .ok (.iconst 0, 1) := g_dec dt40_X3_draw_ok (k := 42) rfl
theorem dX3_draw_9 : decode cX3_draw 9 = .ok (.istore 5, 2) := g_dec dt40_X3_draw_ok (k := 43) rfl
def dt41_X3_fails : List (Nat × Instr × Nat) := [(33, (.ireturn, 1)), (28, (.iconst 1, 1)), (29, (.goto 4, 3)), (0, (.aload_n 0, 1)), (1, (.getfield 37, 3)), (4, (.ifCond .ne 24, 3)), (7, (.aload_n 0, 1)), (8, (.lload_n 1, 1)), (9, (.invokevirtual 41, 3)), (12, (.ifCond .ne 16, 3)), (15, (.aload_n 0, 1)), (16, (.lload_n 1, 1)), (17, (.iload_n 3, 1)), (18, (.invokevirtual 45, 3)), (21, (.aload_n 0, 1)), (22, (.getfield 49, 3)), (25, (.if_icmp .ge 7, 3)), (32, (.iconst 0, 1))]
theorem dt41_X3_fails_ok : ∀ q ∈ dt41_X3_fails, decode cX3_fails q.1 = .ok q.2 := by decide +kernel
theorem dX3_fails_33 : decode cX3_fails 33 = .ok (.ireturn, 1) := g_dec dt41_X3_fails_ok (k := 0) rfl
theorem dX3_fails_28 : decode cX3_fails 28 = .ok (.iconst 1, 1) := g_dec dt41_X3_fails_ok (k := 1) rfl
theorem dX3_fails_29 : decode cX3_fails 29 = .ok (.goto 4, 3) := g_dec dt41_X3_fails_ok (k := 2) rfl
theorem dX3_fails_0 : decode cX3_fails 0 = .ok (.aload_n 0, 1) := g_dec dt41_X3_fails_ok (k := 3) rfl
theorem dX3_fails_1 : decode cX3_fails 1 = .ok (.getfield 37, 3) := g_dec dt41_X3_fails_ok (k := 4) rfl
theorem dX3_fails_4 : decode cX3_fails 4 = .ok (.ifCond .ne 24, 3) := g_dec dt41_X3_fails_ok (k := 5) rfl
theorem dX3_fails_7 : decode cX3_fails 7 = .ok (.aload_n 0, 1) := g_dec dt41_X3_fails_ok (k := 6) rfl
theorem dX3_fails_8 : decode cX3_fails 8 = .ok (.lload_n 1, 1) := g_dec dt41_X3_fails_ok (k := 7) rfl
theorem dX3_fails_9 : decode cX3_fails 9 = .ok (.invokevirtual 41, 3) := g_dec dt41_X3_fails_ok (k := 8) rfl
theorem dX3_fails_12 : decode cX3_fails 12 = .ok (.ifCond .ne 16, 3) := g_dec dt41_X3_fails_ok (k := 9) rfl
theorem dX3_fails_15 : decode cX3_fails 15 = .ok (.aload_n 0, 1) := g_dec dt41_X3_fails_ok (k := 10) rfl
theorem dX3_fails_16 : decode cX3_fails 16 = .ok (.lload_n 1, 1) := g_dec dt41_X3_fails_ok (k := 11) rfl
theorem dX3_fails_17 : decode cX3_fails 17 = .ok (.iload_n 3, 1) := g_dec dt41_X3_fails_ok (k := 12) rfl
theorem dX3_fails_18 : decode cX3_fails 18 = .ok (.invokevirtual 45, 3) := g_dec dt41_X3_fails_ok (k := 13) rfl
theorem dX3_fails_21 : decode cX3_fails 21 = .ok (.aload_n 0, 1) := g_dec dt41_X3_fails_ok (k := 14) rfl
theorem dX3_fails_22 : decode cX3_fails 22 = .ok (.getfield 49, 3) := g_dec dt41_X3_fails_ok (k := 15) rfl
theorem dX3_fails_25 : decode cX3_fails 25 = .ok (.if_icmp .ge 7, 3) := g_dec dt41_X3_fails_ok (k := 16) rfl
theorem dX3_fails_32 : decode cX3_fails 32 = .ok (.iconst 0, 1) := g_dec dt41_X3_fails_ok (k := 17) rfl
def dt42_X4_nextOf : List (Nat × Instr × Nat) := [(89, (.iinc 4 1, 3)), (92, (.goto (-87), 3)), (86, (.iload 4, 2)), (88, (.istore_n 3, 1)), (61, (.istore 6, 2)), (63, (.iload 6, 2)), (65, (.ifCond .eq 24, 3)), (68, (.iload_n 3, 1)), (69, (.iconst (-1), 1)), (70, (.if_icmp .eq 16, 3)), (73, (.aload 5, 2)), (75, (.aload_n 0, 1)), (76, (.iload_n 3, 1)), (77, (.invokevirtual 56, 3)), (80, (.invokevirtual 65, 3)), (83, (.ifCond .eq 6, 3)), (60, (.iconst 0, 1)), (56, (.iconst 1, 1)), (57, (.goto 4, 3)), (5, (.iload 4, 2)), (7, (.aload_n 0, 1)), (8, (.getfield 55, 3)), (11, (.if_icmp .ge 84, 3)), (95, (.iload_n 3, 1)), (96, (.ireturn, 1)), (14, (.aload_n 0, 1)), (15, (.iload 4, 2)), (17, (.invokevirtual 56, 3)), (20, (.astore 5, 2)), (22, (.lload_n 1, 1)), (23, (.iload 4, 2)), (25, (.lushr, 1)), (26, (.lconst 1, 1)), (27, (.land, 1)), (28, (.lconst 0, 1)), (29, (.lcmp, 1)), (30, (.ifCond .eq 30, 3)), (33, (.aload 5, 2)), (35, (.getfield 60, 3)), (38, (.iconst (-1), 1)), (39, (.if_icmp .eq 17, 3)), (42, (.lload_n 1, 1)), (43, (.aload 5, 2)), (45, (.getfield 60, 3)), (48, (.lushr, 1)), (49, (.lconst 1, 1)), (50, (.land, 1)), (51, (.lconst 0, 1)), (52, (.lcmp, 1)), (53, (.ifCond .ne 7, 3)), (0, (.iconst (-1), 1)), (1, (.istore_n 3, 1)), (2, (.iconst 0, 1)), (3, (.istore 4, 2))]
theorem dt42_X4_nextOf_ok : ∀ q ∈ dt42_X4_nextOf, decode cX4_nextOf q.1 = .ok q.2 := by decide +kernel
theorem dX4_nextOf_89 : decode cX4_nextOf 89 = .ok (.iinc 4 1, 3) := g_dec dt42_X4_nextOf_ok (k := 0) rfl
theorem dX4_nextOf_92 : decode cX4_nextOf 92 = .ok (.goto (-87), 3) := g_dec dt42_X4_nextOf_ok (k := 1) rfl
theorem dX4_nextOf_86 : decode cX4_nextOf 86 = .ok (.iload 4, 2) := g_dec dt42_X4_nextOf_ok (k := 2) rfl
theorem dX4_nextOf_88 : decode cX4_nextOf 88 = .ok (.istore_n 3, 1) := g_dec dt42_X4_nextOf_ok (k := 3) rfl
theorem dX4_nextOf_61 : decode cX4_nextOf 61 = .ok (.istore 6, 2) := g_dec dt42_X4_nextOf_ok (k := 4) rfl
theorem dX4_nextOf_63 : decode cX4_nextOf 63 = .ok (.iload 6, 2) := g_dec dt42_X4_nextOf_ok (k := 5) rfl
theorem dX4_nextOf_65 : decode cX4_nextOf 65 = .ok (.ifCond .eq 24, 3) := g_dec dt42_X4_nextOf_ok (k := 6) rfl
theorem dX4_nextOf_68 : decode cX4_nextOf 68 = .ok (.iload_n 3, 1) := g_dec dt42_X4_nextOf_ok (k := 7) rfl
theorem dX4_nextOf_69 : decode cX4_nextOf 69 = .ok (.iconst (-1), 1) := g_dec dt42_X4_nextOf_ok (k := 8) rfl
theorem dX4_nextOf_70 : decode cX4_nextOf 70 = .ok (.if_icmp .eq 16, 3) := g_dec dt42_X4_nextOf_ok (k := 9) rfl
theorem dX4_nextOf_73 : decode cX4_nextOf 73 = .ok (.aload 5, 2) := g_dec dt42_X4_nextOf_ok (k := 10) rfl
theorem dX4_nextOf_75 : decode cX4_nextOf 75 = .ok (.aload_n 0, 1) := g_dec dt42_X4_nextOf_ok (k := 11) rfl
theorem dX4_nextOf_76 : decode cX4_nextOf 76 = .ok (.iload_n 3, 1) := g_dec dt42_X4_nextOf_ok (k := 12) rfl
theorem dX4_nextOf_77 : decode cX4_nextOf 77 = .ok (.invokevirtual 56, 3) := g_dec dt42_X4_nextOf_ok (k := 13) rfl
theorem dX4_nextOf_80 : decode cX4_nextOf 80 = .ok (.invokevirtual 65, 3) := g_dec dt42_X4_nextOf_ok (k := 14) rfl
theorem dX4_nextOf_83 : decode cX4_nextOf 83 = .ok (.ifCond .eq 6, 3) := g_dec dt42_X4_nextOf_ok (k := 15) rfl
theorem dX4_nextOf_60 : decode cX4_nextOf 60 = .ok (.iconst 0, 1) := g_dec dt42_X4_nextOf_ok (k := 16) rfl
theorem dX4_nextOf_56 : decode cX4_nextOf 56 = .ok (.iconst 1, 1) := g_dec dt42_X4_nextOf_ok (k := 17) rfl
theorem dX4_nextOf_57 : decode cX4_nextOf 57 = .ok (.goto 4, 3) := g_dec dt42_X4_nextOf_ok (k := 18) rfl
theorem dX4_nextOf_5 : decode cX4_nextOf 5 = .ok (.iload 4, 2) := g_dec dt42_X4_nextOf_ok (k := 19) rfl
theorem dX4_nextOf_7 : decode cX4_nextOf 7 = .ok (.aload_n 0, 1) := g_dec dt42_X4_nextOf_ok (k := 20) rfl
theorem dX4_nextOf_8 : decode cX4_nextOf 8 = .ok (.getfield 55, 3) := g_dec dt42_X4_nextOf_ok (k := 21) rfl
theorem dX4_nextOf_11 : decode cX4_nextOf 11 = .ok (.if_icmp .ge 84, 3) := g_dec dt42_X4_nextOf_ok (k := 22) rfl
theorem dX4_nextOf_95 : decode cX4_nextOf 95 = .ok (.iload_n 3, 1) := g_dec dt42_X4_nextOf_ok (k := 23) rfl
theorem dX4_nextOf_96 : decode cX4_nextOf 96 = .ok (.ireturn, 1) := g_dec dt42_X4_nextOf_ok (k := 24) rfl
theorem dX4_nextOf_14 : decode cX4_nextOf 14 = .ok (.aload_n 0, 1) := g_dec dt42_X4_nextOf_ok (k := 25) rfl
theorem dX4_nextOf_15 : decode cX4_nextOf 15 = .ok (.iload 4, 2) := g_dec dt42_X4_nextOf_ok (k := 26) rfl
theorem dX4_nextOf_17 : decode cX4_nextOf 17 = .ok (.invokevirtual 56, 3) := g_dec dt42_X4_nextOf_ok (k := 27) rfl
theorem dX4_nextOf_20 : decode cX4_nextOf 20 = .ok (.astore 5, 2) := g_dec dt42_X4_nextOf_ok (k := 28) rfl
theorem dX4_nextOf_22 : decode cX4_nextOf 22 = .ok (.lload_n 1, 1) := g_dec dt42_X4_nextOf_ok (k := 29) rfl
theorem dX4_nextOf_23 : decode cX4_nextOf 23 = .ok (.iload 4, 2) := g_dec dt42_X4_nextOf_ok (k := 30) rfl
theorem dX4_nextOf_25 : decode cX4_nextOf 25 = .ok (.lushr, 1) := g_dec dt42_X4_nextOf_ok (k := 31) rfl
theorem dX4_nextOf_26 : decode cX4_nextOf 26 = .ok (.lconst 1, 1) := g_dec dt42_X4_nextOf_ok (k := 32) rfl
theorem dX4_nextOf_27 : decode cX4_nextOf 27 = .ok (.land, 1) := g_dec dt42_X4_nextOf_ok (k := 33) rfl
theorem dX4_nextOf_28 : decode cX4_nextOf 28 = .ok (.lconst 0, 1) := g_dec dt42_X4_nextOf_ok (k := 34) rfl
theorem dX4_nextOf_29 : decode cX4_nextOf 29 = .ok (.lcmp, 1) := g_dec dt42_X4_nextOf_ok (k := 35) rfl
theorem dX4_nextOf_30 : decode cX4_nextOf 30 = .ok (.ifCond .eq 30, 3) := g_dec dt42_X4_nextOf_ok (k := 36) rfl
theorem dX4_nextOf_33 : decode cX4_nextOf 33 = .ok (.aload 5, 2) := g_dec dt42_X4_nextOf_ok (k := 37) rfl
theorem dX4_nextOf_35 : decode cX4_nextOf 35 = .ok (.getfield 60, 3) := g_dec dt42_X4_nextOf_ok (k := 38) rfl
theorem dX4_nextOf_38 : decode cX4_nextOf 38 = .ok (.iconst (-1), 1) := g_dec dt42_X4_nextOf_ok (k := 39) rfl
theorem dX4_nextOf_39 : decode cX4_nextOf 39 = .ok (.if_icmp .eq 17, 3) := g_dec dt42_X4_nextOf_ok (k := 40) rfl
theorem dX4_nextOf_42 : decode cX4_nextOf 42 = .ok (.lload_n 1, 1) := g_dec dt42_X4_nextOf_ok (k := 41) rfl
theorem dX4_nextOf_43 : decode cX4_nextOf 43 = .ok (.aload 5, 2) := g_dec dt42_X4_nextOf_ok (k := 42) rfl
theorem dX4_nextOf_45 : decode cX4_nextOf 45 = .ok (.getfield 60, 3) := g_dec dt42_X4_nextOf_ok (k := 43) rfl
theorem dX4_nextOf_48 : decode cX4_nextOf 48 = .ok (.lushr, 1) := g_dec dt42_X4_nextOf_ok (k := 44) rfl
theorem dX4_nextOf_49 : decode cX4_nextOf 49 = .ok (.lconst 1, 1) := g_dec dt42_X4_nextOf_ok (k := 45) rfl
theorem dX4_nextOf_50 : decode cX4_nextOf 50 = .ok (.land, 1) := g_dec dt42_X4_nextOf_ok (k := 46) rfl
theorem dX4_nextOf_51 : decode cX4_nextOf 51 = .ok (.lconst 0, 1) := g_dec dt42_X4_nextOf_ok (k := 47) rfl
theorem dX4_nextOf_52 : decode cX4_nextOf 52 = .ok (.lcmp, 1) := g_dec dt42_X4_nextOf_ok (k := 48) rfl
theorem dX4_nextOf_53 : decode cX4_nextOf 53 = .ok (.ifCond .ne 7, 3) := g_dec dt42_X4_nextOf_ok (k := 49) rfl
theorem dX4_nextOf_0 : decode cX4_nextOf 0 = .ok (.iconst (-1), 1) := g_dec dt42_X4_nextOf_ok (k := 50) rfl
theorem dX4_nextOf_1 : decode cX4_nextOf 1 = .ok (.istore_n 3, 1) := g_dec dt42_X4_nextOf_ok (k := 51) rfl
theorem dX4_nextOf_2 : decode cX4_nextOf 2 = .ok (.iconst 0, 1) := g_dec dt42_X4_nextOf_ok (k := 52) rfl
theorem dX4_nextOf_3 : decode cX4_nextOf 3 = .ok (.istore 4, 2) := g_dec dt42_X4_nextOf_ok (k := 53) rfl
def dt43_X4_putInOrder : List (Nat × Instr × Nat) := [(71, (.return_, 1)), (17, (.iload 4, 2)), (19, (.bipush 60, 2)), (21, (.if_icmp .ge 50, 3)), (24, (.lload_n 2, 1)), (25, (.lconst 0, 1)), (26, (.lcmp, 1)), (27, (.ifCond .eq 44, 3)), (30, (.aload_n 1, 1)), (31, (.lload_n 2, 1)), (32, (.invokestatic 45, 3)), (35, (.istore 5, 2)), (37, (.iload 5, 2)), (39, (.iconst (-1), 1)), (40, (.if_icmp .ne 4, 3)), (44, (.aload_n 0, 1)), (45, (.getfield 23, 3)), (48, (.iload 5, 2)), (50, (.i2l, 1)), (51, (.invokevirtual 49, 3)), (54, (.lload_n 2, 1)), (55, (.lconst 1, 1)), (56, (.iload 5, 2)), (58, (.lshl, 1)), (59, (.ldc2_w 53, 3)), (62, (.lxor, 1)), (63, (.land, 1)), (64, (.lstore_n 2, 1)), (65, (.iinc 4 1, 3)), (68, (.goto (-51), 3)), (43, (.return_, 1)), (0, (.aload_n 0, 1)), (1, (.getfield 23, 3)), (4, (.iconst 0, 1)), (5, (.putfield 36, 3)), (8, (.aload_n 1, 1)), (9, (.iconst 1, 1)), (10, (.invokevirtual 39, 3)), (13, (.lstore_n 2, 1)), (14, (.iconst 0, 1)), (15, (.istore 4, 2))]
theorem dt43_X4_putInOrder_ok : ∀ q ∈ dt43_X4_putInOrder, decode cX4_putInOrder q.1 = .ok q.2 := by decide +kernel
theorem dX4_putInOrder_71 : decode cX4_putInOrder 71 = .ok (.return_, 1) := g_dec dt43_X4_putInOrder_ok (k := 0) rfl
theorem dX4_putInOrder_17 : decode cX4_putInOrder 17 = .ok (.iload 4, 2) := g_dec dt43_X4_putInOrder_ok (k := 1) rfl
theorem dX4_putInOrder_19 : decode cX4_putInOrder 19 = .ok (.bipush 60, 2) := g_dec dt43_X4_putInOrder_ok (k := 2) rfl
theorem dX4_putInOrder_21 : decode cX4_putInOrder 21 = .ok (.if_icmp .ge 50, 3) := g_dec dt43_X4_putInOrder_ok (k := 3) rfl
theorem dX4_putInOrder_24 : decode cX4_putInOrder 24 = .ok (.lload_n 2, 1) := g_dec dt43_X4_putInOrder_ok (k := 4) rfl
theorem dX4_putInOrder_25 : decode cX4_putInOrder 25 = .ok (.lconst 0, 1) := g_dec dt43_X4_putInOrder_ok (k := 5) rfl
theorem dX4_putInOrder_26 : decode cX4_putInOrder 26 = .ok (.lcmp, 1) := g_dec dt43_X4_putInOrder_ok (k := 6) rfl
theorem dX4_putInOrder_27 : decode cX4_putInOrder 27 = .ok (.ifCond .eq 44, 3) := g_dec dt43_X4_putInOrder_ok (k := 7) rfl
theorem dX4_putInOrder_30 : decode cX4_putInOrder 30 = .ok (.aload_n 1, 1) := g_dec dt43_X4_putInOrder_ok (k := 8) rfl
theorem dX4_putInOrder_31 : decode cX4_putInOrder 31 = .ok (.lload_n 2, 1) := g_dec dt43_X4_putInOrder_ok (k := 9) rfl
theorem dX4_putInOrder_32 : decode cX4_putInOrder 32 = .ok (.invokestatic 45, 3) := g_dec dt43_X4_putInOrder_ok (k := 10) rfl
theorem dX4_putInOrder_35 : decode cX4_putInOrder 35 = .ok (.istore 5, 2) := g_dec dt43_X4_putInOrder_ok (k := 11) rfl
theorem dX4_putInOrder_37 : decode cX4_putInOrder 37 = .ok (.iload 5, 2) := g_dec dt43_X4_putInOrder_ok (k := 12) rfl
theorem dX4_putInOrder_39 : decode cX4_putInOrder 39 = .ok (.iconst (-1), 1) := g_dec dt43_X4_putInOrder_ok (k := 13) rfl
theorem dX4_putInOrder_40 : decode cX4_putInOrder 40 = .ok (.if_icmp .ne 4, 3) := g_dec dt43_X4_putInOrder_ok (k := 14) rfl
theorem dX4_putInOrder_44 : decode cX4_putInOrder 44 = .ok (.aload_n 0, 1) := g_dec dt43_X4_putInOrder_ok (k := 15) rfl
theorem dX4_putInOrder_45 : decode cX4_putInOrder 45 = .ok (.getfield 23, 3) := g_dec dt43_X4_putInOrder_ok (k := 16) rfl
theorem dX4_putInOrder_48 : decode cX4_putInOrder 48 = .ok (.iload 5, 2) := g_dec dt43_X4_putInOrder_ok (k := 17) rfl
theorem dX4_putInOrder_50 : decode cX4_putInOrder 50 = .ok (.i2l, 1) := g_dec dt43_X4_putInOrder_ok (k := 18) rfl
theorem dX4_putInOrder_51 : decode cX4_putInOrder 51 = .ok (.invokevirtual 49, 3) := g_dec dt43_X4_putInOrder_ok (k := 19) rfl
theorem dX4_putInOrder_54 : decode cX4_putInOrder 54 = .ok (.lload_n 2, 1) := g_dec dt43_X4_putInOrder_ok (k := 20) rfl
theorem dX4_putInOrder_55 : decode cX4_putInOrder 55 = .ok (.lconst 1, 1) := g_dec dt43_X4_putInOrder_ok (k := 21) rfl
theorem dX4_putInOrder_56 : decode cX4_putInOrder 56 = .ok (.iload 5, 2) := g_dec dt43_X4_putInOrder_ok (k := 22) rfl
theorem dX4_putInOrder_58 : decode cX4_putInOrder 58 = .ok (.lshl, 1) := g_dec dt43_X4_putInOrder_ok (k := 23) rfl
theorem dX4_putInOrder_59 : decode cX4_putInOrder 59 = .ok (.ldc2_w 53, 3) := g_dec dt43_X4_putInOrder_ok (k := 24) rfl
theorem dX4_putInOrder_62 : decode cX4_putInOrder 62 = .ok (.lxor, 1) := g_dec dt43_X4_putInOrder_ok (k := 25) rfl
theorem dX4_putInOrder_63 : decode cX4_putInOrder 63 = .ok (.land, 1) := g_dec dt43_X4_putInOrder_ok (k := 26) rfl
theorem dX4_putInOrder_64 : decode cX4_putInOrder 64 = .ok (.lstore_n 2, 1) := g_dec dt43_X4_putInOrder_ok (k := 27) rfl
theorem dX4_putInOrder_65 : decode cX4_putInOrder 65 = .ok (.iinc 4 1, 3) := g_dec dt43_X4_putInOrder_ok (k := 28) rfl
theorem dX4_putInOrder_68 : decode cX4_putInOrder 68 = .ok (.goto (-51), 3) := g_dec dt43_X4_putInOrder_ok (k := 29) rfl
theorem dX4_putInOrder_43 : decode cX4_putInOrder 43 = .ok (.return_, 1) := g_dec dt43_X4_putInOrder_ok (k := 30) rfl
theorem dX4_putInOrder_0 : decode cX4_putInOrder 0 = .ok (.aload_n 0, 1) := g_dec dt43_X4_putInOrder_ok (k := 31) rfl
theorem dX4_putInOrder_1 : decode cX4_putInOrder 1 = .ok (.getfield 23, 3) := g_dec dt43_X4_putInOrder_ok (k := 32) rfl
theorem dX4_putInOrder_4 : decode cX4_putInOrder 4 = .ok (.iconst 0, 1) := g_dec dt43_X4_putInOrder_ok (k := 33) rfl
theorem dX4_putInOrder_5 : decode cX4_putInOrder 5 = .ok (.putfield 36, 3) := g_dec dt43_X4_putInOrder_ok (k := 34) rfl
theorem dX4_putInOrder_8 : decode cX4_putInOrder 8 = .ok (.aload_n 1, 1) := g_dec dt43_X4_putInOrder_ok (k := 35) rfl
theorem dX4_putInOrder_9 : decode cX4_putInOrder 9 = .ok (.iconst 1, 1) := g_dec dt43_X4_putInOrder_ok (k := 36) rfl
theorem dX4_putInOrder_10 : decode cX4_putInOrder 10 = .ok (.invokevirtual 39, 3) := g_dec dt43_X4_putInOrder_ok (k := 37) rfl
theorem dX4_putInOrder_13 : decode cX4_putInOrder 13 = .ok (.lstore_n 2, 1) := g_dec dt43_X4_putInOrder_ok (k := 38) rfl
theorem dX4_putInOrder_14 : decode cX4_putInOrder 14 = .ok (.iconst 0, 1) := g_dec dt43_X4_putInOrder_ok (k := 39) rfl
theorem dX4_putInOrder_15 : decode cX4_putInOrder 15 = .ok (.istore 4, 2) := g_dec dt43_X4_putInOrder_ok (k := 40) rfl
def dt44_X4_formOne : List (Nat × Instr × Nat) := [(138, (.lload 4, 2)), (140, (.lreturn, 1)), (132, (.iinc 7 1, 3)), (135, (.goto (-126), 3)), (68, (.istore 10, 2)), (70, (.iload 10, 2)), (72, (.ifCond .eq 60, 3)), (75, (.aload 9, 2)), (77, (.aload_n 0, 1)), (78, (.getfield 69, 3)), (81, (.invokevirtual 81, 3)), (84, (.ifCond .eq 48, 3)), (87, (.aload 9, 2)), (89, (.lload 4, 2)), (91, (.invokevirtual 85, 3)), (94, (.ifCond .eq 38, 3)), (97, (.aload_n 0, 1)), (98, (.getfield 27, 3)), (101, (.iload 8, 2)), (103, (.i2l, 1)), (104, (.invokevirtual 49, 3)), (107, (.aload_n 0, 1)), (108, (.dup, 1)), (109, (.getfield 69, 3)), (112, (.lconst 1, 1)), (113, (.iload 8, 2)), (115, (.lshl, 1)), (116, (.lor, 1)), (117, (.putfield 69, 3)), (120, (.aload 9, 2)), (122, (.lload 4, 2)), (124, (.invokevirtual 88, 3)), (127, (.lstore 4, 2)), (129, (.iinc 6 1, 3)), (9, (.iload 7, 2)), (11, (.aload_n 0, 1)), (12, (.getfield 23, 3)), (15, (.getfield 36, 3)), (18, (.if_icmp .ge 120, 3)), (21, (.iload 6, 2)), (23, (.aload_n 0, 1)), (24, (.getfield 9, 3)), (27, (.if_icmp .ge 111, 3)), (30, (.aload_n 0, 1)), (31, (.getfield 23, 3)), (34, (.iload 7, 2)), (36, (.invokevirtual 77, 3)), (39, (.istore 8, 2)), (41, (.aload_n 1, 1)), (42, (.iload 8, 2)), (44, (.invokevirtual 56, 3)), (47, (.astore 9, 2)), (49, (.aload_n 0, 1)), (50, (.getfield 69, 3)), (53, (.iload 8, 2)), (55, (.lushr, 1)), (56, (.lconst 1, 1)), (57, (.land, 1)), (58, (.lconst 0, 1)), (59, (.lcmp, 1))]
theorem dt44_X4_formOne_ok : ∀ q ∈ dt44_X4_formOne, decode cX4_formOne q.1 = .ok q.2 := by decide +kernel
theorem dX4_formOne_138 : decode cX4_formOne 138 = .ok (.lload 4, 2) := g_dec dt44_X4_formOne_ok (k := 0) rfl
theorem dX4_formOne_140 : decode cX4_formOne 140 = .ok (.lreturn, 1) := g_dec dt44_X4_formOne_ok (k := 1) rfl
theorem dX4_formOne_132 : decode cX4_formOne 132 = .ok (.iinc 7 1, 3) := g_dec dt44_X4_formOne_ok (k := 2) rfl
theorem dX4_formOne_135 : decode cX4_formOne 135 = .ok (.goto (-126), 3) := g_dec dt44_X4_formOne_ok (k := 3) rfl
theorem dX4_formOne_68 : decode cX4_formOne 68 = .ok (.istore 10, 2) := g_dec dt44_X4_formOne_ok (k := 4) rfl
theorem dX4_formOne_70 : decode cX4_formOne 70 = .ok (.iload 10, 2) := g_dec dt44_X4_formOne_ok (k := 5) rfl
theorem dX4_formOne_72 : decode cX4_formOne 72 = .ok (.ifCond .eq 60, 3) := g_dec dt44_X4_formOne_ok (k := 6) rfl
theorem dX4_formOne_75 : decode cX4_formOne 75 = .ok (.aload 9, 2) := g_dec dt44_X4_formOne_ok (k := 7) rfl
theorem dX4_formOne_77 : decode cX4_formOne 77 = .ok (.aload_n 0, 1) := g_dec dt44_X4_formOne_ok (k := 8) rfl
theorem dX4_formOne_78 : decode cX4_formOne 78 = .ok (.getfield 69, 3) := g_dec dt44_X4_formOne_ok (k := 9) rfl
theorem dX4_formOne_81 : decode cX4_formOne 81 = .ok (.invokevirtual 81, 3) := g_dec dt44_X4_formOne_ok (k := 10) rfl
theorem dX4_formOne_84 : decode cX4_formOne 84 = .ok (.ifCond .eq 48, 3) := g_dec dt44_X4_formOne_ok (k := 11) rfl
theorem dX4_formOne_87 : decode cX4_formOne 87 = .ok (.aload 9, 2) := g_dec dt44_X4_formOne_ok (k := 12) rfl
theorem dX4_formOne_89 : decode cX4_formOne 89 = .ok (.lload 4, 2) := g_dec dt44_X4_formOne_ok (k := 13) rfl
theorem dX4_formOne_91 : decode cX4_formOne 91 = .ok (.invokevirtual 85, 3) := g_dec dt44_X4_formOne_ok (k := 14) rfl
theorem dX4_formOne_94 : decode cX4_formOne 94 = .ok (.ifCond .eq 38, 3) := g_dec dt44_X4_formOne_ok (k := 15) rfl
theorem dX4_formOne_97 : decode cX4_formOne 97 = .ok (.aload_n 0, 1) := g_dec dt44_X4_formOne_ok (k := 16) rfl
theorem dX4_formOne_98 : decode cX4_formOne 98 = .ok (.getfield 27, 3) := g_dec dt44_X4_formOne_ok (k := 17) rfl
theorem dX4_formOne_101 : decode cX4_formOne 101 = .ok (.iload 8, 2) := g_dec dt44_X4_formOne_ok (k := 18) rfl
theorem dX4_formOne_103 : decode cX4_formOne 103 = .ok (.i2l, 1) := g_dec dt44_X4_formOne_ok (k := 19) rfl
theorem dX4_formOne_104 : decode cX4_formOne 104 = .ok (.invokevirtual 49, 3) := g_dec dt44_X4_formOne_ok (k := 20) rfl
theorem dX4_formOne_107 : decode cX4_formOne 107 = .ok (.aload_n 0, 1) := g_dec dt44_X4_formOne_ok (k := 21) rfl
theorem dX4_formOne_108 : decode cX4_formOne 108 = .ok (.dup, 1) := g_dec dt44_X4_formOne_ok (k := 22) rfl
theorem dX4_formOne_109 : decode cX4_formOne 109 = .ok (.getfield 69, 3) := g_dec dt44_X4_formOne_ok (k := 23) rfl
theorem dX4_formOne_112 : decode cX4_formOne 112 = .ok (.lconst 1, 1) := g_dec dt44_X4_formOne_ok (k := 24) rfl
theorem dX4_formOne_113 : decode cX4_formOne 113 = .ok (.iload 8, 2) := g_dec dt44_X4_formOne_ok (k := 25) rfl
theorem dX4_formOne_115 : decode cX4_formOne 115 = .ok (.lshl, 1) := g_dec dt44_X4_formOne_ok (k := 26) rfl
theorem dX4_formOne_116 : decode cX4_formOne 116 = .ok (.lor, 1) := g_dec dt44_X4_formOne_ok (k := 27) rfl
theorem dX4_formOne_117 : decode cX4_formOne 117 = .ok (.putfield 69, 3) := g_dec dt44_X4_formOne_ok (k := 28) rfl
theorem dX4_formOne_120 : decode cX4_formOne 120 = .ok (.aload 9, 2) := g_dec dt44_X4_formOne_ok (k := 29) rfl
theorem dX4_formOne_122 : decode cX4_formOne 122 = .ok (.lload 4, 2) := g_dec dt44_X4_formOne_ok (k := 30) rfl
theorem dX4_formOne_124 : decode cX4_formOne 124 = .ok (.invokevirtual 88, 3) := g_dec dt44_X4_formOne_ok (k := 31) rfl
theorem dX4_formOne_127 : decode cX4_formOne 127 = .ok (.lstore 4, 2) := g_dec dt44_X4_formOne_ok (k := 32) rfl
theorem dX4_formOne_129 : decode cX4_formOne 129 = .ok (.iinc 6 1, 3) := g_dec dt44_X4_formOne_ok (k := 33) rfl
theorem dX4_formOne_9 : decode cX4_formOne 9 = .ok (.iload 7, 2) := g_dec dt44_X4_formOne_ok (k := 34) rfl
theorem dX4_formOne_11 : decode cX4_formOne 11 = .ok (.aload_n 0, 1) := g_dec dt44_X4_formOne_ok (k := 35) rfl
theorem dX4_formOne_12 : decode cX4_formOne 12 = .ok (.getfield 23, 3) := g_dec dt44_X4_formOne_ok (k := 36) rfl
theorem dX4_formOne_15 : decode cX4_formOne 15 = .ok (.getfield 36, 3) := g_dec dt44_X4_formOne_ok (k := 37) rfl
theorem dX4_formOne_18 : decode cX4_formOne 18 = .ok (.if_icmp .ge 120, 3) := g_dec dt44_X4_formOne_ok (k := 38) rfl
theorem dX4_formOne_21 : decode cX4_formOne 21 = .ok (.iload 6, 2) := g_dec dt44_X4_formOne_ok (k := 39) rfl
theorem dX4_formOne_23 : decode cX4_formOne 23 = .ok (.aload_n 0, 1) := g_dec dt44_X4_formOne_ok (k := 40) rfl
theorem dX4_formOne_24 : decode cX4_formOne 24 = .ok (.getfield 9, 3) := g_dec dt44_X4_formOne_ok (k := 41) rfl
theorem dX4_formOne_27 : decode cX4_formOne 27 = .ok (.if_icmp .ge 111, 3) := g_dec dt44_X4_formOne_ok (k := 42) rfl
theorem dX4_formOne_30 : decode cX4_formOne 30 = .ok (.aload_n 0, 1) := g_dec dt44_X4_formOne_ok (k := 43) rfl
theorem dX4_formOne_31 : decode cX4_formOne 31 = .ok (.getfield 23, 3) := g_dec dt44_X4_formOne_ok (k := 44) rfl
theorem dX4_formOne_34 : decode cX4_formOne 34 = .ok (.iload 7, 2) := g_dec dt44_X4_formOne_ok (k := 45) rfl
theorem dX4_formOne_36 : decode cX4_formOne 36 = .ok (.invokevirtual 77, 3) := g_dec dt44_X4_formOne_ok (k := 46) rfl
theorem dX4_formOne_39 : decode cX4_formOne 39 = .ok (.istore 8, 2) := g_dec dt44_X4_formOne_ok (k := 47) rfl
theorem dX4_formOne_41 : decode cX4_formOne 41 = .ok (.aload_n 1, 1) := g_dec dt44_X4_formOne_ok (k := 48) rfl
theorem dX4_formOne_42 : decode cX4_formOne 42 = .ok (.iload 8, 2) := g_dec dt44_X4_formOne_ok (k := 49) rfl
theorem dX4_formOne_44 : decode cX4_formOne 44 = .ok (.invokevirtual 56, 3) := g_dec dt44_X4_formOne_ok (k := 50) rfl
theorem dX4_formOne_47 : decode cX4_formOne 47 = .ok (.astore 9, 2) := g_dec dt44_X4_formOne_ok (k := 51) rfl
theorem dX4_formOne_49 : decode cX4_formOne 49 = .ok (.aload_n 0, 1) := g_dec dt44_X4_formOne_ok (k := 52) rfl
theorem dX4_formOne_50 : decode cX4_formOne 50 = .ok (.getfield 69, 3) := g_dec dt44_X4_formOne_ok (k := 53) rfl
theorem dX4_formOne_53 : decode cX4_formOne 53 = .ok (.iload 8, 2) := g_dec dt44_X4_formOne_ok (k := 54) rfl
theorem dX4_formOne_55 : decode cX4_formOne 55 = .ok (.lushr, 1) := g_dec dt44_X4_formOne_ok (k := 55) rfl
theorem dX4_formOne_56 : decode cX4_formOne 56 = .ok (.lconst 1, 1) := g_dec dt44_X4_formOne_ok (k := 56) rfl
theorem dX4_formOne_57 : decode cX4_formOne 57 = .ok (.land, 1) := g_dec dt44_X4_formOne_ok (k := 57) rfl
theorem dX4_formOne_58 : decode cX4_formOne 58 = .ok (.lconst 0, 1) := g_dec dt44_X4_formOne_ok (k := 58) rfl
theorem dX4_formOne_59 : decode cX4_formOne 59 = .ok (.lcmp, 1) := g_dec dt44_X4_formOne_ok (k := 59) rfl
def dt45_X4_formOne : List (Nat × Instr × Nat) := [(60, (.ifCond .ne 7, 3)), (67, (.iconst 0, 1)), (63, (.iconst 1, 1)), (64, (.goto 4, 3)), (0, (.lload_n 2, 1)), (1, (.lstore 4, 2)), (3, (.iconst 0, 1)), (4, (.istore 6, 2)), (6, (.iconst 0, 1)), (7, (.istore 7, 2))]
theorem dt45_X4_formOne_ok : ∀ q ∈ dt45_X4_formOne, decode cX4_formOne q.1 = .ok q.2 := by decide +kernel
theorem dX4_formOne_60 : decode cX4_formOne 60 = .ok (.ifCond .ne 7, 3) := g_dec dt45_X4_formOne_ok (k := 0) rfl
theorem dX4_formOne_67 : decode cX4_formOne 67 = .ok (.iconst 0, 1) := g_dec dt45_X4_formOne_ok (k := 1) rfl
theorem dX4_formOne_63 : decode cX4_formOne 63 = .ok (.iconst 1, 1) := g_dec dt45_X4_formOne_ok (k := 2) rfl
theorem dX4_formOne_64 : decode cX4_formOne 64 = .ok (.goto 4, 3) := g_dec dt45_X4_formOne_ok (k := 3) rfl
theorem dX4_formOne_0 : decode cX4_formOne 0 = .ok (.lload_n 2, 1) := g_dec dt45_X4_formOne_ok (k := 4) rfl
theorem dX4_formOne_1 : decode cX4_formOne 1 = .ok (.lstore 4, 2) := g_dec dt45_X4_formOne_ok (k := 5) rfl
theorem dX4_formOne_3 : decode cX4_formOne 3 = .ok (.iconst 0, 1) := g_dec dt45_X4_formOne_ok (k := 6) rfl
theorem dX4_formOne_4 : decode cX4_formOne 4 = .ok (.istore 6, 2) := g_dec dt45_X4_formOne_ok (k := 7) rfl
theorem dX4_formOne_6 : decode cX4_formOne 6 = .ok (.iconst 0, 1) := g_dec dt45_X4_formOne_ok (k := 8) rfl
theorem dX4_formOne_7 : decode cX4_formOne 7 = .ok (.istore 7, 2) := g_dec dt45_X4_formOne_ok (k := 9) rfl
def dt46_X4_form : List (Nat × Instr × Nat) := [(115, (.return_, 1)), (39, (.iload 6, 2)), (41, (.aload_n 0, 1)), (42, (.getfield 15, 3)), (45, (.if_icmp .ge 70, 3)), (48, (.iload 6, 2)), (50, (.iconst 4, 1)), (51, (.if_icmp .ge 64, 3)), (54, (.aload_n 0, 1)), (55, (.getfield 27, 3)), (58, (.getfield 36, 3)), (61, (.istore 7, 2)), (63, (.aload_n 0, 1)), (64, (.aload_n 1, 1)), (65, (.lload 4, 2)), (67, (.invokevirtual 73, 3)), (70, (.lstore 4, 2)), (72, (.aload_n 0, 1)), (73, (.getfield 27, 3)), (76, (.getfield 36, 3)), (79, (.iload 7, 2)), (81, (.if_icmp .ne 4, 3)), (85, (.aload_n 0, 1)), (86, (.getfield 30, 3)), (89, (.aload_n 0, 1)), (90, (.getfield 27, 3)), (93, (.getfield 36, 3)), (96, (.i2l, 1)), (97, (.invokevirtual 49, 3)), (100, (.aload_n 0, 1)), (101, (.getfield 33, 3)), (104, (.lload 4, 2)), (106, (.invokevirtual 49, 3)), (109, (.iinc 6 1, 3)), (112, (.goto (-73), 3)), (84, (.return_, 1)), (0, (.aload_n 0, 1)), (1, (.getfield 27, 3)), (4, (.iconst 0, 1)), (5, (.putfield 36, 3)), (8, (.aload_n 0, 1)), (9, (.getfield 30, 3)), (12, (.iconst 0, 1)), (13, (.putfield 36, 3)), (16, (.aload_n 0, 1)), (17, (.getfield 33, 3)), (20, (.iconst 0, 1)), (21, (.putfield 36, 3)), (24, (.aload_n 0, 1)), (25, (.aload_n 1, 1)), (26, (.iconst 2, 1)), (27, (.invokevirtual 39, 3)), (30, (.putfield 69, 3)), (33, (.lload_n 2, 1)), (34, (.lstore 4, 2)), (36, (.iconst 0, 1)), (37, (.istore 6, 2))]
theorem dt46_X4_form_ok : ∀ q ∈ dt46_X4_form, decode cX4_form q.1 = .ok q.2 := by decide +kernel
theorem dX4_form_115 : decode cX4_form 115 = .ok (.return_, 1) := g_dec dt46_X4_form_ok (k := 0) rfl
theorem dX4_form_39 : decode cX4_form 39 = .ok (.iload 6, 2) := g_dec dt46_X4_form_ok (k := 1) rfl
theorem dX4_form_41 : decode cX4_form 41 = .ok (.aload_n 0, 1) := g_dec dt46_X4_form_ok (k := 2) rfl
theorem dX4_form_42 : decode cX4_form 42 = .ok (.getfield 15, 3) := g_dec dt46_X4_form_ok (k := 3) rfl
theorem dX4_form_45 : decode cX4_form 45 = .ok (.if_icmp .ge 70, 3) := g_dec dt46_X4_form_ok (k := 4) rfl
theorem dX4_form_48 : decode cX4_form 48 = .ok (.iload 6, 2) := g_dec dt46_X4_form_ok (k := 5) rfl
theorem dX4_form_50 : decode cX4_form 50 = .ok (.iconst 4, 1) := g_dec dt46_X4_form_ok (k := 6) rfl
theorem dX4_form_51 : decode cX4_form 51 = .ok (.if_icmp .ge 64, 3) := g_dec dt46_X4_form_ok (k := 7) rfl
theorem dX4_form_54 : decode cX4_form 54 = .ok (.aload_n 0, 1) := g_dec dt46_X4_form_ok (k := 8) rfl
theorem dX4_form_55 : decode cX4_form 55 = .ok (.getfield 27, 3) := g_dec dt46_X4_form_ok (k := 9) rfl
theorem dX4_form_58 : decode cX4_form 58 = .ok (.getfield 36, 3) := g_dec dt46_X4_form_ok (k := 10) rfl
theorem dX4_form_61 : decode cX4_form 61 = .ok (.istore 7, 2) := g_dec dt46_X4_form_ok (k := 11) rfl
theorem dX4_form_63 : decode cX4_form 63 = .ok (.aload_n 0, 1) := g_dec dt46_X4_form_ok (k := 12) rfl
theorem dX4_form_64 : decode cX4_form 64 = .ok (.aload_n 1, 1) := g_dec dt46_X4_form_ok (k := 13) rfl
theorem dX4_form_65 : decode cX4_form 65 = .ok (.lload 4, 2) := g_dec dt46_X4_form_ok (k := 14) rfl
theorem dX4_form_67 : decode cX4_form 67 = .ok (.invokevirtual 73, 3) := g_dec dt46_X4_form_ok (k := 15) rfl
theorem dX4_form_70 : decode cX4_form 70 = .ok (.lstore 4, 2) := g_dec dt46_X4_form_ok (k := 16) rfl
theorem dX4_form_72 : decode cX4_form 72 = .ok (.aload_n 0, 1) := g_dec dt46_X4_form_ok (k := 17) rfl
theorem dX4_form_73 : decode cX4_form 73 = .ok (.getfield 27, 3) := g_dec dt46_X4_form_ok (k := 18) rfl
theorem dX4_form_76 : decode cX4_form 76 = .ok (.getfield 36, 3) := g_dec dt46_X4_form_ok (k := 19) rfl
theorem dX4_form_79 : decode cX4_form 79 = .ok (.iload 7, 2) := g_dec dt46_X4_form_ok (k := 20) rfl
theorem dX4_form_81 : decode cX4_form 81 = .ok (.if_icmp .ne 4, 3) := g_dec dt46_X4_form_ok (k := 21) rfl
theorem dX4_form_85 : decode cX4_form 85 = .ok (.aload_n 0, 1) := g_dec dt46_X4_form_ok (k := 22) rfl
theorem dX4_form_86 : decode cX4_form 86 = .ok (.getfield 30, 3) := g_dec dt46_X4_form_ok (k := 23) rfl
theorem dX4_form_89 : decode cX4_form 89 = .ok (.aload_n 0, 1) := g_dec dt46_X4_form_ok (k := 24) rfl
theorem dX4_form_90 : decode cX4_form 90 = .ok (.getfield 27, 3) := g_dec dt46_X4_form_ok (k := 25) rfl
theorem dX4_form_93 : decode cX4_form 93 = .ok (.getfield 36, 3) := g_dec dt46_X4_form_ok (k := 26) rfl
theorem dX4_form_96 : decode cX4_form 96 = .ok (.i2l, 1) := g_dec dt46_X4_form_ok (k := 27) rfl
theorem dX4_form_97 : decode cX4_form 97 = .ok (.invokevirtual 49, 3) := g_dec dt46_X4_form_ok (k := 28) rfl
theorem dX4_form_100 : decode cX4_form 100 = .ok (.aload_n 0, 1) := g_dec dt46_X4_form_ok (k := 29) rfl
theorem dX4_form_101 : decode cX4_form 101 = .ok (.getfield 33, 3) := g_dec dt46_X4_form_ok (k := 30) rfl
theorem dX4_form_104 : decode cX4_form 104 = .ok (.lload 4, 2) := g_dec dt46_X4_form_ok (k := 31) rfl
theorem dX4_form_106 : decode cX4_form 106 = .ok (.invokevirtual 49, 3) := g_dec dt46_X4_form_ok (k := 32) rfl
theorem dX4_form_109 : decode cX4_form 109 = .ok (.iinc 6 1, 3) := g_dec dt46_X4_form_ok (k := 33) rfl
theorem dX4_form_112 : decode cX4_form 112 = .ok (.goto (-73), 3) := g_dec dt46_X4_form_ok (k := 34) rfl
theorem dX4_form_84 : decode cX4_form 84 = .ok (.return_, 1) := g_dec dt46_X4_form_ok (k := 35) rfl
theorem dX4_form_0 : decode cX4_form 0 = .ok (.aload_n 0, 1) := g_dec dt46_X4_form_ok (k := 36) rfl
theorem dX4_form_1 : decode cX4_form 1 = .ok (.getfield 27, 3) := g_dec dt46_X4_form_ok (k := 37) rfl
theorem dX4_form_4 : decode cX4_form 4 = .ok (.iconst 0, 1) := g_dec dt46_X4_form_ok (k := 38) rfl
theorem dX4_form_5 : decode cX4_form 5 = .ok (.putfield 36, 3) := g_dec dt46_X4_form_ok (k := 39) rfl
theorem dX4_form_8 : decode cX4_form 8 = .ok (.aload_n 0, 1) := g_dec dt46_X4_form_ok (k := 40) rfl
theorem dX4_form_9 : decode cX4_form 9 = .ok (.getfield 30, 3) := g_dec dt46_X4_form_ok (k := 41) rfl
theorem dX4_form_12 : decode cX4_form 12 = .ok (.iconst 0, 1) := g_dec dt46_X4_form_ok (k := 42) rfl
theorem dX4_form_13 : decode cX4_form 13 = .ok (.putfield 36, 3) := g_dec dt46_X4_form_ok (k := 43) rfl
theorem dX4_form_16 : decode cX4_form 16 = .ok (.aload_n 0, 1) := g_dec dt46_X4_form_ok (k := 44) rfl
theorem dX4_form_17 : decode cX4_form 17 = .ok (.getfield 33, 3) := g_dec dt46_X4_form_ok (k := 45) rfl
theorem dX4_form_20 : decode cX4_form 20 = .ok (.iconst 0, 1) := g_dec dt46_X4_form_ok (k := 46) rfl
theorem dX4_form_21 : decode cX4_form 21 = .ok (.putfield 36, 3) := g_dec dt46_X4_form_ok (k := 47) rfl
theorem dX4_form_24 : decode cX4_form 24 = .ok (.aload_n 0, 1) := g_dec dt46_X4_form_ok (k := 48) rfl
theorem dX4_form_25 : decode cX4_form 25 = .ok (.aload_n 1, 1) := g_dec dt46_X4_form_ok (k := 49) rfl
theorem dX4_form_26 : decode cX4_form 26 = .ok (.iconst 2, 1) := g_dec dt46_X4_form_ok (k := 50) rfl
theorem dX4_form_27 : decode cX4_form 27 = .ok (.invokevirtual 39, 3) := g_dec dt46_X4_form_ok (k := 51) rfl
theorem dX4_form_30 : decode cX4_form 30 = .ok (.putfield 69, 3) := g_dec dt46_X4_form_ok (k := 52) rfl
theorem dX4_form_33 : decode cX4_form 33 = .ok (.lload_n 2, 1) := g_dec dt46_X4_form_ok (k := 53) rfl
theorem dX4_form_34 : decode cX4_form 34 = .ok (.lstore 4, 2) := g_dec dt46_X4_form_ok (k := 54) rfl
theorem dX4_form_36 : decode cX4_form 36 = .ok (.iconst 0, 1) := g_dec dt46_X4_form_ok (k := 55) rfl
theorem dX4_form_37 : decode cX4_form 37 = .ok (.istore 6, 2) := g_dec dt46_X4_form_ok (k := 56) rfl
def dt47_X4_endOf : List (Nat × Instr × Nat) := [(27, (.ireturn, 1)), (26, (.iconst 0, 1)), (0, (.iload_n 1, 1)), (1, (.ifCond .lt 25, 3)), (4, (.iload_n 1, 1)), (5, (.aload_n 0, 1)), (6, (.getfield 30, 3)), (9, (.getfield 36, 3)), (12, (.if_icmp .ge 14, 3)), (15, (.aload_n 0, 1)), (16, (.getfield 30, 3)), (19, (.iload_n 1, 1)), (20, (.invokevirtual 77, 3)), (23, (.goto 4, 3))]
theorem dt47_X4_endOf_ok : ∀ q ∈ dt47_X4_endOf, decode cX4_endOf q.1 = .ok q.2 := by decide +kernel
theorem dX4_endOf_27 : decode cX4_endOf 27 = .ok (.ireturn, 1) := g_dec dt47_X4_endOf_ok (k := 0) rfl
theorem dX4_endOf_26 : decode cX4_endOf 26 = .ok (.iconst 0, 1) := g_dec dt47_X4_endOf_ok (k := 1) rfl
theorem dX4_endOf_0 : decode cX4_endOf 0 = .ok (.iload_n 1, 1) := g_dec dt47_X4_endOf_ok (k := 2) rfl
theorem dX4_endOf_1 : decode cX4_endOf 1 = .ok (.ifCond .lt 25, 3) := g_dec dt47_X4_endOf_ok (k := 3) rfl
theorem dX4_endOf_4 : decode cX4_endOf 4 = .ok (.iload_n 1, 1) := g_dec dt47_X4_endOf_ok (k := 4) rfl
theorem dX4_endOf_5 : decode cX4_endOf 5 = .ok (.aload_n 0, 1) := g_dec dt47_X4_endOf_ok (k := 5) rfl
theorem dX4_endOf_6 : decode cX4_endOf 6 = .ok (.getfield 30, 3) := g_dec dt47_X4_endOf_ok (k := 6) rfl
theorem dX4_endOf_9 : decode cX4_endOf 9 = .ok (.getfield 36, 3) := g_dec dt47_X4_endOf_ok (k := 7) rfl
theorem dX4_endOf_12 : decode cX4_endOf 12 = .ok (.if_icmp .ge 14, 3) := g_dec dt47_X4_endOf_ok (k := 8) rfl
theorem dX4_endOf_15 : decode cX4_endOf 15 = .ok (.aload_n 0, 1) := g_dec dt47_X4_endOf_ok (k := 9) rfl
theorem dX4_endOf_16 : decode cX4_endOf 16 = .ok (.getfield 30, 3) := g_dec dt47_X4_endOf_ok (k := 10) rfl
theorem dX4_endOf_19 : decode cX4_endOf 19 = .ok (.iload_n 1, 1) := g_dec dt47_X4_endOf_ok (k := 11) rfl
theorem dX4_endOf_20 : decode cX4_endOf 20 = .ok (.invokevirtual 77, 3) := g_dec dt47_X4_endOf_ok (k := 12) rfl
theorem dX4_endOf_23 : decode cX4_endOf 23 = .ok (.goto 4, 3) := g_dec dt47_X4_endOf_ok (k := 13) rfl
def dt48_X4_batchWith : List (Nat × Instr × Nat) := [(48, (.iconst (-1), 1)), (49, (.ireturn, 1)), (12, (.iload_n 3, 1)), (13, (.aload_n 0, 1)), (14, (.getfield 30, 3)), (17, (.getfield 36, 3)), (20, (.if_icmp .ge 28, 3)), (23, (.iload_n 2, 1)), (24, (.iconst (-1), 1)), (25, (.if_icmp .eq 23, 3)), (28, (.iload_n 2, 1)), (29, (.aload_n 0, 1)), (30, (.getfield 30, 3)), (33, (.iload_n 3, 1)), (34, (.invokevirtual 77, 3)), (37, (.if_icmp .ge 5, 3)), (42, (.iinc 3 1, 3)), (45, (.goto (-33), 3)), (40, (.iload_n 3, 1)), (41, (.ireturn, 1)), (0, (.aload_n 0, 1)), (1, (.getfield 27, 3)), (4, (.iload_n 1, 1)), (5, (.i2l, 1)), (6, (.invokevirtual 92, 3)), (9, (.istore_n 2, 1)), (10, (.iconst 0, 1)), (11, (.istore_n 3, 1))]
theorem dt48_X4_batchWith_ok : ∀ q ∈ dt48_X4_batchWith, decode cX4_batchWith q.1 = .ok q.2 := by decide +kernel
theorem dX4_batchWith_48 : decode cX4_batchWith 48 = .ok (.iconst (-1), 1) := g_dec dt48_X4_batchWith_ok (k := 0) rfl
theorem dX4_batchWith_49 : decode cX4_batchWith 49 = .ok (.ireturn, 1) := g_dec dt48_X4_batchWith_ok (k := 1) rfl
theorem dX4_batchWith_12 : decode cX4_batchWith 12 = .ok (.iload_n 3, 1) := g_dec dt48_X4_batchWith_ok (k := 2) rfl
theorem dX4_batchWith_13 : decode cX4_batchWith 13 = .ok (.aload_n 0, 1) := g_dec dt48_X4_batchWith_ok (k := 3) rfl
theorem dX4_batchWith_14 : decode cX4_batchWith 14 = .ok (.getfield 30, 3) := g_dec dt48_X4_batchWith_ok (k := 4) rfl
theorem dX4_batchWith_17 : decode cX4_batchWith 17 = .ok (.getfield 36, 3) := g_dec dt48_X4_batchWith_ok (k := 5) rfl
theorem dX4_batchWith_20 : decode cX4_batchWith 20 = .ok (.if_icmp .ge 28, 3) := g_dec dt48_X4_batchWith_ok (k := 6) rfl
theorem dX4_batchWith_23 : decode cX4_batchWith 23 = .ok (.iload_n 2, 1) := g_dec dt48_X4_batchWith_ok (k := 7) rfl
theorem dX4_batchWith_24 : decode cX4_batchWith 24 = .ok (.iconst (-1), 1) := g_dec dt48_X4_batchWith_ok (k := 8) rfl
theorem dX4_batchWith_25 : decode cX4_batchWith 25 = .ok (.if_icmp .eq 23, 3) := g_dec dt48_X4_batchWith_ok (k := 9) rfl
theorem dX4_batchWith_28 : decode cX4_batchWith 28 = .ok (.iload_n 2, 1) := g_dec dt48_X4_batchWith_ok (k := 10) rfl
theorem dX4_batchWith_29 : decode cX4_batchWith 29 = .ok (.aload_n 0, 1) := g_dec dt48_X4_batchWith_ok (k := 11) rfl
theorem dX4_batchWith_30 : decode cX4_batchWith 30 = .ok (.getfield 30, 3) := g_dec dt48_X4_batchWith_ok (k := 12) rfl
theorem dX4_batchWith_33 : decode cX4_batchWith 33 = .ok (.iload_n 3, 1) := g_dec dt48_X4_batchWith_ok (k := 13) rfl
theorem dX4_batchWith_34 : decode cX4_batchWith 34 = .ok (.invokevirtual 77, 3) := g_dec dt48_X4_batchWith_ok (k := 14) rfl
theorem dX4_batchWith_37 : decode cX4_batchWith 37 = .ok (.if_icmp .ge 5, 3) := g_dec dt48_X4_batchWith_ok (k := 15) rfl
theorem dX4_batchWith_42 : decode cX4_batchWith 42 = .ok (.iinc 3 1, 3) := g_dec dt48_X4_batchWith_ok (k := 16) rfl
theorem dX4_batchWith_45 : decode cX4_batchWith 45 = .ok (.goto (-33), 3) := g_dec dt48_X4_batchWith_ok (k := 17) rfl
theorem dX4_batchWith_40 : decode cX4_batchWith 40 = .ok (.iload_n 3, 1) := g_dec dt48_X4_batchWith_ok (k := 18) rfl
theorem dX4_batchWith_41 : decode cX4_batchWith 41 = .ok (.ireturn, 1) := g_dec dt48_X4_batchWith_ok (k := 19) rfl
theorem dX4_batchWith_0 : decode cX4_batchWith 0 = .ok (.aload_n 0, 1) := g_dec dt48_X4_batchWith_ok (k := 20) rfl
theorem dX4_batchWith_1 : decode cX4_batchWith 1 = .ok (.getfield 27, 3) := g_dec dt48_X4_batchWith_ok (k := 21) rfl
theorem dX4_batchWith_4 : decode cX4_batchWith 4 = .ok (.iload_n 1, 1) := g_dec dt48_X4_batchWith_ok (k := 22) rfl
theorem dX4_batchWith_5 : decode cX4_batchWith 5 = .ok (.i2l, 1) := g_dec dt48_X4_batchWith_ok (k := 23) rfl
theorem dX4_batchWith_6 : decode cX4_batchWith 6 = .ok (.invokevirtual 92, 3) := g_dec dt48_X4_batchWith_ok (k := 24) rfl
theorem dX4_batchWith_9 : decode cX4_batchWith 9 = .ok (.istore_n 2, 1) := g_dec dt48_X4_batchWith_ok (k := 25) rfl
theorem dX4_batchWith_10 : decode cX4_batchWith 10 = .ok (.iconst 0, 1) := g_dec dt48_X4_batchWith_ok (k := 26) rfl
theorem dX4_batchWith_11 : decode cX4_batchWith 11 = .ok (.istore_n 3, 1) := g_dec dt48_X4_batchWith_ok (k := 27) rfl
def dt49_X7_at : List (Nat × Instr × Nat) := [(26, (.aload_n 0, 1)), (27, (.getfield 20, 3)), (30, (.areturn, 1)), (0, (.iload_n 1, 1)), (1, (.ifCond .lt 25, 3)), (4, (.iload_n 1, 1)), (5, (.aload_n 0, 1)), (6, (.getfield 11, 3)), (9, (.arraylength, 1)), (10, (.if_icmp .ge 16, 3)), (13, (.aload_n 0, 1)), (14, (.getfield 11, 3)), (17, (.iload_n 1, 1)), (18, (.aaload, 1)), (19, (.astore_n 2, 1)), (20, (.aload_n 2, 1)), (21, (.ifnull 5, 3)), (24, (.aload_n 2, 1)), (25, (.areturn, 1))]
theorem dt49_X7_at_ok : ∀ q ∈ dt49_X7_at, decode cX7_at q.1 = .ok q.2 := by decide +kernel
theorem dX7_at_26 : decode cX7_at 26 = .ok (.aload_n 0, 1) := g_dec dt49_X7_at_ok (k := 0) rfl
theorem dX7_at_27 : decode cX7_at 27 = .ok (.getfield 20, 3) := g_dec dt49_X7_at_ok (k := 1) rfl
theorem dX7_at_30 : decode cX7_at 30 = .ok (.areturn, 1) := g_dec dt49_X7_at_ok (k := 2) rfl
theorem dX7_at_0 : decode cX7_at 0 = .ok (.iload_n 1, 1) := g_dec dt49_X7_at_ok (k := 3) rfl
theorem dX7_at_1 : decode cX7_at 1 = .ok (.ifCond .lt 25, 3) := g_dec dt49_X7_at_ok (k := 4) rfl
theorem dX7_at_4 : decode cX7_at 4 = .ok (.iload_n 1, 1) := g_dec dt49_X7_at_ok (k := 5) rfl
theorem dX7_at_5 : decode cX7_at 5 = .ok (.aload_n 0, 1) := g_dec dt49_X7_at_ok (k := 6) rfl
theorem dX7_at_6 : decode cX7_at 6 = .ok (.getfield 11, 3) := g_dec dt49_X7_at_ok (k := 7) rfl
theorem dX7_at_9 : decode cX7_at 9 = .ok (.arraylength, 1) := g_dec dt49_X7_at_ok (k := 8) rfl
theorem dX7_at_10 : decode cX7_at 10 = .ok (.if_icmp .ge 16, 3) := g_dec dt49_X7_at_ok (k := 9) rfl
theorem dX7_at_13 : decode cX7_at 13 = .ok (.aload_n 0, 1) := g_dec dt49_X7_at_ok (k := 10) rfl
theorem dX7_at_14 : decode cX7_at 14 = .ok (.getfield 11, 3) := g_dec dt49_X7_at_ok (k := 11) rfl
theorem dX7_at_17 : decode cX7_at 17 = .ok (.iload_n 1, 1) := g_dec dt49_X7_at_ok (k := 12) rfl
theorem dX7_at_18 : decode cX7_at 18 = .ok (.aaload, 1) := g_dec dt49_X7_at_ok (k := 13) rfl
theorem dX7_at_19 : decode cX7_at 19 = .ok (.astore_n 2, 1) := g_dec dt49_X7_at_ok (k := 14) rfl
theorem dX7_at_20 : decode cX7_at 20 = .ok (.aload_n 2, 1) := g_dec dt49_X7_at_ok (k := 15) rfl
theorem dX7_at_21 : decode cX7_at 21 = .ok (.ifnull 5, 3) := g_dec dt49_X7_at_ok (k := 16) rfl
theorem dX7_at_24 : decode cX7_at 24 = .ok (.aload_n 2, 1) := g_dec dt49_X7_at_ok (k := 17) rfl
theorem dX7_at_25 : decode cX7_at 25 = .ok (.areturn, 1) := g_dec dt49_X7_at_ok (k := 18) rfl
def dt50_X7_addCheck : List (Nat × Instr × Nat) := [(0, (.aload_n 0, 1)), (1, (.aload_n 0, 1)), (2, (.getfield 37, 3)), (5, (.invokevirtual 41, 3)), (8, (.astore 4, 2)), (10, (.aload 4, 2)), (12, (.iload_n 1, 1)), (13, (.putfield 45, 3)), (16, (.aload 4, 2)), (18, (.iload_n 1, 1)), (19, (.invokestatic 48, 3)), (22, (.putfield 52, 3)), (25, (.aload 4, 2)), (27, (.iload_n 2, 1)), (28, (.putfield 56, 3)), (31, (.aload 4, 2)), (33, (.iload_n 3, 1)), (34, (.putfield 59, 3)), (37, (.aload_n 0, 1)), (38, (.dup, 1)), (39, (.getfield 37, 3)), (42, (.dup_x1, 1)), (43, (.iconst 1, 1)), (44, (.iadd, 1)), (45, (.putfield 37, 3)), (48, (.ireturn, 1))]
theorem dt50_X7_addCheck_ok : ∀ q ∈ dt50_X7_addCheck, decode cX7_addCheck q.1 = .ok q.2 := by decide +kernel
theorem dX7_addCheck_0 : decode cX7_addCheck 0 = .ok (.aload_n 0, 1) := g_dec dt50_X7_addCheck_ok (k := 0) rfl
theorem dX7_addCheck_1 : decode cX7_addCheck 1 = .ok (.aload_n 0, 1) := g_dec dt50_X7_addCheck_ok (k := 1) rfl
theorem dX7_addCheck_2 : decode cX7_addCheck 2 = .ok (.getfield 37, 3) := g_dec dt50_X7_addCheck_ok (k := 2) rfl
theorem dX7_addCheck_5 : decode cX7_addCheck 5 = .ok (.invokevirtual 41, 3) := g_dec dt50_X7_addCheck_ok (k := 3) rfl
theorem dX7_addCheck_8 : decode cX7_addCheck 8 = .ok (.astore 4, 2) := g_dec dt50_X7_addCheck_ok (k := 4) rfl
theorem dX7_addCheck_10 : decode cX7_addCheck 10 = .ok (.aload 4, 2) := g_dec dt50_X7_addCheck_ok (k := 5) rfl
theorem dX7_addCheck_12 : decode cX7_addCheck 12 = .ok (.iload_n 1, 1) := g_dec dt50_X7_addCheck_ok (k := 6) rfl
theorem dX7_addCheck_13 : decode cX7_addCheck 13 = .ok (.putfield 45, 3) := g_dec dt50_X7_addCheck_ok (k := 7) rfl
theorem dX7_addCheck_16 : decode cX7_addCheck 16 = .ok (.aload 4, 2) := g_dec dt50_X7_addCheck_ok (k := 8) rfl
theorem dX7_addCheck_18 : decode cX7_addCheck 18 = .ok (.iload_n 1, 1) := g_dec dt50_X7_addCheck_ok (k := 9) rfl
theorem dX7_addCheck_19 : decode cX7_addCheck 19 = .ok (.invokestatic 48, 3) := g_dec dt50_X7_addCheck_ok (k := 10) rfl
theorem dX7_addCheck_22 : decode cX7_addCheck 22 = .ok (.putfield 52, 3) := g_dec dt50_X7_addCheck_ok (k := 11) rfl
theorem dX7_addCheck_25 : decode cX7_addCheck 25 = .ok (.aload 4, 2) := g_dec dt50_X7_addCheck_ok (k := 12) rfl
theorem dX7_addCheck_27 : decode cX7_addCheck 27 = .ok (.iload_n 2, 1) := g_dec dt50_X7_addCheck_ok (k := 13) rfl
theorem dX7_addCheck_28 : decode cX7_addCheck 28 = .ok (.putfield 56, 3) := g_dec dt50_X7_addCheck_ok (k := 14) rfl
theorem dX7_addCheck_31 : decode cX7_addCheck 31 = .ok (.aload 4, 2) := g_dec dt50_X7_addCheck_ok (k := 15) rfl
theorem dX7_addCheck_33 : decode cX7_addCheck 33 = .ok (.iload_n 3, 1) := g_dec dt50_X7_addCheck_ok (k := 16) rfl
theorem dX7_addCheck_34 : decode cX7_addCheck 34 = .ok (.putfield 59, 3) := g_dec dt50_X7_addCheck_ok (k := 17) rfl
theorem dX7_addCheck_37 : decode cX7_addCheck 37 = .ok (.aload_n 0, 1) := g_dec dt50_X7_addCheck_ok (k := 18) rfl
theorem dX7_addCheck_38 : decode cX7_addCheck 38 = .ok (.dup, 1) := g_dec dt50_X7_addCheck_ok (k := 19) rfl
theorem dX7_addCheck_39 : decode cX7_addCheck 39 = .ok (.getfield 37, 3) := g_dec dt50_X7_addCheck_ok (k := 20) rfl
theorem dX7_addCheck_42 : decode cX7_addCheck 42 = .ok (.dup_x1, 1) := g_dec dt50_X7_addCheck_ok (k := 21) rfl
theorem dX7_addCheck_43 : decode cX7_addCheck 43 = .ok (.iconst 1, 1) := g_dec dt50_X7_addCheck_ok (k := 22) rfl
theorem dX7_addCheck_44 : decode cX7_addCheck 44 = .ok (.iadd, 1) := g_dec dt50_X7_addCheck_ok (k := 23) rfl
theorem dX7_addCheck_45 : decode cX7_addCheck 45 = .ok (.putfield 37, 3) := g_dec dt50_X7_addCheck_ok (k := 24) rfl
theorem dX7_addCheck_48 : decode cX7_addCheck 48 = .ok (.ireturn, 1) := g_dec dt50_X7_addCheck_ok (k := 25) rfl
def dt51_X7_addLine : List (Nat × Instr × Nat) := [(0, (.aload_n 0, 1)), (1, (.getfield 27, 3)), (4, (.iload_n 1, 1)), (5, (.i2l, 1)), (6, (.invokevirtual 62, 3)), (9, (.aload_n 0, 1)), (10, (.getfield 31, 3)), (13, (.iload_n 2, 1)), (14, (.i2l, 1)), (15, (.invokevirtual 62, 3)), (18, (.aload_n 0, 1)), (19, (.getfield 34, 3)), (22, (.iload_n 3, 1)), (23, (.i2l, 1)), (24, (.invokevirtual 62, 3)), (27, (.aload_n 0, 1)), (28, (.getfield 27, 3)), (31, (.getfield 66, 3)), (34, (.ireturn, 1))]
theorem dt51_X7_addLine_ok : ∀ q ∈ dt51_X7_addLine, decode cX7_addLine q.1 = .ok q.2 := by decide +kernel
theorem dX7_addLine_0 : decode cX7_addLine 0 = .ok (.aload_n 0, 1) := g_dec dt51_X7_addLine_ok (k := 0) rfl
theorem dX7_addLine_1 : decode cX7_addLine 1 = .ok (.getfield 27, 3) := g_dec dt51_X7_addLine_ok (k := 1) rfl
theorem dX7_addLine_4 : decode cX7_addLine 4 = .ok (.iload_n 1, 1) := g_dec dt51_X7_addLine_ok (k := 2) rfl
theorem dX7_addLine_5 : decode cX7_addLine 5 = .ok (.i2l, 1) := g_dec dt51_X7_addLine_ok (k := 3) rfl
theorem dX7_addLine_6 : decode cX7_addLine 6 = .ok (.invokevirtual 62, 3) := g_dec dt51_X7_addLine_ok (k := 4) rfl
theorem dX7_addLine_9 : decode cX7_addLine 9 = .ok (.aload_n 0, 1) := g_dec dt51_X7_addLine_ok (k := 5) rfl
theorem dX7_addLine_10 : decode cX7_addLine 10 = .ok (.getfield 31, 3) := g_dec dt51_X7_addLine_ok (k := 6) rfl
theorem dX7_addLine_13 : decode cX7_addLine 13 = .ok (.iload_n 2, 1) := g_dec dt51_X7_addLine_ok (k := 7) rfl
theorem dX7_addLine_14 : decode cX7_addLine 14 = .ok (.i2l, 1) := g_dec dt51_X7_addLine_ok (k := 8) rfl
theorem dX7_addLine_15 : decode cX7_addLine 15 = .ok (.invokevirtual 62, 3) := g_dec dt51_X7_addLine_ok (k := 9) rfl
theorem dX7_addLine_18 : decode cX7_addLine 18 = .ok (.aload_n 0, 1) := g_dec dt51_X7_addLine_ok (k := 10) rfl
theorem dX7_addLine_19 : decode cX7_addLine 19 = .ok (.getfield 34, 3) := g_dec dt51_X7_addLine_ok (k := 11) rfl
theorem dX7_addLine_22 : decode cX7_addLine 22 = .ok (.iload_n 3, 1) := g_dec dt51_X7_addLine_ok (k := 12) rfl
theorem dX7_addLine_23 : decode cX7_addLine 23 = .ok (.i2l, 1) := g_dec dt51_X7_addLine_ok (k := 13) rfl
theorem dX7_addLine_24 : decode cX7_addLine 24 = .ok (.invokevirtual 62, 3) := g_dec dt51_X7_addLine_ok (k := 14) rfl
theorem dX7_addLine_27 : decode cX7_addLine 27 = .ok (.aload_n 0, 1) := g_dec dt51_X7_addLine_ok (k := 15) rfl
theorem dX7_addLine_28 : decode cX7_addLine 28 = .ok (.getfield 27, 3) := g_dec dt51_X7_addLine_ok (k := 16) rfl
theorem dX7_addLine_31 : decode cX7_addLine 31 = .ok (.getfield 66, 3) := g_dec dt51_X7_addLine_ok (k := 17) rfl
theorem dX7_addLine_34 : decode cX7_addLine 34 = .ok (.ireturn, 1) := g_dec dt51_X7_addLine_ok (k := 18) rfl
def dt52_X7_holds : List (Nat × Instr × Nat) := [(31, (.ireturn, 1)), (26, (.iconst 1, 1)), (27, (.goto 4, 3)), (0, (.iload_n 0, 1)), (1, (.iconst 1, 1)), (2, (.if_icmp .ne 12, 3)), (14, (.iload_n 0, 1)), (15, (.ifCond .eq 11, 3)), (18, (.aload_n 2, 1)), (19, (.invokevirtual 82, 3)), (22, (.iload_n 1, 1)), (23, (.if_icmp .ne 7, 3)), (30, (.iconst 0, 1)), (5, (.aload_n 2, 1)), (6, (.getfield 67, 3)), (9, (.iload_n 1, 1)), (10, (.invokestatic 78, 3)), (13, (.ireturn, 1))]
theorem dt52_X7_holds_ok : ∀ q ∈ dt52_X7_holds, decode cX7_holds q.1 = .ok q.2 := by decide +kernel
theorem dX7_holds_31 : decode cX7_holds 31 = .ok (.ireturn, 1) := g_dec dt52_X7_holds_ok (k := 0) rfl
theorem dX7_holds_26 : decode cX7_holds 26 = .ok (.iconst 1, 1) := g_dec dt52_X7_holds_ok (k := 1) rfl
theorem dX7_holds_27 : decode cX7_holds 27 = .ok (.goto 4, 3) := g_dec dt52_X7_holds_ok (k := 2) rfl
theorem dX7_holds_0 : decode cX7_holds 0 = .ok (.iload_n 0, 1) := g_dec dt52_X7_holds_ok (k := 3) rfl
theorem dX7_holds_1 : decode cX7_holds 1 = .ok (.iconst 1, 1) := g_dec dt52_X7_holds_ok (k := 4) rfl
theorem dX7_holds_2 : decode cX7_holds 2 = .ok (.if_icmp .ne 12, 3) := g_dec dt52_X7_holds_ok (k := 5) rfl
theorem dX7_holds_14 : decode cX7_holds 14 = .ok (.iload_n 0, 1) := g_dec dt52_X7_holds_ok (k := 6) rfl
theorem dX7_holds_15 : decode cX7_holds 15 = .ok (.ifCond .eq 11, 3) := g_dec dt52_X7_holds_ok (k := 7) rfl
theorem dX7_holds_18 : decode cX7_holds 18 = .ok (.aload_n 2, 1) := g_dec dt52_X7_holds_ok (k := 8) rfl
theorem dX7_holds_19 : decode cX7_holds 19 = .ok (.invokevirtual 82, 3) := g_dec dt52_X7_holds_ok (k := 9) rfl
theorem dX7_holds_22 : decode cX7_holds 22 = .ok (.iload_n 1, 1) := g_dec dt52_X7_holds_ok (k := 10) rfl
theorem dX7_holds_23 : decode cX7_holds 23 = .ok (.if_icmp .ne 7, 3) := g_dec dt52_X7_holds_ok (k := 11) rfl
theorem dX7_holds_30 : decode cX7_holds 30 = .ok (.iconst 0, 1) := g_dec dt52_X7_holds_ok (k := 12) rfl
theorem dX7_holds_5 : decode cX7_holds 5 = .ok (.aload_n 2, 1) := g_dec dt52_X7_holds_ok (k := 13) rfl
theorem dX7_holds_6 : decode cX7_holds 6 = .ok (.getfield 67, 3) := g_dec dt52_X7_holds_ok (k := 14) rfl
theorem dX7_holds_9 : decode cX7_holds 9 = .ok (.iload_n 1, 1) := g_dec dt52_X7_holds_ok (k := 15) rfl
theorem dX7_holds_10 : decode cX7_holds 10 = .ok (.invokestatic 78, 3) := g_dec dt52_X7_holds_ok (k := 16) rfl
theorem dX7_holds_13 : decode cX7_holds 13 = .ok (.ireturn, 1) := g_dec dt52_X7_holds_ok (k := 17) rfl
def dt53_X7_requiredBy : List (Nat × Instr × Nat) := [(89, (.iinc 3 1, 3)), (92, (.goto (-50), 3)), (42, (.iload_n 3, 1)), (43, (.aload_n 0, 1)), (44, (.getfield 27, 3)), (47, (.getfield 66, 3)), (50, (.if_icmp .ge 45, 3)), (95, (.iload_n 2, 1)), (96, (.ireturn, 1)), (53, (.aload_n 0, 1)), (54, (.getfield 31, 3)), (57, (.iload_n 3, 1)), (58, (.invokevirtual 70, 3)), (61, (.aload_n 0, 1)), (62, (.getfield 34, 3)), (65, (.iload_n 3, 1)), (66, (.invokevirtual 70, 3)), (69, (.aload_n 1, 1)), (70, (.invokestatic 74, 3)), (73, (.ifCond .eq 16, 3)), (76, (.iload_n 2, 1)), (77, (.iconst 1, 1)), (78, (.aload_n 0, 1)), (79, (.getfield 27, 3)), (82, (.iload_n 3, 1)), (83, (.invokevirtual 70, 3)), (86, (.ishl, 1)), (87, (.ior, 1)), (88, (.istore_n 2, 1)), (34, (.iinc 3 1, 3)), (37, (.goto (-33), 3)), (4, (.iload_n 3, 1)), (5, (.aload_n 0, 1)), (6, (.getfield 37, 3)), (9, (.if_icmp .ge 31, 3)), (40, (.iconst 0, 1)), (41, (.istore_n 3, 1)), (12, (.aload_n 0, 1)), (13, (.iload_n 3, 1)), (14, (.invokevirtual 41, 3)), (17, (.getfield 45, 3)), (20, (.aload_n 1, 1)), (21, (.getfield 67, 3)), (24, (.iand, 1)), (25, (.ifCond .eq 9, 3)), (28, (.iload_n 2, 1)), (29, (.iconst 1, 1)), (30, (.iload_n 3, 1)), (31, (.ishl, 1)), (32, (.ior, 1)), (33, (.istore_n 2, 1)), (0, (.iconst 0, 1)), (1, (.istore_n 2, 1)), (2, (.iconst 0, 1)), (3, (.istore_n 3, 1))]
theorem dt53_X7_requiredBy_ok : ∀ q ∈ dt53_X7_requiredBy, decode cX7_requiredBy q.1 = .ok q.2 := by decide +kernel
theorem dX7_requiredBy_89 : decode cX7_requiredBy 89 = .ok (.iinc 3 1, 3) := g_dec dt53_X7_requiredBy_ok (k := 0) rfl
theorem dX7_requiredBy_92 : decode cX7_requiredBy 92 = .ok (.goto (-50), 3) := g_dec dt53_X7_requiredBy_ok (k := 1) rfl
theorem dX7_requiredBy_42 : decode cX7_requiredBy 42 = .ok (.iload_n 3, 1) := g_dec dt53_X7_requiredBy_ok (k := 2) rfl
theorem dX7_requiredBy_43 : decode cX7_requiredBy 43 = .ok (.aload_n 0, 1) := g_dec dt53_X7_requiredBy_ok (k := 3) rfl
theorem dX7_requiredBy_44 : decode cX7_requiredBy 44 = .ok (.getfield 27, 3) := g_dec dt53_X7_requiredBy_ok (k := 4) rfl
theorem dX7_requiredBy_47 : decode cX7_requiredBy 47 = .ok (.getfield 66, 3) := g_dec dt53_X7_requiredBy_ok (k := 5) rfl
theorem dX7_requiredBy_50 : decode cX7_requiredBy 50 = .ok (.if_icmp .ge 45, 3) := g_dec dt53_X7_requiredBy_ok (k := 6) rfl
theorem dX7_requiredBy_95 : decode cX7_requiredBy 95 = .ok (.iload_n 2, 1) := g_dec dt53_X7_requiredBy_ok (k := 7) rfl
theorem dX7_requiredBy_96 : decode cX7_requiredBy 96 = .ok (.ireturn, 1) := g_dec dt53_X7_requiredBy_ok (k := 8) rfl
theorem dX7_requiredBy_53 : decode cX7_requiredBy 53 = .ok (.aload_n 0, 1) := g_dec dt53_X7_requiredBy_ok (k := 9) rfl
theorem dX7_requiredBy_54 : decode cX7_requiredBy 54 = .ok (.getfield 31, 3) := g_dec dt53_X7_requiredBy_ok (k := 10) rfl
theorem dX7_requiredBy_57 : decode cX7_requiredBy 57 = .ok (.iload_n 3, 1) := g_dec dt53_X7_requiredBy_ok (k := 11) rfl
theorem dX7_requiredBy_58 : decode cX7_requiredBy 58 = .ok (.invokevirtual 70, 3) := g_dec dt53_X7_requiredBy_ok (k := 12) rfl
theorem dX7_requiredBy_61 : decode cX7_requiredBy 61 = .ok (.aload_n 0, 1) := g_dec dt53_X7_requiredBy_ok (k := 13) rfl
theorem dX7_requiredBy_62 : decode cX7_requiredBy 62 = .ok (.getfield 34, 3) := g_dec dt53_X7_requiredBy_ok (k := 14) rfl
theorem dX7_requiredBy_65 : decode cX7_requiredBy 65 = .ok (.iload_n 3, 1) := g_dec dt53_X7_requiredBy_ok (k := 15) rfl
theorem dX7_requiredBy_66 : decode cX7_requiredBy 66 = .ok (.invokevirtual 70, 3) := g_dec dt53_X7_requiredBy_ok (k := 16) rfl
theorem dX7_requiredBy_69 : decode cX7_requiredBy 69 = .ok (.aload_n 1, 1) := g_dec dt53_X7_requiredBy_ok (k := 17) rfl
theorem dX7_requiredBy_70 : decode cX7_requiredBy 70 = .ok (.invokestatic 74, 3) := g_dec dt53_X7_requiredBy_ok (k := 18) rfl
theorem dX7_requiredBy_73 : decode cX7_requiredBy 73 = .ok (.ifCond .eq 16, 3) := g_dec dt53_X7_requiredBy_ok (k := 19) rfl
theorem dX7_requiredBy_76 : decode cX7_requiredBy 76 = .ok (.iload_n 2, 1) := g_dec dt53_X7_requiredBy_ok (k := 20) rfl
theorem dX7_requiredBy_77 : decode cX7_requiredBy 77 = .ok (.iconst 1, 1) := g_dec dt53_X7_requiredBy_ok (k := 21) rfl
theorem dX7_requiredBy_78 : decode cX7_requiredBy 78 = .ok (.aload_n 0, 1) := g_dec dt53_X7_requiredBy_ok (k := 22) rfl
theorem dX7_requiredBy_79 : decode cX7_requiredBy 79 = .ok (.getfield 27, 3) := g_dec dt53_X7_requiredBy_ok (k := 23) rfl
theorem dX7_requiredBy_82 : decode cX7_requiredBy 82 = .ok (.iload_n 3, 1) := g_dec dt53_X7_requiredBy_ok (k := 24) rfl
theorem dX7_requiredBy_83 : decode cX7_requiredBy 83 = .ok (.invokevirtual 70, 3) := g_dec dt53_X7_requiredBy_ok (k := 25) rfl
theorem dX7_requiredBy_86 : decode cX7_requiredBy 86 = .ok (.ishl, 1) := g_dec dt53_X7_requiredBy_ok (k := 26) rfl
theorem dX7_requiredBy_87 : decode cX7_requiredBy 87 = .ok (.ior, 1) := g_dec dt53_X7_requiredBy_ok (k := 27) rfl
theorem dX7_requiredBy_88 : decode cX7_requiredBy 88 = .ok (.istore_n 2, 1) := g_dec dt53_X7_requiredBy_ok (k := 28) rfl
theorem dX7_requiredBy_34 : decode cX7_requiredBy 34 = .ok (.iinc 3 1, 3) := g_dec dt53_X7_requiredBy_ok (k := 29) rfl
theorem dX7_requiredBy_37 : decode cX7_requiredBy 37 = .ok (.goto (-33), 3) := g_dec dt53_X7_requiredBy_ok (k := 30) rfl
theorem dX7_requiredBy_4 : decode cX7_requiredBy 4 = .ok (.iload_n 3, 1) := g_dec dt53_X7_requiredBy_ok (k := 31) rfl
theorem dX7_requiredBy_5 : decode cX7_requiredBy 5 = .ok (.aload_n 0, 1) := g_dec dt53_X7_requiredBy_ok (k := 32) rfl
theorem dX7_requiredBy_6 : decode cX7_requiredBy 6 = .ok (.getfield 37, 3) := g_dec dt53_X7_requiredBy_ok (k := 33) rfl
theorem dX7_requiredBy_9 : decode cX7_requiredBy 9 = .ok (.if_icmp .ge 31, 3) := g_dec dt53_X7_requiredBy_ok (k := 34) rfl
theorem dX7_requiredBy_40 : decode cX7_requiredBy 40 = .ok (.iconst 0, 1) := g_dec dt53_X7_requiredBy_ok (k := 35) rfl
theorem dX7_requiredBy_41 : decode cX7_requiredBy 41 = .ok (.istore_n 3, 1) := g_dec dt53_X7_requiredBy_ok (k := 36) rfl
theorem dX7_requiredBy_12 : decode cX7_requiredBy 12 = .ok (.aload_n 0, 1) := g_dec dt53_X7_requiredBy_ok (k := 37) rfl
theorem dX7_requiredBy_13 : decode cX7_requiredBy 13 = .ok (.iload_n 3, 1) := g_dec dt53_X7_requiredBy_ok (k := 38) rfl
theorem dX7_requiredBy_14 : decode cX7_requiredBy 14 = .ok (.invokevirtual 41, 3) := g_dec dt53_X7_requiredBy_ok (k := 39) rfl
theorem dX7_requiredBy_17 : decode cX7_requiredBy 17 = .ok (.getfield 45, 3) := g_dec dt53_X7_requiredBy_ok (k := 40) rfl
theorem dX7_requiredBy_20 : decode cX7_requiredBy 20 = .ok (.aload_n 1, 1) := g_dec dt53_X7_requiredBy_ok (k := 41) rfl
theorem dX7_requiredBy_21 : decode cX7_requiredBy 21 = .ok (.getfield 67, 3) := g_dec dt53_X7_requiredBy_ok (k := 42) rfl
theorem dX7_requiredBy_24 : decode cX7_requiredBy 24 = .ok (.iand, 1) := g_dec dt53_X7_requiredBy_ok (k := 43) rfl
theorem dX7_requiredBy_25 : decode cX7_requiredBy 25 = .ok (.ifCond .eq 9, 3) := g_dec dt53_X7_requiredBy_ok (k := 44) rfl
theorem dX7_requiredBy_28 : decode cX7_requiredBy 28 = .ok (.iload_n 2, 1) := g_dec dt53_X7_requiredBy_ok (k := 45) rfl
theorem dX7_requiredBy_29 : decode cX7_requiredBy 29 = .ok (.iconst 1, 1) := g_dec dt53_X7_requiredBy_ok (k := 46) rfl
theorem dX7_requiredBy_30 : decode cX7_requiredBy 30 = .ok (.iload_n 3, 1) := g_dec dt53_X7_requiredBy_ok (k := 47) rfl
theorem dX7_requiredBy_31 : decode cX7_requiredBy 31 = .ok (.ishl, 1) := g_dec dt53_X7_requiredBy_ok (k := 48) rfl
theorem dX7_requiredBy_32 : decode cX7_requiredBy 32 = .ok (.ior, 1) := g_dec dt53_X7_requiredBy_ok (k := 49) rfl
theorem dX7_requiredBy_33 : decode cX7_requiredBy 33 = .ok (.istore_n 2, 1) := g_dec dt53_X7_requiredBy_ok (k := 50) rfl
theorem dX7_requiredBy_0 : decode cX7_requiredBy 0 = .ok (.iconst 0, 1) := g_dec dt53_X7_requiredBy_ok (k := 51) rfl
theorem dX7_requiredBy_1 : decode cX7_requiredBy 1 = .ok (.istore_n 2, 1) := g_dec dt53_X7_requiredBy_ok (k := 52) rfl
theorem dX7_requiredBy_2 : decode cX7_requiredBy 2 = .ok (.iconst 0, 1) := g_dec dt53_X7_requiredBy_ok (k := 53) rfl
theorem dX7_requiredBy_3 : decode cX7_requiredBy 3 = .ok (.istore_n 3, 1) := g_dec dt53_X7_requiredBy_ok (k := 54) rfl
def dt54_X10_clear : List (Nat × Instr × Nat) := [(0, (.aload_n 0, 1)), (1, (.getfield 16, 3)), (4, (.iconst 0, 1)), (5, (.putfield 29, 3)), (8, (.aload_n 0, 1)), (9, (.getfield 20, 3)), (12, (.iconst 0, 1)), (13, (.putfield 29, 3)), (16, (.aload_n 0, 1)), (17, (.getfield 23, 3)), (20, (.iconst 0, 1)), (21, (.putfield 29, 3)), (24, (.aload_n 0, 1)), (25, (.getfield 26, 3)), (28, (.iconst 0, 1)), (29, (.putfield 29, 3)), (32, (.return_, 1))]
theorem dt54_X10_clear_ok : ∀ q ∈ dt54_X10_clear, decode cX10_clear q.1 = .ok q.2 := by decide +kernel
theorem dX10_clear_0 : decode cX10_clear 0 = .ok (.aload_n 0, 1) := g_dec dt54_X10_clear_ok (k := 0) rfl
theorem dX10_clear_1 : decode cX10_clear 1 = .ok (.getfield 16, 3) := g_dec dt54_X10_clear_ok (k := 1) rfl
theorem dX10_clear_4 : decode cX10_clear 4 = .ok (.iconst 0, 1) := g_dec dt54_X10_clear_ok (k := 2) rfl
theorem dX10_clear_5 : decode cX10_clear 5 = .ok (.putfield 29, 3) := g_dec dt54_X10_clear_ok (k := 3) rfl
theorem dX10_clear_8 : decode cX10_clear 8 = .ok (.aload_n 0, 1) := g_dec dt54_X10_clear_ok (k := 4) rfl
theorem dX10_clear_9 : decode cX10_clear 9 = .ok (.getfield 20, 3) := g_dec dt54_X10_clear_ok (k := 5) rfl
theorem dX10_clear_12 : decode cX10_clear 12 = .ok (.iconst 0, 1) := g_dec dt54_X10_clear_ok (k := 6) rfl
theorem dX10_clear_13 : decode cX10_clear 13 = .ok (.putfield 29, 3) := g_dec dt54_X10_clear_ok (k := 7) rfl
theorem dX10_clear_16 : decode cX10_clear 16 = .ok (.aload_n 0, 1) := g_dec dt54_X10_clear_ok (k := 8) rfl
theorem dX10_clear_17 : decode cX10_clear 17 = .ok (.getfield 23, 3) := g_dec dt54_X10_clear_ok (k := 9) rfl
theorem dX10_clear_20 : decode cX10_clear 20 = .ok (.iconst 0, 1) := g_dec dt54_X10_clear_ok (k := 10) rfl
theorem dX10_clear_21 : decode cX10_clear 21 = .ok (.putfield 29, 3) := g_dec dt54_X10_clear_ok (k := 11) rfl
theorem dX10_clear_24 : decode cX10_clear 24 = .ok (.aload_n 0, 1) := g_dec dt54_X10_clear_ok (k := 12) rfl
theorem dX10_clear_25 : decode cX10_clear 25 = .ok (.getfield 26, 3) := g_dec dt54_X10_clear_ok (k := 13) rfl
theorem dX10_clear_28 : decode cX10_clear 28 = .ok (.iconst 0, 1) := g_dec dt54_X10_clear_ok (k := 14) rfl
theorem dX10_clear_29 : decode cX10_clear 29 = .ok (.putfield 29, 3) := g_dec dt54_X10_clear_ok (k := 15) rfl
theorem dX10_clear_32 : decode cX10_clear 32 = .ok (.return_, 1) := g_dec dt54_X10_clear_ok (k := 16) rfl
def dt55_X10_add : List (Nat × Instr × Nat) := [(43, (.iinc 6 1, 3)), (46, (.goto (-43), 3)), (3, (.iload 6, 2)), (5, (.aload_n 0, 1)), (6, (.getfield 16, 3)), (9, (.getfield 29, 3)), (12, (.if_icmp .ge 37, 3)), (49, (.aload_n 0, 1)), (50, (.getfield 16, 3)), (53, (.iload_n 1, 1)), (54, (.i2l, 1)), (55, (.invokevirtual 41, 3)), (58, (.aload_n 0, 1)), (59, (.getfield 20, 3)), (62, (.lload_n 2, 1)), (63, (.invokevirtual 41, 3)), (66, (.aload_n 0, 1)), (67, (.getfield 23, 3)), (70, (.iload 4, 2)), (72, (.i2l, 1)), (73, (.invokevirtual 41, 3)), (76, (.aload_n 0, 1)), (77, (.getfield 26, 3)), (80, (.iload 5, 2)), (82, (.i2l, 1)), (83, (.invokevirtual 41, 3)), (86, (.return_, 1)), (15, (.aload_n 0, 1)), (16, (.getfield 16, 3)), (19, (.iload 6, 2)), (21, (.invokevirtual 33, 3)), (24, (.iload_n 1, 1)), (25, (.if_icmp .ne 18, 3)), (28, (.aload_n 0, 1)), (29, (.getfield 20, 3)), (32, (.iload 6, 2)), (34, (.invokevirtual 37, 3)), (37, (.lload_n 2, 1)), (38, (.lcmp, 1)), (39, (.ifCond .ne 4, 3)), (42, (.return_, 1)), (0, (.iconst 0, 1)), (1, (.istore 6, 2))]
theorem dt55_X10_add_ok : ∀ q ∈ dt55_X10_add, decode cX10_add q.1 = .ok q.2 := by decide +kernel
theorem dX10_add_43 : decode cX10_add 43 = .ok (.iinc 6 1, 3) := g_dec dt55_X10_add_ok (k := 0) rfl
theorem dX10_add_46 : decode cX10_add 46 = .ok (.goto (-43), 3) := g_dec dt55_X10_add_ok (k := 1) rfl
theorem dX10_add_3 : decode cX10_add 3 = .ok (.iload 6, 2) := g_dec dt55_X10_add_ok (k := 2) rfl
theorem dX10_add_5 : decode cX10_add 5 = .ok (.aload_n 0, 1) := g_dec dt55_X10_add_ok (k := 3) rfl
theorem dX10_add_6 : decode cX10_add 6 = .ok (.getfield 16, 3) := g_dec dt55_X10_add_ok (k := 4) rfl
theorem dX10_add_9 : decode cX10_add 9 = .ok (.getfield 29, 3) := g_dec dt55_X10_add_ok (k := 5) rfl
theorem dX10_add_12 : decode cX10_add 12 = .ok (.if_icmp .ge 37, 3) := g_dec dt55_X10_add_ok (k := 6) rfl
theorem dX10_add_49 : decode cX10_add 49 = .ok (.aload_n 0, 1) := g_dec dt55_X10_add_ok (k := 7) rfl
theorem dX10_add_50 : decode cX10_add 50 = .ok (.getfield 16, 3) := g_dec dt55_X10_add_ok (k := 8) rfl
theorem dX10_add_53 : decode cX10_add 53 = .ok (.iload_n 1, 1) := g_dec dt55_X10_add_ok (k := 9) rfl
theorem dX10_add_54 : decode cX10_add 54 = .ok (.i2l, 1) := g_dec dt55_X10_add_ok (k := 10) rfl
theorem dX10_add_55 : decode cX10_add 55 = .ok (.invokevirtual 41, 3) := g_dec dt55_X10_add_ok (k := 11) rfl
theorem dX10_add_58 : decode cX10_add 58 = .ok (.aload_n 0, 1) := g_dec dt55_X10_add_ok (k := 12) rfl
theorem dX10_add_59 : decode cX10_add 59 = .ok (.getfield 20, 3) := g_dec dt55_X10_add_ok (k := 13) rfl
theorem dX10_add_62 : decode cX10_add 62 = .ok (.lload_n 2, 1) := g_dec dt55_X10_add_ok (k := 14) rfl
theorem dX10_add_63 : decode cX10_add 63 = .ok (.invokevirtual 41, 3) := g_dec dt55_X10_add_ok (k := 15) rfl
theorem dX10_add_66 : decode cX10_add 66 = .ok (.aload_n 0, 1) := g_dec dt55_X10_add_ok (k := 16) rfl
theorem dX10_add_67 : decode cX10_add 67 = .ok (.getfield 23, 3) := g_dec dt55_X10_add_ok (k := 17) rfl
theorem dX10_add_70 : decode cX10_add 70 = .ok (.iload 4, 2) := g_dec dt55_X10_add_ok (k := 18) rfl
theorem dX10_add_72 : decode cX10_add 72 = .ok (.i2l, 1) := g_dec dt55_X10_add_ok (k := 19) rfl
theorem dX10_add_73 : decode cX10_add 73 = .ok (.invokevirtual 41, 3) := g_dec dt55_X10_add_ok (k := 20) rfl
theorem dX10_add_76 : decode cX10_add 76 = .ok (.aload_n 0, 1) := g_dec dt55_X10_add_ok (k := 21) rfl
theorem dX10_add_77 : decode cX10_add 77 = .ok (.getfield 26, 3) := g_dec dt55_X10_add_ok (k := 22) rfl
theorem dX10_add_80 : decode cX10_add 80 = .ok (.iload 5, 2) := g_dec dt55_X10_add_ok (k := 23) rfl
theorem dX10_add_82 : decode cX10_add 82 = .ok (.i2l, 1) := g_dec dt55_X10_add_ok (k := 24) rfl
theorem dX10_add_83 : decode cX10_add 83 = .ok (.invokevirtual 41, 3) := g_dec dt55_X10_add_ok (k := 25) rfl
theorem dX10_add_86 : decode cX10_add 86 = .ok (.return_, 1) := g_dec dt55_X10_add_ok (k := 26) rfl
theorem dX10_add_15 : decode cX10_add 15 = .ok (.aload_n 0, 1) := g_dec dt55_X10_add_ok (k := 27) rfl
theorem dX10_add_16 : decode cX10_add 16 = .ok (.getfield 16, 3) := g_dec dt55_X10_add_ok (k := 28) rfl
theorem dX10_add_19 : decode cX10_add 19 = .ok (.iload 6, 2) := g_dec dt55_X10_add_ok (k := 29) rfl
theorem dX10_add_21 : decode cX10_add 21 = .ok (.invokevirtual 33, 3) := g_dec dt55_X10_add_ok (k := 30) rfl
theorem dX10_add_24 : decode cX10_add 24 = .ok (.iload_n 1, 1) := g_dec dt55_X10_add_ok (k := 31) rfl
theorem dX10_add_25 : decode cX10_add 25 = .ok (.if_icmp .ne 18, 3) := g_dec dt55_X10_add_ok (k := 32) rfl
theorem dX10_add_28 : decode cX10_add 28 = .ok (.aload_n 0, 1) := g_dec dt55_X10_add_ok (k := 33) rfl
theorem dX10_add_29 : decode cX10_add 29 = .ok (.getfield 20, 3) := g_dec dt55_X10_add_ok (k := 34) rfl
theorem dX10_add_32 : decode cX10_add 32 = .ok (.iload 6, 2) := g_dec dt55_X10_add_ok (k := 35) rfl
theorem dX10_add_34 : decode cX10_add 34 = .ok (.invokevirtual 37, 3) := g_dec dt55_X10_add_ok (k := 36) rfl
theorem dX10_add_37 : decode cX10_add 37 = .ok (.lload_n 2, 1) := g_dec dt55_X10_add_ok (k := 37) rfl
theorem dX10_add_38 : decode cX10_add 38 = .ok (.lcmp, 1) := g_dec dt55_X10_add_ok (k := 38) rfl
theorem dX10_add_39 : decode cX10_add 39 = .ok (.ifCond .ne 4, 3) := g_dec dt55_X10_add_ok (k := 39) rfl
theorem dX10_add_42 : decode cX10_add 42 = .ok (.return_, 1) := g_dec dt55_X10_add_ok (k := 40) rfl
theorem dX10_add_0 : decode cX10_add 0 = .ok (.iconst 0, 1) := g_dec dt55_X10_add_ok (k := 41) rfl
theorem dX10_add_1 : decode cX10_add 1 = .ok (.istore 6, 2) := g_dec dt55_X10_add_ok (k := 42) rfl
def dt56_X10_firstFor : List (Nat × Instr × Nat) := [(44, (.iinc 3 1, 3)), (47, (.goto (-45), 3)), (42, (.iload_n 3, 1)), (43, (.ireturn, 1)), (2, (.iload_n 3, 1)), (3, (.aload_n 0, 1)), (4, (.getfield 26, 3)), (7, (.getfield 29, 3)), (10, (.if_icmp .ge 40, 3)), (50, (.iconst (-1), 1)), (51, (.ireturn, 1)), (13, (.aload_n 0, 1)), (14, (.getfield 26, 3)), (17, (.iload_n 3, 1)), (18, (.invokevirtual 33, 3)), (21, (.iload_n 1, 1)), (22, (.if_icmp .ne 22, 3)), (25, (.iload_n 2, 1)), (26, (.iconst (-1), 1)), (27, (.if_icmp .eq 15, 3)), (30, (.aload_n 0, 1)), (31, (.getfield 23, 3)), (34, (.iload_n 3, 1)), (35, (.invokevirtual 33, 3)), (38, (.iload_n 2, 1)), (39, (.if_icmp .ne 5, 3)), (0, (.iconst 0, 1)), (1, (.istore_n 3, 1))]
theorem dt56_X10_firstFor_ok : ∀ q ∈ dt56_X10_firstFor, decode cX10_firstFor q.1 = .ok q.2 := by decide +kernel
theorem dX10_firstFor_44 : decode cX10_firstFor 44 = .ok (.iinc 3 1, 3) := g_dec dt56_X10_firstFor_ok (k := 0) rfl
theorem dX10_firstFor_47 : decode cX10_firstFor 47 = .ok (.goto (-45), 3) := g_dec dt56_X10_firstFor_ok (k := 1) rfl
theorem dX10_firstFor_42 : decode cX10_firstFor 42 = .ok (.iload_n 3, 1) := g_dec dt56_X10_firstFor_ok (k := 2) rfl
theorem dX10_firstFor_43 : decode cX10_firstFor 43 = .ok (.ireturn, 1) := g_dec dt56_X10_firstFor_ok (k := 3) rfl
theorem dX10_firstFor_2 : decode cX10_firstFor 2 = .ok (.iload_n 3, 1) := g_dec dt56_X10_firstFor_ok (k := 4) rfl
theorem dX10_firstFor_3 : decode cX10_firstFor 3 = .ok (.aload_n 0, 1) := g_dec dt56_X10_firstFor_ok (k := 5) rfl
theorem dX10_firstFor_4 : decode cX10_firstFor 4 = .ok (.getfield 26, 3) := g_dec dt56_X10_firstFor_ok (k := 6) rfl
theorem dX10_firstFor_7 : decode cX10_firstFor 7 = .ok (.getfield 29, 3) := g_dec dt56_X10_firstFor_ok (k := 7) rfl
theorem dX10_firstFor_10 : decode cX10_firstFor 10 = .ok (.if_icmp .ge 40, 3) := g_dec dt56_X10_firstFor_ok (k := 8) rfl
theorem dX10_firstFor_50 : decode cX10_firstFor 50 = .ok (.iconst (-1), 1) := g_dec dt56_X10_firstFor_ok (k := 9) rfl
theorem dX10_firstFor_51 : decode cX10_firstFor 51 = .ok (.ireturn, 1) := g_dec dt56_X10_firstFor_ok (k := 10) rfl
theorem dX10_firstFor_13 : decode cX10_firstFor 13 = .ok (.aload_n 0, 1) := g_dec dt56_X10_firstFor_ok (k := 11) rfl
theorem dX10_firstFor_14 : decode cX10_firstFor 14 = .ok (.getfield 26, 3) := g_dec dt56_X10_firstFor_ok (k := 12) rfl
theorem dX10_firstFor_17 : decode cX10_firstFor 17 = .ok (.iload_n 3, 1) := g_dec dt56_X10_firstFor_ok (k := 13) rfl
theorem dX10_firstFor_18 : decode cX10_firstFor 18 = .ok (.invokevirtual 33, 3) := g_dec dt56_X10_firstFor_ok (k := 14) rfl
theorem dX10_firstFor_21 : decode cX10_firstFor 21 = .ok (.iload_n 1, 1) := g_dec dt56_X10_firstFor_ok (k := 15) rfl
theorem dX10_firstFor_22 : decode cX10_firstFor 22 = .ok (.if_icmp .ne 22, 3) := g_dec dt56_X10_firstFor_ok (k := 16) rfl
theorem dX10_firstFor_25 : decode cX10_firstFor 25 = .ok (.iload_n 2, 1) := g_dec dt56_X10_firstFor_ok (k := 17) rfl
theorem dX10_firstFor_26 : decode cX10_firstFor 26 = .ok (.iconst (-1), 1) := g_dec dt56_X10_firstFor_ok (k := 18) rfl
theorem dX10_firstFor_27 : decode cX10_firstFor 27 = .ok (.if_icmp .eq 15, 3) := g_dec dt56_X10_firstFor_ok (k := 19) rfl
theorem dX10_firstFor_30 : decode cX10_firstFor 30 = .ok (.aload_n 0, 1) := g_dec dt56_X10_firstFor_ok (k := 20) rfl
theorem dX10_firstFor_31 : decode cX10_firstFor 31 = .ok (.getfield 23, 3) := g_dec dt56_X10_firstFor_ok (k := 21) rfl
theorem dX10_firstFor_34 : decode cX10_firstFor 34 = .ok (.iload_n 3, 1) := g_dec dt56_X10_firstFor_ok (k := 22) rfl
theorem dX10_firstFor_35 : decode cX10_firstFor 35 = .ok (.invokevirtual 33, 3) := g_dec dt56_X10_firstFor_ok (k := 23) rfl
theorem dX10_firstFor_38 : decode cX10_firstFor 38 = .ok (.iload_n 2, 1) := g_dec dt56_X10_firstFor_ok (k := 24) rfl
theorem dX10_firstFor_39 : decode cX10_firstFor 39 = .ok (.if_icmp .ne 5, 3) := g_dec dt56_X10_firstFor_ok (k := 25) rfl
theorem dX10_firstFor_0 : decode cX10_firstFor 0 = .ok (.iconst 0, 1) := g_dec dt56_X10_firstFor_ok (k := 26) rfl
theorem dX10_firstFor_1 : decode cX10_firstFor 1 = .ok (.istore_n 3, 1) := g_dec dt56_X10_firstFor_ok (k := 27) rfl
def dt57_X9_keyOf : List (Nat × Instr × Nat) := [(0, (.aload_n 0, 1)), (1, (.getfield 52, 3)), (4, (.i2l, 1)), (5, (.bipush 52, 2)), (7, (.lshl, 1)), (8, (.aload_n 0, 1)), (9, (.getfield 55, 3)), (12, (.iconst 1, 1)), (13, (.iadd, 1)), (14, (.i2l, 1)), (15, (.bipush 48, 2)), (17, (.lshl, 1)), (18, (.lor, 1)), (19, (.lload_n 1, 1)), (20, (.aload_n 0, 1)), (21, (.getfield 58, 3)), (24, (.land, 1)), (25, (.lor, 1)), (26, (.lreturn, 1))]
theorem dt57_X9_keyOf_ok : ∀ q ∈ dt57_X9_keyOf, decode cX9_keyOf q.1 = .ok q.2 := by decide +kernel
theorem dX9_keyOf_0 : decode cX9_keyOf 0 = .ok (.aload_n 0, 1) := g_dec dt57_X9_keyOf_ok (k := 0) rfl
theorem dX9_keyOf_1 : decode cX9_keyOf 1 = .ok (.getfield 52, 3) := g_dec dt57_X9_keyOf_ok (k := 1) rfl
theorem dX9_keyOf_4 : decode cX9_keyOf 4 = .ok (.i2l, 1) := g_dec dt57_X9_keyOf_ok (k := 2) rfl
theorem dX9_keyOf_5 : decode cX9_keyOf 5 = .ok (.bipush 52, 2) := g_dec dt57_X9_keyOf_ok (k := 3) rfl
theorem dX9_keyOf_7 : decode cX9_keyOf 7 = .ok (.lshl, 1) := g_dec dt57_X9_keyOf_ok (k := 4) rfl
theorem dX9_keyOf_8 : decode cX9_keyOf 8 = .ok (.aload_n 0, 1) := g_dec dt57_X9_keyOf_ok (k := 5) rfl
theorem dX9_keyOf_9 : decode cX9_keyOf 9 = .ok (.getfield 55, 3) := g_dec dt57_X9_keyOf_ok (k := 6) rfl
theorem dX9_keyOf_12 : decode cX9_keyOf 12 = .ok (.iconst 1, 1) := g_dec dt57_X9_keyOf_ok (k := 7) rfl
theorem dX9_keyOf_13 : decode cX9_keyOf 13 = .ok (.iadd, 1) := g_dec dt57_X9_keyOf_ok (k := 8) rfl
theorem dX9_keyOf_14 : decode cX9_keyOf 14 = .ok (.i2l, 1) := g_dec dt57_X9_keyOf_ok (k := 9) rfl
theorem dX9_keyOf_15 : decode cX9_keyOf 15 = .ok (.bipush 48, 2) := g_dec dt57_X9_keyOf_ok (k := 10) rfl
theorem dX9_keyOf_17 : decode cX9_keyOf 17 = .ok (.lshl, 1) := g_dec dt57_X9_keyOf_ok (k := 11) rfl
theorem dX9_keyOf_18 : decode cX9_keyOf 18 = .ok (.lor, 1) := g_dec dt57_X9_keyOf_ok (k := 12) rfl
theorem dX9_keyOf_19 : decode cX9_keyOf 19 = .ok (.lload_n 1, 1) := g_dec dt57_X9_keyOf_ok (k := 13) rfl
theorem dX9_keyOf_20 : decode cX9_keyOf 20 = .ok (.aload_n 0, 1) := g_dec dt57_X9_keyOf_ok (k := 14) rfl
theorem dX9_keyOf_21 : decode cX9_keyOf 21 = .ok (.getfield 58, 3) := g_dec dt57_X9_keyOf_ok (k := 15) rfl
theorem dX9_keyOf_24 : decode cX9_keyOf 24 = .ok (.land, 1) := g_dec dt57_X9_keyOf_ok (k := 16) rfl
theorem dX9_keyOf_25 : decode cX9_keyOf 25 = .ok (.lor, 1) := g_dec dt57_X9_keyOf_ok (k := 17) rfl
theorem dX9_keyOf_26 : decode cX9_keyOf 26 = .ok (.lreturn, 1) := g_dec dt57_X9_keyOf_ok (k := 18) rfl
def dt58_X9_placeFor : List (Nat × Instr × Nat) := [(55, (.iinc 3 1, 3)), (58, (.iinc 4 1, 3)), (61, (.goto (-48), 3)), (53, (.iload_n 3, 1)), (54, (.ireturn, 1)), (13, (.iload 4, 2)), (15, (.aload_n 0, 1)), (16, (.arraylength, 1)), (17, (.if_icmp .ge 47, 3)), (64, (.iconst (-1), 1)), (65, (.ireturn, 1)), (20, (.iload_n 3, 1)), (21, (.aload_n 0, 1)), (22, (.arraylength, 1)), (23, (.iconst 1, 1)), (24, (.isub, 1)), (25, (.iand, 1)), (26, (.istore_n 3, 1)), (27, (.iload_n 3, 1)), (28, (.ifCond .lt 27, 3)), (31, (.iload_n 3, 1)), (32, (.aload_n 0, 1)), (33, (.arraylength, 1)), (34, (.if_icmp .ge 21, 3)), (37, (.aload_n 0, 1)), (38, (.iload_n 3, 1)), (39, (.laload, 1)), (40, (.lload_n 1, 1)), (41, (.lcmp, 1)), (42, (.ifCond .eq 11, 3)), (45, (.aload_n 0, 1)), (46, (.iload_n 3, 1)), (47, (.laload, 1)), (48, (.lconst 0, 1)), (49, (.lcmp, 1)), (50, (.ifCond .ne 5, 3)), (0, (.lload_n 1, 1)), (1, (.ldc2_w 62, 3)), (4, (.lmul, 1)), (5, (.bipush 33, 2)), (7, (.lushr, 1)), (8, (.l2i, 1)), (9, (.istore_n 3, 1)), (10, (.iconst 0, 1)), (11, (.istore 4, 2))]
theorem dt58_X9_placeFor_ok : ∀ q ∈ dt58_X9_placeFor, decode cX9_placeFor q.1 = .ok q.2 := by decide +kernel
theorem dX9_placeFor_55 : decode cX9_placeFor 55 = .ok (.iinc 3 1, 3) := g_dec dt58_X9_placeFor_ok (k := 0) rfl
theorem dX9_placeFor_58 : decode cX9_placeFor 58 = .ok (.iinc 4 1, 3) := g_dec dt58_X9_placeFor_ok (k := 1) rfl
theorem dX9_placeFor_61 : decode cX9_placeFor 61 = .ok (.goto (-48), 3) := g_dec dt58_X9_placeFor_ok (k := 2) rfl
theorem dX9_placeFor_53 : decode cX9_placeFor 53 = .ok (.iload_n 3, 1) := g_dec dt58_X9_placeFor_ok (k := 3) rfl
theorem dX9_placeFor_54 : decode cX9_placeFor 54 = .ok (.ireturn, 1) := g_dec dt58_X9_placeFor_ok (k := 4) rfl
theorem dX9_placeFor_13 : decode cX9_placeFor 13 = .ok (.iload 4, 2) := g_dec dt58_X9_placeFor_ok (k := 5) rfl
theorem dX9_placeFor_15 : decode cX9_placeFor 15 = .ok (.aload_n 0, 1) := g_dec dt58_X9_placeFor_ok (k := 6) rfl
theorem dX9_placeFor_16 : decode cX9_placeFor 16 = .ok (.arraylength, 1) := g_dec dt58_X9_placeFor_ok (k := 7) rfl
theorem dX9_placeFor_17 : decode cX9_placeFor 17 = .ok (.if_icmp .ge 47, 3) := g_dec dt58_X9_placeFor_ok (k := 8) rfl
theorem dX9_placeFor_64 : decode cX9_placeFor 64 = .ok (.iconst (-1), 1) := g_dec dt58_X9_placeFor_ok (k := 9) rfl
theorem dX9_placeFor_65 : decode cX9_placeFor 65 = .ok (.ireturn, 1) := g_dec dt58_X9_placeFor_ok (k := 10) rfl
theorem dX9_placeFor_20 : decode cX9_placeFor 20 = .ok (.iload_n 3, 1) := g_dec dt58_X9_placeFor_ok (k := 11) rfl
theorem dX9_placeFor_21 : decode cX9_placeFor 21 = .ok (.aload_n 0, 1) := g_dec dt58_X9_placeFor_ok (k := 12) rfl
theorem dX9_placeFor_22 : decode cX9_placeFor 22 = .ok (.arraylength, 1) := g_dec dt58_X9_placeFor_ok (k := 13) rfl
theorem dX9_placeFor_23 : decode cX9_placeFor 23 = .ok (.iconst 1, 1) := g_dec dt58_X9_placeFor_ok (k := 14) rfl
theorem dX9_placeFor_24 : decode cX9_placeFor 24 = .ok (.isub, 1) := g_dec dt58_X9_placeFor_ok (k := 15) rfl
theorem dX9_placeFor_25 : decode cX9_placeFor 25 = .ok (.iand, 1) := g_dec dt58_X9_placeFor_ok (k := 16) rfl
theorem dX9_placeFor_26 : decode cX9_placeFor 26 = .ok (.istore_n 3, 1) := g_dec dt58_X9_placeFor_ok (k := 17) rfl
theorem dX9_placeFor_27 : decode cX9_placeFor 27 = .ok (.iload_n 3, 1) := g_dec dt58_X9_placeFor_ok (k := 18) rfl
theorem dX9_placeFor_28 : decode cX9_placeFor 28 = .ok (.ifCond .lt 27, 3) := g_dec dt58_X9_placeFor_ok (k := 19) rfl
theorem dX9_placeFor_31 : decode cX9_placeFor 31 = .ok (.iload_n 3, 1) := g_dec dt58_X9_placeFor_ok (k := 20) rfl
theorem dX9_placeFor_32 : decode cX9_placeFor 32 = .ok (.aload_n 0, 1) := g_dec dt58_X9_placeFor_ok (k := 21) rfl
theorem dX9_placeFor_33 : decode cX9_placeFor 33 = .ok (.arraylength, 1) := g_dec dt58_X9_placeFor_ok (k := 22) rfl
theorem dX9_placeFor_34 : decode cX9_placeFor 34 = .ok (.if_icmp .ge 21, 3) := g_dec dt58_X9_placeFor_ok (k := 23) rfl
theorem dX9_placeFor_37 : decode cX9_placeFor 37 = .ok (.aload_n 0, 1) := g_dec dt58_X9_placeFor_ok (k := 24) rfl
theorem dX9_placeFor_38 : decode cX9_placeFor 38 = .ok (.iload_n 3, 1) := g_dec dt58_X9_placeFor_ok (k := 25) rfl
theorem dX9_placeFor_39 : decode cX9_placeFor 39 = .ok (.laload, 1) := g_dec dt58_X9_placeFor_ok (k := 26) rfl
theorem dX9_placeFor_40 : decode cX9_placeFor 40 = .ok (.lload_n 1, 1) := g_dec dt58_X9_placeFor_ok (k := 27) rfl
theorem dX9_placeFor_41 : decode cX9_placeFor 41 = .ok (.lcmp, 1) := g_dec dt58_X9_placeFor_ok (k := 28) rfl
theorem dX9_placeFor_42 : decode cX9_placeFor 42 = .ok (.ifCond .eq 11, 3) := g_dec dt58_X9_placeFor_ok (k := 29) rfl
theorem dX9_placeFor_45 : decode cX9_placeFor 45 = .ok (.aload_n 0, 1) := g_dec dt58_X9_placeFor_ok (k := 30) rfl
theorem dX9_placeFor_46 : decode cX9_placeFor 46 = .ok (.iload_n 3, 1) := g_dec dt58_X9_placeFor_ok (k := 31) rfl
theorem dX9_placeFor_47 : decode cX9_placeFor 47 = .ok (.laload, 1) := g_dec dt58_X9_placeFor_ok (k := 32) rfl
theorem dX9_placeFor_48 : decode cX9_placeFor 48 = .ok (.lconst 0, 1) := g_dec dt58_X9_placeFor_ok (k := 33) rfl
theorem dX9_placeFor_49 : decode cX9_placeFor 49 = .ok (.lcmp, 1) := g_dec dt58_X9_placeFor_ok (k := 34) rfl
theorem dX9_placeFor_50 : decode cX9_placeFor 50 = .ok (.ifCond .ne 5, 3) := g_dec dt58_X9_placeFor_ok (k := 35) rfl
theorem dX9_placeFor_0 : decode cX9_placeFor 0 = .ok (.lload_n 1, 1) := g_dec dt58_X9_placeFor_ok (k := 36) rfl
theorem dX9_placeFor_1 : decode cX9_placeFor 1 = .ok (.ldc2_w 62, 3) := g_dec dt58_X9_placeFor_ok (k := 37) rfl
theorem dX9_placeFor_4 : decode cX9_placeFor 4 = .ok (.lmul, 1) := g_dec dt58_X9_placeFor_ok (k := 38) rfl
theorem dX9_placeFor_5 : decode cX9_placeFor 5 = .ok (.bipush 33, 2) := g_dec dt58_X9_placeFor_ok (k := 39) rfl
theorem dX9_placeFor_7 : decode cX9_placeFor 7 = .ok (.lushr, 1) := g_dec dt58_X9_placeFor_ok (k := 40) rfl
theorem dX9_placeFor_8 : decode cX9_placeFor 8 = .ok (.l2i, 1) := g_dec dt58_X9_placeFor_ok (k := 41) rfl
theorem dX9_placeFor_9 : decode cX9_placeFor 9 = .ok (.istore_n 3, 1) := g_dec dt58_X9_placeFor_ok (k := 42) rfl
theorem dX9_placeFor_10 : decode cX9_placeFor 10 = .ok (.iconst 0, 1) := g_dec dt58_X9_placeFor_ok (k := 43) rfl
theorem dX9_placeFor_11 : decode cX9_placeFor 11 = .ok (.istore 4, 2) := g_dec dt58_X9_placeFor_ok (k := 44) rfl
def dt59_X9_valueOf : List (Nat × Instr × Nat) := [(32, (.ireturn, 1)), (31, (.iconst 0, 1)), (0, (.aload_n 0, 1)), (1, (.getfield 11, 3)), (4, (.lload_n 1, 1)), (5, (.invokestatic 23, 3)), (8, (.istore_n 3, 1)), (9, (.iload_n 3, 1)), (10, (.ifCond .lt 21, 3)), (13, (.iload_n 3, 1)), (14, (.aload_n 0, 1)), (15, (.getfield 15, 3)), (18, (.arraylength, 1)), (19, (.if_icmp .ge 12, 3)), (22, (.aload_n 0, 1)), (23, (.getfield 15, 3)), (26, (.iload_n 3, 1)), (27, (.iaload, 1)), (28, (.goto 4, 3))]
theorem dt59_X9_valueOf_ok : ∀ q ∈ dt59_X9_valueOf, decode cX9_valueOf q.1 = .ok q.2 := by decide +kernel
theorem dX9_valueOf_32 : decode cX9_valueOf 32 = .ok (.ireturn, 1) := g_dec dt59_X9_valueOf_ok (k := 0) rfl
theorem dX9_valueOf_31 : decode cX9_valueOf 31 = .ok (.iconst 0, 1) := g_dec dt59_X9_valueOf_ok (k := 1) rfl
theorem dX9_valueOf_0 : decode cX9_valueOf 0 = .ok (.aload_n 0, 1) := g_dec dt59_X9_valueOf_ok (k := 2) rfl
theorem dX9_valueOf_1 : decode cX9_valueOf 1 = .ok (.getfield 11, 3) := g_dec dt59_X9_valueOf_ok (k := 3) rfl
theorem dX9_valueOf_4 : decode cX9_valueOf 4 = .ok (.lload_n 1, 1) := g_dec dt59_X9_valueOf_ok (k := 4) rfl
theorem dX9_valueOf_5 : decode cX9_valueOf 5 = .ok (.invokestatic 23, 3) := g_dec dt59_X9_valueOf_ok (k := 5) rfl
theorem dX9_valueOf_8 : decode cX9_valueOf 8 = .ok (.istore_n 3, 1) := g_dec dt59_X9_valueOf_ok (k := 6) rfl
theorem dX9_valueOf_9 : decode cX9_valueOf 9 = .ok (.iload_n 3, 1) := g_dec dt59_X9_valueOf_ok (k := 7) rfl
theorem dX9_valueOf_10 : decode cX9_valueOf 10 = .ok (.ifCond .lt 21, 3) := g_dec dt59_X9_valueOf_ok (k := 8) rfl
theorem dX9_valueOf_13 : decode cX9_valueOf 13 = .ok (.iload_n 3, 1) := g_dec dt59_X9_valueOf_ok (k := 9) rfl
theorem dX9_valueOf_14 : decode cX9_valueOf 14 = .ok (.aload_n 0, 1) := g_dec dt59_X9_valueOf_ok (k := 10) rfl
theorem dX9_valueOf_15 : decode cX9_valueOf 15 = .ok (.getfield 15, 3) := g_dec dt59_X9_valueOf_ok (k := 11) rfl
theorem dX9_valueOf_18 : decode cX9_valueOf 18 = .ok (.arraylength, 1) := g_dec dt59_X9_valueOf_ok (k := 12) rfl
theorem dX9_valueOf_19 : decode cX9_valueOf 19 = .ok (.if_icmp .ge 12, 3) := g_dec dt59_X9_valueOf_ok (k := 13) rfl
theorem dX9_valueOf_22 : decode cX9_valueOf 22 = .ok (.aload_n 0, 1) := g_dec dt59_X9_valueOf_ok (k := 14) rfl
theorem dX9_valueOf_23 : decode cX9_valueOf 23 = .ok (.getfield 15, 3) := g_dec dt59_X9_valueOf_ok (k := 15) rfl
theorem dX9_valueOf_26 : decode cX9_valueOf 26 = .ok (.iload_n 3, 1) := g_dec dt59_X9_valueOf_ok (k := 16) rfl
theorem dX9_valueOf_27 : decode cX9_valueOf 27 = .ok (.iaload, 1) := g_dec dt59_X9_valueOf_ok (k := 17) rfl
theorem dX9_valueOf_28 : decode cX9_valueOf 28 = .ok (.goto 4, 3) := g_dec dt59_X9_valueOf_ok (k := 18) rfl
def dt60_X9_verdictOf : List (Nat × Instr × Nat) := [(42, (.ireturn, 1)), (41, (.iconst 0, 1)), (0, (.aload_n 0, 1)), (1, (.getfield 11, 3)), (4, (.aload_n 1, 1)), (5, (.lload_n 2, 1)), (6, (.invokestatic 19, 3)), (9, (.invokestatic 23, 3)), (12, (.istore 4, 2)), (14, (.iload 4, 2)), (16, (.ifCond .lt 25, 3)), (19, (.iload 4, 2)), (21, (.aload_n 0, 1)), (22, (.getfield 15, 3)), (25, (.arraylength, 1)), (26, (.if_icmp .ge 15, 3)), (29, (.aload_n 0, 1)), (30, (.getfield 15, 3)), (33, (.iload 4, 2)), (35, (.iaload, 1)), (36, (.iconst 3, 1)), (37, (.iand, 1)), (38, (.goto 4, 3))]
theorem dt60_X9_verdictOf_ok : ∀ q ∈ dt60_X9_verdictOf, decode cX9_verdictOf q.1 = .ok q.2 := by decide +kernel
theorem dX9_verdictOf_42 : decode cX9_verdictOf 42 = .ok (.ireturn, 1) := g_dec dt60_X9_verdictOf_ok (k := 0) rfl
theorem dX9_verdictOf_41 : decode cX9_verdictOf 41 = .ok (.iconst 0, 1) := g_dec dt60_X9_verdictOf_ok (k := 1) rfl
theorem dX9_verdictOf_0 : decode cX9_verdictOf 0 = .ok (.aload_n 0, 1) := g_dec dt60_X9_verdictOf_ok (k := 2) rfl
theorem dX9_verdictOf_1 : decode cX9_verdictOf 1 = .ok (.getfield 11, 3) := g_dec dt60_X9_verdictOf_ok (k := 3) rfl
theorem dX9_verdictOf_4 : decode cX9_verdictOf 4 = .ok (.aload_n 1, 1) := g_dec dt60_X9_verdictOf_ok (k := 4) rfl
theorem dX9_verdictOf_5 : decode cX9_verdictOf 5 = .ok (.lload_n 2, 1) := g_dec dt60_X9_verdictOf_ok (k := 5) rfl
theorem dX9_verdictOf_6 : decode cX9_verdictOf 6 = .ok (.invokestatic 19, 3) := g_dec dt60_X9_verdictOf_ok (k := 6) rfl
theorem dX9_verdictOf_9 : decode cX9_verdictOf 9 = .ok (.invokestatic 23, 3) := g_dec dt60_X9_verdictOf_ok (k := 7) rfl
theorem dX9_verdictOf_12 : decode cX9_verdictOf 12 = .ok (.istore 4, 2) := g_dec dt60_X9_verdictOf_ok (k := 8) rfl
theorem dX9_verdictOf_14 : decode cX9_verdictOf 14 = .ok (.iload 4, 2) := g_dec dt60_X9_verdictOf_ok (k := 9) rfl
theorem dX9_verdictOf_16 : decode cX9_verdictOf 16 = .ok (.ifCond .lt 25, 3) := g_dec dt60_X9_verdictOf_ok (k := 10) rfl
theorem dX9_verdictOf_19 : decode cX9_verdictOf 19 = .ok (.iload 4, 2) := g_dec dt60_X9_verdictOf_ok (k := 11) rfl
theorem dX9_verdictOf_21 : decode cX9_verdictOf 21 = .ok (.aload_n 0, 1) := g_dec dt60_X9_verdictOf_ok (k := 12) rfl
theorem dX9_verdictOf_22 : decode cX9_verdictOf 22 = .ok (.getfield 15, 3) := g_dec dt60_X9_verdictOf_ok (k := 13) rfl
theorem dX9_verdictOf_25 : decode cX9_verdictOf 25 = .ok (.arraylength, 1) := g_dec dt60_X9_verdictOf_ok (k := 14) rfl
theorem dX9_verdictOf_26 : decode cX9_verdictOf 26 = .ok (.if_icmp .ge 15, 3) := g_dec dt60_X9_verdictOf_ok (k := 15) rfl
theorem dX9_verdictOf_29 : decode cX9_verdictOf 29 = .ok (.aload_n 0, 1) := g_dec dt60_X9_verdictOf_ok (k := 16) rfl
theorem dX9_verdictOf_30 : decode cX9_verdictOf 30 = .ok (.getfield 15, 3) := g_dec dt60_X9_verdictOf_ok (k := 17) rfl
theorem dX9_verdictOf_33 : decode cX9_verdictOf 33 = .ok (.iload 4, 2) := g_dec dt60_X9_verdictOf_ok (k := 18) rfl
theorem dX9_verdictOf_35 : decode cX9_verdictOf 35 = .ok (.iaload, 1) := g_dec dt60_X9_verdictOf_ok (k := 19) rfl
theorem dX9_verdictOf_36 : decode cX9_verdictOf 36 = .ok (.iconst 3, 1) := g_dec dt60_X9_verdictOf_ok (k := 20) rfl
theorem dX9_verdictOf_37 : decode cX9_verdictOf 37 = .ok (.iand, 1) := g_dec dt60_X9_verdictOf_ok (k := 21) rfl
theorem dX9_verdictOf_38 : decode cX9_verdictOf 38 = .ok (.goto 4, 3) := g_dec dt60_X9_verdictOf_ok (k := 22) rfl
theorem ggV_RX0_30_X8_add : GoodIn wsL_law (wsV RX0 30 RX8 yX8_add (Cond.code yX8_add cX8_add 3 none :: wsL_law)) := g_gi (fun _ h => h) gW_good (List.forall_mem_cons.mpr ⟨⟨gw_591, rfl⟩, List.forall_mem_cons.mpr ⟨⟨gw_151, rfl⟩, List.forall_mem_cons.mpr ⟨⟨gw_152, rfl⟩, List.forall_mem_cons.mpr ⟨⟨gw_48, rfl⟩, fun _ h => nomatch h⟩⟩⟩⟩) ⟨gw_153, rfl⟩
section
variable {p : Program} {l : Launch} {e : Env} {s : State} {m : MethodId} {args : Array Value} {below : List Frame} {meth : Method} {c : Code} {D : va_G} {y : Nat → ClassId} {aS : Nat → Nat} {A : Nat → Prop} {L : List Nat} {ad : Nat → Nat} {N : Nat} {res : gS}
end
def fX0_start (N : Nat) (σ : gS) (x1 : Int64) : Option gS := (fX8_add N (sI (sI (sI σ 119 1 0) 121 1 0) 123 1 0) 119 x1).bind fun r_1 => (fX8_add N r_1 121 (0 : Int64)).bind fun r_3 => (fX8_add N r_3 123 (0 : Int64)).bind fun r_5 => some (sI (sI (sI r_5 118 4 0) 118 5 0) 118 6 (-1))
set_option maxRecDepth 100000 in
set_option maxHeartbeats 4000000 in
theorem kX0_start (l : Launch) (D : va_G) (y : Nat → ClassId) (aS : Nat → Nat) (sz : Nat) (L : List Nat) (hL : ∀ k, k < 179 → k ∈ L) (ad : Nat → Nat) (N : Nat) (σ : gS) (x1 : Int64) (res : gS) (h : fX0_start N σ x1 = some res) : Met l yX0_start (Cond.code yX0_start cX0_start 3 none :: wsL_law) ({ frames := 1, cells := 0, slots := 0, locals := 22 } : Room) (va_Pc [.ref (ad 118), .long x1] (gI D y aS (GW L y ad σ) sz)) (va_Qv (fun (_ : Unit) => True) (fun _ => gO D (va_A (GW L y ad σ) sz) (GW L y ad res)) (va_A (GW L y ad σ) sz)) 0 0 (va_A (GW L y ad σ) sz) := by
  refine g_of (by decide) (Nat.le_of_ble_eq_true rfl) ?_
  intro p e s m below meth c ls A hx hb hr hml hown hg hlocks hin hsz hK hP hD hS hA hAe hl
  rw [← hAe]
  replace hown : s.vm.findClass RX0 = some m.cls := hown
  have hY : gY D y A s L ad σ s.heap [] := ⟨hP, hD, hS⟩
  clear hP hD hS
  replace hl : lv_has ls 3 [(0, .ref (ad 118)), (1, .long x1)] := hl
  unfold fX0_start at h
  refine lv_aload_n hx hb dX0_start_0 rfl (lv_at hl 0 rfl) ?_
  refine G_get (ci := 0) (j := 0) (C := RX0) (T := TX0) (N := 7) (v := .ref (ad 119)) hx hb hg inlX0 hown hK hY (hL 118 (by decide)) gk_118 (by decide) rfl (by decide) tX0_0 (hg _ gw_120) rfl dX0_start_1 ?_
  refine lv_iconst (v := 0) hx hb dX0_start_4 (by decide) ?_
  refine G_putI (ci := 8) (j := 1) (C := RX8) (T := TX8) (N := 2) (v := 0) (ty := .int) hx hb hg inlX8 tyX8 tyX8_ok nmX8 hown hK hY (hL 119 (by decide)) gk_119 (by decide) rfl (by decide) tX8_1 (hg _ gw_587) (by decide +kernel) rfl rfl (fun _ _ => rfl) (fun _ _ => Nat.le_of_ble_eq_true rfl) dX0_start_5 ?_
  clear hY
  intro H locs hY
  refine lv_aload_n hx hb dX0_start_8 rfl (lv_at hl 0 rfl) ?_
  refine G_get (ci := 0) (j := 1) (C := RX0) (T := TX0) (N := 7) (v := .ref (ad 121)) hx hb hg inlX0 hown hK hY (hL 118 (by decide)) gk_118 (by decide) rfl (by decide) tX0_1 (hg _ gw_121) rfl dX0_start_9 ?_
  refine lv_iconst (v := 0) hx hb dX0_start_12 (by decide) ?_
  refine G_putI (ci := 8) (j := 1) (C := RX8) (T := TX8) (N := 2) (v := 0) (ty := .int) hx hb hg inlX8 tyX8 tyX8_ok nmX8 hown hK hY (hL 121 (by decide)) gk_121 (by decide) rfl (by decide) tX8_1 (hg _ gw_587) (by decide +kernel) rfl rfl (fun _ _ => rfl) (fun _ _ => Nat.le_of_ble_eq_true rfl) dX0_start_13 ?_
  clear hY
  intro H locs hY
  refine lv_aload_n hx hb dX0_start_16 rfl (lv_at hl 0 rfl) ?_
  refine G_get (ci := 0) (j := 2) (C := RX0) (T := TX0) (N := 7) (v := .ref (ad 123)) hx hb hg inlX0 hown hK hY (hL 118 (by decide)) gk_118 (by decide) rfl (by decide) tX0_2 (hg _ gw_122) rfl dX0_start_17 ?_
  refine lv_iconst (v := 0) hx hb dX0_start_20 (by decide) ?_
  refine G_putI (ci := 8) (j := 1) (C := RX8) (T := TX8) (N := 2) (v := 0) (ty := .int) hx hb hg inlX8 tyX8 tyX8_ok nmX8 hown hK hY (hL 123 (by decide)) gk_123 (by decide) rfl (by decide) tX8_1 (hg _ gw_587) (by decide +kernel) rfl rfl (fun _ _ => rfl) (fun _ _ => Nat.le_of_ble_eq_true rfl) dX0_start_21 ?_
  clear hY
  intro H locs hY
  refine lv_aload_n hx hb dX0_start_24 rfl (lv_at hl 0 rfl) ?_
  refine G_get (ci := 0) (j := 0) (C := RX0) (T := TX0) (N := 7) (v := .ref (ad 119)) hx hb hg inlX0 hown hK hY (hL 118 (by decide)) gk_118 (by decide) rfl (by decide) tX0_0 (hg _ gw_120) rfl dX0_start_25 ?_
  refine lv_lload_n hx hb dX0_start_28 rfl (lv_at hl 1 rfl) ?_
  obtain ⟨r_1, e_2, h⟩ := g_bind h
  refine G_av hY hA (va_runV (As := [.long x1]) (rest := []) ⟨hx, hb, hml, hown, hg⟩ (kX8_add l D y aS H.size L hL ad N (sI (sI (sI σ 119 1 0) 121 1 0) 123 1 0) 119 x1 _ gk_119 e_2) (cwV 1 hg ggV_RX0_30_X8_add rfl rfl rfl (by decide +kernel) ⟨Nat.le_of_ble_eq_true rfl, Nat.le_of_ble_eq_true rfl⟩) (G_pV (q := (RX8, TX8, 2)) hK hY (hL 119 (by decide)) gk_119 (by decide) rfl) rfl rfl hl.1 rfl (lv_room (Nat.le_of_ble_eq_true rfl)) dX0_start_29 ⟨Nat.le_of_ble_eq_true rfl, Nat.le_of_ble_eq_true rfl⟩) ?_
  clear hY
  rintro H locs hY
  refine lv_aload_n hx hb dX0_start_32 rfl (lv_at hl 0 rfl) ?_
  refine G_get (ci := 0) (j := 1) (C := RX0) (T := TX0) (N := 7) (v := .ref (ad 121)) hx hb hg inlX0 hown hK hY (hL 118 (by decide)) gk_118 (by decide) rfl (by decide) tX0_1 (hg _ gw_121) rfl dX0_start_33 ?_
  refine lv_lconst (v := 0) hx hb dX0_start_36 (by decide) ?_
  obtain ⟨r_3, e_4, h⟩ := g_bind h
  refine G_av hY hA (va_runV (As := [.long 0]) (rest := []) ⟨hx, hb, hml, hown, hg⟩ (kX8_add l D y aS H.size L hL ad N r_1 121 (0 : Int64) _ gk_121 e_4) (cwV 1 hg ggV_RX0_30_X8_add rfl rfl rfl (by decide +kernel) ⟨Nat.le_of_ble_eq_true rfl, Nat.le_of_ble_eq_true rfl⟩) (G_pV (q := (RX8, TX8, 2)) hK hY (hL 121 (by decide)) gk_121 (by decide) rfl) rfl rfl hl.1 rfl (lv_room (Nat.le_of_ble_eq_true rfl)) dX0_start_37 ⟨Nat.le_of_ble_eq_true rfl, Nat.le_of_ble_eq_true rfl⟩) ?_
  clear hY
  rintro H locs hY
  refine lv_aload_n hx hb dX0_start_40 rfl (lv_at hl 0 rfl) ?_
  refine G_get (ci := 0) (j := 2) (C := RX0) (T := TX0) (N := 7) (v := .ref (ad 123)) hx hb hg inlX0 hown hK hY (hL 118 (by decide)) gk_118 (by decide) rfl (by decide) tX0_2 (hg _ gw_122) rfl dX0_start_41 ?_
  refine lv_lconst (v := 0) hx hb dX0_start_44 (by decide) ?_
  obtain ⟨r_5, e_6, h⟩ := g_bind h
  refine G_av hY hA (va_runV (As := [.long 0]) (rest := []) ⟨hx, hb, hml, hown, hg⟩ (kX8_add l D y aS H.size L hL ad N r_3 123 (0 : Int64) _ gk_123 e_6) (cwV 1 hg ggV_RX0_30_X8_add rfl rfl rfl (by decide +kernel) ⟨Nat.le_of_ble_eq_true rfl, Nat.le_of_ble_eq_true rfl⟩) (G_pV (q := (RX8, TX8, 2)) hK hY (hL 123 (by decide)) gk_123 (by decide) rfl) rfl rfl hl.1 rfl (lv_room (Nat.le_of_ble_eq_true rfl)) dX0_start_45 ⟨Nat.le_of_ble_eq_true rfl, Nat.le_of_ble_eq_true rfl⟩) ?_
  clear hY
  rintro H locs hY
  refine lv_aload_n hx hb dX0_start_48 rfl (lv_at hl 0 rfl) ?_
  refine lv_iconst (v := 0) hx hb dX0_start_49 (by decide) ?_
  refine G_putI (ci := 0) (j := 4) (C := RX0) (T := TX0) (N := 7) (v := 0) (ty := .int) hx hb hg inlX0 tyX0 tyX0_ok nmX0 hown hK hY (hL 118 (by decide)) gk_118 (by decide) rfl (by decide) tX0_4 (hg _ gw_588) (by decide +kernel) rfl rfl (fun _ _ => rfl) (fun _ _ => Nat.le_of_ble_eq_true rfl) dX0_start_50 ?_
  clear hY
  intro H locs hY
  refine lv_aload_n hx hb dX0_start_53 rfl (lv_at hl 0 rfl) ?_
  refine lv_iconst (v := 0) hx hb dX0_start_54 (by decide) ?_
  refine G_putI (ci := 0) (j := 5) (C := RX0) (T := TX0) (N := 7) (v := 0) (ty := .int) hx hb hg inlX0 tyX0 tyX0_ok nmX0 hown hK hY (hL 118 (by decide)) gk_118 (by decide) rfl (by decide) tX0_5 (hg _ gw_589) (by decide +kernel) rfl rfl (fun _ _ => rfl) (fun _ _ => Nat.le_of_ble_eq_true rfl) dX0_start_55 ?_
  clear hY
  intro H locs hY
  refine lv_aload_n hx hb dX0_start_58 rfl (lv_at hl 0 rfl) ?_
  refine lv_iconst (v := (-1)) hx hb dX0_start_59 (by decide) ?_
  refine G_putI (ci := 0) (j := 6) (C := RX0) (T := TX0) (N := 7) (v := (-1)) (ty := .int) hx hb hg inlX0 tyX0 tyX0_ok nmX0 hown hK hY (hL 118 (by decide)) gk_118 (by decide) rfl (by decide) tX0_6 (hg _ gw_590) (by decide +kernel) rfl rfl (fun _ _ => rfl) (fun _ _ => Nat.le_of_ble_eq_true rfl) dX0_start_60 ?_
  clear hY
  intro H locs hY
  cases h
  exact g_vret hx hb hr hlocks () hY.1 hY.2.1 hY.2.2 trivial (Nat.le_of_ble_eq_true rfl) (Nat.le_of_ble_eq_true rfl) dX0_start_63
theorem ggV_RX0_43_X8_get : GoodIn wsL_law (wsV RX0 43 RX8 yX8_get (Cond.code yX8_get cX8_get 2 (some .long) :: wsL_law)) := g_gi (fun _ h => h) gW_good (List.forall_mem_cons.mpr ⟨⟨gw_601, rfl⟩, List.forall_mem_cons.mpr ⟨⟨gw_259, rfl⟩, List.forall_mem_cons.mpr ⟨⟨gw_260, rfl⟩, List.forall_mem_cons.mpr ⟨⟨gw_48, rfl⟩, fun _ h => nomatch h⟩⟩⟩⟩) ⟨gw_261, rfl⟩
theorem ggV_RX0_47_X1_onto : GoodIn wsL_law (wsV RX0 47 RX1 yX1_onto (Cond.code yX1_onto cX1_onto 3 (some .long) :: wsL_law)) := g_gi (fun _ h => h) gW_good (List.forall_mem_cons.mpr ⟨⟨gw_602, rfl⟩, List.forall_mem_cons.mpr ⟨⟨gw_283, rfl⟩, List.forall_mem_cons.mpr ⟨⟨gw_284, rfl⟩, List.forall_mem_cons.mpr ⟨⟨gw_63, rfl⟩, fun _ h => nomatch h⟩⟩⟩⟩) ⟨gw_285, rfl⟩
section
variable {p : Program} {l : Launch} {e : Env} {s : State} {m : MethodId} {args : Array Value} {below : List Frame} {meth : Method} {c : Code} {D : va_G} {y : Nat → ClassId} {aS : Nat → Nat} {A : Nat → Prop} {L : List Nat} {ad : Nat → Nat} {N : Nat} {res : gS}
end
def fX0_add (N : Nat) (σ : gS) (r1 : Nat) (x2 : Int32) : Option gS := (fX8_get N σ 119 (σ.1 118 5)).bind fun r_1 => (fX1_onto N σ r1 r_1).bind fun r_3 => (fX8_add N σ 119 r_3).bind fun r_5 => (fX8_get N r_5 121 (r_5.1 118 5)).bind fun r_7 => (fX8_add N r_5 121 (r_7 ||| ((r_5.1 r1 13).toInt64))).bind fun r_9 => (fX8_get N r_9 123 (r_9.1 118 5)).bind fun r_11 => (fX8_add N r_9 123 (r_11 + (x2.toInt64))).bind fun r_13 => some (sI r_13 118 5 ((r_13.1 118 5) + 1))
set_option maxRecDepth 100000 in
set_option maxHeartbeats 4000000 in
theorem kX0_add (l : Launch) (D : va_G) (y : Nat → ClassId) (aS : Nat → Nat) (sz : Nat) (L : List Nat) (hL : ∀ k, k < 179 → k ∈ L) (ad : Nat → Nat) (N : Nat) (σ : gS) (r1 : Nat) (x2 : Int32) (res : gS) (hr1 : gcl r1 = 1) (h : fX0_add N σ r1 x2 = some res) : Met l yX0_add (Cond.code yX0_add cX0_add 3 none :: wsL_law) ({ frames := 1, cells := 0, slots := 0, locals := 22 } : Room) (va_Pc [.ref (ad 118), .ref (ad r1), .int x2] (gI D y aS (GW L y ad σ) sz)) (va_Qv (fun (_ : Unit) => True) (fun _ => gO D (va_A (GW L y ad σ) sz) (GW L y ad res)) (va_A (GW L y ad σ) sz)) 0 0 (va_A (GW L y ad σ) sz) := by
  refine g_of (by decide) (Nat.le_of_ble_eq_true rfl) ?_
  intro p e s m below meth c ls A hx hb hr hml hown hg hlocks hin hsz hK hP hD hS hA hAe hl
  rw [← hAe]
  replace hown : s.vm.findClass RX0 = some m.cls := hown
  have hY : gY D y A s L ad σ s.heap [] := ⟨hP, hD, hS⟩
  clear hP hD hS
  replace hl : lv_has ls 3 [(0, .ref (ad 118)), (1, .ref (ad r1)), (2, .int x2)] := hl
  unfold fX0_add at h
  refine lv_aload_n hx hb dX0_add_0 rfl (lv_at hl 0 rfl) ?_
  refine G_get (ci := 0) (j := 0) (C := RX0) (T := TX0) (N := 7) (v := .ref (ad 119)) hx hb hg inlX0 hown hK hY (hL 118 (by decide)) gk_118 (by decide) rfl (by decide) tX0_0 (hg _ gw_120) rfl dX0_add_1 ?_
  refine lv_aload_n hx hb dX0_add_4 rfl (lv_at hl 1 rfl) ?_
  refine lv_aload_n hx hb dX0_add_5 rfl (lv_at hl 0 rfl) ?_
  refine G_get (ci := 0) (j := 0) (C := RX0) (T := TX0) (N := 7) (v := .ref (ad 119)) hx hb hg inlX0 hown hK hY (hL 118 (by decide)) gk_118 (by decide) rfl (by decide) tX0_0 (hg _ gw_120) rfl dX0_add_6 ?_
  refine lv_aload_n hx hb dX0_add_9 rfl (lv_at hl 0 rfl) ?_
  refine G_get (ci := 0) (j := 5) (C := RX0) (T := TX0) (N := 7) (v := .int (σ.1 118 5)) hx hb hg inlX0 hown hK hY (hL 118 (by decide)) gk_118 (by decide) rfl (by decide) tX0_5 (hg _ gw_589) rfl dX0_add_10 ?_
  obtain ⟨r_1, e_2, h⟩ := g_bind h
  refine G_al hY hA (va_runV (As := [.int (σ.1 118 5)]) (rest := [.ref (ad r1), .ref (ad 119)]) ⟨hx, hb, hml, hown, hg⟩ (kX8_get l D y aS s.heap.size L hL ad N σ 119 (σ.1 118 5) _ gk_119 e_2) (cwV 1 hg ggV_RX0_43_X8_get rfl rfl rfl (by decide +kernel) ⟨Nat.le_of_ble_eq_true rfl, Nat.le_of_ble_eq_true rfl⟩) (G_pV (q := (RX8, TX8, 2)) hK hY (hL 119 (by decide)) gk_119 (by decide) rfl) rfl rfl hl.1 rfl (lv_room (Nat.le_of_ble_eq_true rfl)) dX0_add_13 ⟨Nat.le_of_ble_eq_true rfl, Nat.le_of_ble_eq_true rfl⟩) ?_
  clear hY
  rintro _ H locs rfl hY
  obtain ⟨r_3, e_4, h⟩ := g_bind h
  refine G_al hY hA (va_runV (As := [.long r_1]) (rest := [.ref (ad 119)]) ⟨hx, hb, hml, hown, hg⟩ (kX1_onto l D y aS H.size L hL ad N σ r1 r_1 _ hr1 e_4) (cwV 1 hg ggV_RX0_47_X1_onto rfl rfl rfl (by decide +kernel) ⟨Nat.le_of_ble_eq_true rfl, Nat.le_of_ble_eq_true rfl⟩) (G_pV (q := (RX1, TX1, 14)) hK hY (hL _ (gcl_lt hr1 (by decide))) hr1 (by decide) rfl) rfl rfl hl.1 rfl (lv_room (Nat.le_of_ble_eq_true rfl)) dX0_add_16 ⟨Nat.le_of_ble_eq_true rfl, Nat.le_of_ble_eq_true rfl⟩) ?_
  clear hY
  rintro _ H locs rfl hY
  obtain ⟨r_5, e_6, h⟩ := g_bind h
  refine G_av hY hA (va_runV (As := [.long r_3]) (rest := []) ⟨hx, hb, hml, hown, hg⟩ (kX8_add l D y aS H.size L hL ad N σ 119 r_3 _ gk_119 e_6) (cwV 1 hg ggV_RX0_30_X8_add rfl rfl rfl (by decide +kernel) ⟨Nat.le_of_ble_eq_true rfl, Nat.le_of_ble_eq_true rfl⟩) (G_pV (q := (RX8, TX8, 2)) hK hY (hL 119 (by decide)) gk_119 (by decide) rfl) rfl rfl hl.1 rfl (lv_room (Nat.le_of_ble_eq_true rfl)) dX0_add_19 ⟨Nat.le_of_ble_eq_true rfl, Nat.le_of_ble_eq_true rfl⟩) ?_
  clear hY
  rintro H locs hY
  refine lv_aload_n hx hb dX0_add_22 rfl (lv_at hl 0 rfl) ?_
  refine G_get (ci := 0) (j := 1) (C := RX0) (T := TX0) (N := 7) (v := .ref (ad 121)) hx hb hg inlX0 hown hK hY (hL 118 (by decide)) gk_118 (by decide) rfl (by decide) tX0_1 (hg _ gw_121) rfl dX0_add_23 ?_
  refine lv_aload_n hx hb dX0_add_26 rfl (lv_at hl 0 rfl) ?_
  refine G_get (ci := 0) (j := 1) (C := RX0) (T := TX0) (N := 7) (v := .ref (ad 121)) hx hb hg inlX0 hown hK hY (hL 118 (by decide)) gk_118 (by decide) rfl (by decide) tX0_1 (hg _ gw_121) rfl dX0_add_27 ?_
  refine lv_aload_n hx hb dX0_add_30 rfl (lv_at hl 0 rfl) ?_
  refine G_get (ci := 0) (j := 5) (C := RX0) (T := TX0) (N := 7) (v := .int (r_5.1 118 5)) hx hb hg inlX0 hown hK hY (hL 118 (by decide)) gk_118 (by decide) rfl (by decide) tX0_5 (hg _ gw_589) rfl dX0_add_31 ?_
  obtain ⟨r_7, e_8, h⟩ := g_bind h
  refine G_al hY hA (va_runV (As := [.int (r_5.1 118 5)]) (rest := [.ref (ad 121)]) ⟨hx, hb, hml, hown, hg⟩ (kX8_get l D y aS H.size L hL ad N r_5 121 (r_5.1 118 5) _ gk_121 e_8) (cwV 1 hg ggV_RX0_43_X8_get rfl rfl rfl (by decide +kernel) ⟨Nat.le_of_ble_eq_true rfl, Nat.le_of_ble_eq_true rfl⟩) (G_pV (q := (RX8, TX8, 2)) hK hY (hL 121 (by decide)) gk_121 (by decide) rfl) rfl rfl hl.1 rfl (lv_room (Nat.le_of_ble_eq_true rfl)) dX0_add_34 ⟨Nat.le_of_ble_eq_true rfl, Nat.le_of_ble_eq_true rfl⟩) ?_
  clear hY
  rintro _ H locs rfl hY
  refine lv_aload_n hx hb dX0_add_37 rfl (lv_at hl 1 rfl) ?_
  refine G_get (ci := 1) (j := 13) (C := RX1) (T := TX1) (N := 14) (v := .int (r_5.1 r1 13)) hx hb hg inlX1 hown hK hY (hL _ (gcl_lt hr1 (by decide))) hr1 (by decide) rfl (by decide) tX1_13 (hg _ gw_600) rfl dX0_add_38 ?_
  refine lv_i2l (v := ((r_5.1 r1 13).toInt64)) hx hb dX0_add_41 rfl ?_
  refine lv_lor hx hb dX0_add_42 ?_
  obtain ⟨r_9, e_10, h⟩ := g_bind h
  refine G_av hY hA (va_runV (As := [.long (r_7 ||| ((r_5.1 r1 13).toInt64))]) (rest := []) ⟨hx, hb, hml, hown, hg⟩ (kX8_add l D y aS H.size L hL ad N r_5 121 (r_7 ||| ((r_5.1 r1 13).toInt64)) _ gk_121 e_10) (cwV 1 hg ggV_RX0_30_X8_add rfl rfl rfl (by decide +kernel) ⟨Nat.le_of_ble_eq_true rfl, Nat.le_of_ble_eq_true rfl⟩) (G_pV (q := (RX8, TX8, 2)) hK hY (hL 121 (by decide)) gk_121 (by decide) rfl) rfl rfl hl.1 rfl (lv_room (Nat.le_of_ble_eq_true rfl)) dX0_add_43 ⟨Nat.le_of_ble_eq_true rfl, Nat.le_of_ble_eq_true rfl⟩) ?_
  clear hY
  rintro H locs hY
  refine lv_aload_n hx hb dX0_add_46 rfl (lv_at hl 0 rfl) ?_
  refine G_get (ci := 0) (j := 2) (C := RX0) (T := TX0) (N := 7) (v := .ref (ad 123)) hx hb hg inlX0 hown hK hY (hL 118 (by decide)) gk_118 (by decide) rfl (by decide) tX0_2 (hg _ gw_122) rfl dX0_add_47 ?_
  refine lv_aload_n hx hb dX0_add_50 rfl (lv_at hl 0 rfl) ?_
  refine G_get (ci := 0) (j := 2) (C := RX0) (T := TX0) (N := 7) (v := .ref (ad 123)) hx hb hg inlX0 hown hK hY (hL 118 (by decide)) gk_118 (by decide) rfl (by decide) tX0_2 (hg _ gw_122) rfl dX0_add_51 ?_
  refine lv_aload_n hx hb dX0_add_54 rfl (lv_at hl 0 rfl) ?_
  refine G_get (ci := 0) (j := 5) (C := RX0) (T := TX0) (N := 7) (v := .int (r_9.1 118 5)) hx hb hg inlX0 hown hK hY (hL 118 (by decide)) gk_118 (by decide) rfl (by decide) tX0_5 (hg _ gw_589) rfl dX0_add_55 ?_
  obtain ⟨r_11, e_12, h⟩ := g_bind h
  refine G_al hY hA (va_runV (As := [.int (r_9.1 118 5)]) (rest := [.ref (ad 123)]) ⟨hx, hb, hml, hown, hg⟩ (kX8_get l D y aS H.size L hL ad N r_9 123 (r_9.1 118 5) _ gk_123 e_12) (cwV 1 hg ggV_RX0_43_X8_get rfl rfl rfl (by decide +kernel) ⟨Nat.le_of_ble_eq_true rfl, Nat.le_of_ble_eq_true rfl⟩) (G_pV (q := (RX8, TX8, 2)) hK hY (hL 123 (by decide)) gk_123 (by decide) rfl) rfl rfl hl.1 rfl (lv_room (Nat.le_of_ble_eq_true rfl)) dX0_add_58 ⟨Nat.le_of_ble_eq_true rfl, Nat.le_of_ble_eq_true rfl⟩) ?_
  clear hY
  rintro _ H locs rfl hY
  refine lv_iload_n hx hb dX0_add_61 rfl (lv_at hl 2 rfl) ?_
  refine lv_i2l (v := (x2.toInt64)) hx hb dX0_add_62 rfl ?_
  refine lv_ladd hx hb dX0_add_63 ?_
  obtain ⟨r_13, e_14, h⟩ := g_bind h
  refine G_av hY hA (va_runV (As := [.long (r_11 + (x2.toInt64))]) (rest := []) ⟨hx, hb, hml, hown, hg⟩ (kX8_add l D y aS H.size L hL ad N r_9 123 (r_11 + (x2.toInt64)) _ gk_123 e_14) (cwV 1 hg ggV_RX0_30_X8_add rfl rfl rfl (by decide +kernel) ⟨Nat.le_of_ble_eq_true rfl, Nat.le_of_ble_eq_true rfl⟩) (G_pV (q := (RX8, TX8, 2)) hK hY (hL 123 (by decide)) gk_123 (by decide) rfl) rfl rfl hl.1 rfl (lv_room (Nat.le_of_ble_eq_true rfl)) dX0_add_64 ⟨Nat.le_of_ble_eq_true rfl, Nat.le_of_ble_eq_true rfl⟩) ?_
  clear hY
  rintro H locs hY
  refine lv_aload_n hx hb dX0_add_67 rfl (lv_at hl 0 rfl) ?_
  refine lv_dup hx hb dX0_add_68 rfl ?_
  refine G_get (ci := 0) (j := 5) (C := RX0) (T := TX0) (N := 7) (v := .int (r_13.1 118 5)) hx hb hg inlX0 hown hK hY (hL 118 (by decide)) gk_118 (by decide) rfl (by decide) tX0_5 (hg _ gw_589) rfl dX0_add_69 ?_
  refine lv_iconst (v := 1) hx hb dX0_add_72 (by decide) ?_
  refine lv_iadd hx hb dX0_add_73 ?_
  refine G_putI (ci := 0) (j := 5) (C := RX0) (T := TX0) (N := 7) (v := ((r_13.1 118 5) + 1)) (ty := .int) hx hb hg inlX0 tyX0 tyX0_ok nmX0 hown hK hY (hL 118 (by decide)) gk_118 (by decide) rfl (by decide) tX0_5 (hg _ gw_589) (by decide +kernel) rfl rfl (fun _ _ => rfl) (fun _ _ => Nat.le_of_ble_eq_true rfl) dX0_add_74 ?_
  clear hY
  intro H locs hY
  cases h
  exact g_vret hx hb hr hlocks () hY.1 hY.2.1 hY.2.2 trivial (Nat.le_of_ble_eq_true rfl) (Nat.le_of_ble_eq_true rfl) dX0_add_77
section
variable {p : Program} {l : Launch} {e : Env} {s : State} {m : MethodId} {args : Array Value} {below : List Frame} {meth : Method} {c : Code} {D : va_G} {y : Nat → ClassId} {aS : Nat → Nat} {A : Nat → Prop} {L : List Nat} {ad : Nat → Nat} {N : Nat} {res : Int32}
def fX0_between_31 (N : Nat) (σ : gS) (x1 : Int64) (rec31 : Int32 → Option Int32) (x3 : Int32) : Option Int32 := if (σ.1 118 5) ≤ x3 then (some ((σ.1 118 5) - 1)) else ((fX8_get N σ 123 x3).bind fun r_2 => (fX8_get N σ 123 (σ.1 118 4)).bind fun r_4 => if (lg_cmp (2 * (r_2 - r_4)) x1) < 0 then (rec31 (x3 + 1)) else (some x3))
set_option maxRecDepth 100000 in
set_option maxHeartbeats 4000000 in
theorem wX0_between_31 {σ : gS} {x1 : Int64} (hx : p.tables.exec = Jvm.exec) (hb : c.code = cX0_between) (hr : meth.sig.returnType = (some .int)) (hml : c.maxLocals = 4) (hown : s.vm.findClass RX0 = some m.cls) (hg : ∀ w ∈ wsL_law, w.before args s = true) (hlocks : meth.locks = false) (hK : gK D y aS s) (hA : ∀ q, s.heap.size ≤ q → A q) (hL : ∀ k, k < 179 → k ∈ L) : ∀ (n : Nat) {x3 : Int32} (H : Heap) (locs : List Loc) (ls : Array Slot), gY D y A s L ad σ H locs → lv_has ls 4 [(0, .ref (ad 118)), (1, .long x1), (3, .int x3)] → lp (fX0_between_31 N σ x1) n x3 = some res → W p l e ({ frames := 1, cells := 0, slots := 0, locals := 21 } : Room) s m args below meth c H locs 0 0 (MQ below (va_Qi (fun (r : Int32) (_ : Unit) => r = res) (fun _ => gO D A (GW L y ad σ)) A) args s 0 0 A) (F0 m 31 ls []) := by
  intro n
  induction n with
  | zero => intro x3 H locs ls hY hl h; exact nomatch (show none = some res from h)
  | succ n hrec31 =>
    intro x3 H locs ls hY hl h
    replace h : fX0_between_31 N σ x1 (lp (fX0_between_31 N σ x1) n) x3 = some res := h
    generalize lp (fX0_between_31 N σ x1) n = rec31 at h hrec31
    unfold fX0_between_31 at h
    try dsimp only at h
    refine lv_iload_n hx hb dX0_between_31 rfl (lv_at hl 2 rfl) ?_
    refine lv_aload_n hx hb dX0_between_32 rfl (lv_at hl 0 rfl) ?_
    refine G_get (ci := 0) (j := 5) (C := RX0) (T := TX0) (N := 7) (v := .int (σ.1 118 5)) hx hb hg inlX0 hown hK hY (hL 118 (by decide)) gk_118 (by decide) rfl (by decide) tX0_5 (hg _ gw_589) rfl dX0_between_33 ?_
    refine lv_icmp_ge (tgt := 76) hx hb dX0_between_36 (by decide) (fun z_1 => ?_) (fun z_1 => ?_)
    ·
      rw [if_pos z_1] at h
      refine lv_aload_n hx hb dX0_between_76 rfl (lv_at hl 0 rfl) ?_
      refine G_get (ci := 0) (j := 5) (C := RX0) (T := TX0) (N := 7) (v := .int (σ.1 118 5)) hx hb hg inlX0 hown hK hY (hL 118 (by decide)) gk_118 (by decide) rfl (by decide) tX0_5 (hg _ gw_589) rfl dX0_between_77 ?_
      refine lv_iconst (v := 1) hx hb dX0_between_80 (by decide) ?_
      refine lv_isub hx hb dX0_between_81 ?_
      cases h
      exact g_iret hx hb hr hlocks () hY.1 hY.2.1 hY.2.2 rfl rfl (Nat.le_of_ble_eq_true rfl) (Nat.le_of_ble_eq_true rfl) dX0_between_82
    ·
      rw [if_neg z_1] at h
      refine lv_ldc2 (v := 2) hx hb hown (hg _ gw_613) dX0_between_39 ?_
      refine lv_aload_n hx hb dX0_between_42 rfl (lv_at hl 0 rfl) ?_
      refine G_get (ci := 0) (j := 2) (C := RX0) (T := TX0) (N := 7) (v := .ref (ad 123)) hx hb hg inlX0 hown hK hY (hL 118 (by decide)) gk_118 (by decide) rfl (by decide) tX0_2 (hg _ gw_122) rfl dX0_between_43 ?_
      refine lv_iload_n hx hb dX0_between_46 rfl (lv_at hl 2 rfl) ?_
      obtain ⟨r_2, e_3, h⟩ := g_bind h
      refine G_al hY hA (va_runV (As := [.int x3]) (rest := [.long 2]) ⟨hx, hb, hml, hown, hg⟩ (kX8_get l D y aS H.size L hL ad N σ 123 x3 _ gk_123 e_3) (cwV 1 hg ggV_RX0_43_X8_get rfl rfl rfl (by decide +kernel) ⟨Nat.le_of_ble_eq_true rfl, Nat.le_of_ble_eq_true rfl⟩) (G_pV (q := (RX8, TX8, 2)) hK hY (hL 123 (by decide)) gk_123 (by decide) rfl) rfl rfl hl.1 rfl (lv_room (Nat.le_of_ble_eq_true rfl)) dX0_between_47 ⟨Nat.le_of_ble_eq_true rfl, Nat.le_of_ble_eq_true rfl⟩) ?_
      clear hY
      rintro _ H locs rfl hY
      refine lv_aload_n hx hb dX0_between_50 rfl (lv_at hl 0 rfl) ?_
      refine G_get (ci := 0) (j := 2) (C := RX0) (T := TX0) (N := 7) (v := .ref (ad 123)) hx hb hg inlX0 hown hK hY (hL 118 (by decide)) gk_118 (by decide) rfl (by decide) tX0_2 (hg _ gw_122) rfl dX0_between_51 ?_
      refine lv_aload_n hx hb dX0_between_54 rfl (lv_at hl 0 rfl) ?_
      refine G_get (ci := 0) (j := 4) (C := RX0) (T := TX0) (N := 7) (v := .int (σ.1 118 4)) hx hb hg inlX0 hown hK hY (hL 118 (by decide)) gk_118 (by decide) rfl (by decide) tX0_4 (hg _ gw_588) rfl dX0_between_55 ?_
      obtain ⟨r_4, e_5, h⟩ := g_bind h
      refine G_al hY hA (va_runV (As := [.int (σ.1 118 4)]) (rest := [.long r_2, .long 2]) ⟨hx, hb, hml, hown, hg⟩ (kX8_get l D y aS H.size L hL ad N σ 123 (σ.1 118 4) _ gk_123 e_5) (cwV 1 hg ggV_RX0_43_X8_get rfl rfl rfl (by decide +kernel) ⟨Nat.le_of_ble_eq_true rfl, Nat.le_of_ble_eq_true rfl⟩) (G_pV (q := (RX8, TX8, 2)) hK hY (hL 123 (by decide)) gk_123 (by decide) rfl) rfl rfl hl.1 rfl (lv_room (Nat.le_of_ble_eq_true rfl)) dX0_between_58 ⟨Nat.le_of_ble_eq_true rfl, Nat.le_of_ble_eq_true rfl⟩) ?_
      clear hY
      rintro _ H locs rfl hY
      refine lv_lsub hx hb dX0_between_61 ?_
      refine lv_lmul hx hb dX0_between_62 ?_
      refine lv_lload_n hx hb dX0_between_63 rfl (lv_at hl 1 rfl) ?_
      refine W.lcmp hx hb dX0_between_64 ?_
      refine lv_if_lt (tgt := 70) hx hb dX0_between_65 (by decide) (fun z_6 => ?_) (fun z_6 => ?_)
      ·
        rw [if_pos z_6] at h
        refine lv_iinc (v := (x3 + 1)) (lv' := [(3, .int (x3 + 1)), (0, .ref (ad 118)), (1, .long x1)]) hx hb dX0_between_70 hl (k := 2) rfl rfl (by decide) rfl ?_
        clear hl
        intro ls hl
        refine lv_goto (tgt := 31) hx hb dX0_between_73 (by decide) ?_
        exact hrec31 _ _ _ hY (lv_sub hl [1, 2, 0] rfl) h
      ·
        rw [if_neg z_6] at h
        refine lv_iload_n hx hb dX0_between_68 rfl (lv_at hl 2 rfl) ?_
        cases h
        exact g_iret hx hb hr hlocks () hY.1 hY.2.1 hY.2.2 rfl rfl (Nat.le_of_ble_eq_true rfl) (Nat.le_of_ble_eq_true rfl) dX0_between_69
end
def fX0_between (N : Nat) (σ : gS) : Option Int32 := (fX8_get N σ 123 (σ.1 118 5)).bind fun r_1 => (fX8_get N σ 123 (σ.1 118 4)).bind fun r_3 => lp (fX0_between_31 N σ (r_1 - r_3)) N ((σ.1 118 4) + 1)
set_option maxRecDepth 100000 in
set_option maxHeartbeats 4000000 in
theorem kX0_between (l : Launch) (D : va_G) (y : Nat → ClassId) (aS : Nat → Nat) (sz : Nat) (L : List Nat) (hL : ∀ k, k < 179 → k ∈ L) (ad : Nat → Nat) (N : Nat) (σ : gS) (res : Int32) (h : fX0_between N σ = some res) : Met l yX0_between (Cond.code yX0_between cX0_between 4 (some .int) :: wsL_law) ({ frames := 1, cells := 0, slots := 0, locals := 21 } : Room) (va_Pc [.ref (ad 118)] (gI D y aS (GW L y ad σ) sz)) (va_Qi (fun (r : Int32) (_ : Unit) => r = res) (fun _ => gO D (va_A (GW L y ad σ) sz) (GW L y ad σ)) (va_A (GW L y ad σ) sz)) 0 0 (va_A (GW L y ad σ) sz) := by
  refine g_of (by decide) (Nat.le_of_ble_eq_true rfl) ?_
  intro p e s m below meth c ls A hx hb hr hml hown hg hlocks hin hsz hK hP hD hS hA hAe hl
  rw [← hAe]
  replace hown : s.vm.findClass RX0 = some m.cls := hown
  have hY : gY D y A s L ad σ s.heap [] := ⟨hP, hD, hS⟩
  clear hP hD hS
  replace hl : lv_has ls 4 [(0, .ref (ad 118))] := hl
  unfold fX0_between at h
  refine lv_aload_n hx hb dX0_between_0 rfl (lv_at hl 0 rfl) ?_
  refine G_get (ci := 0) (j := 2) (C := RX0) (T := TX0) (N := 7) (v := .ref (ad 123)) hx hb hg inlX0 hown hK hY (hL 118 (by decide)) gk_118 (by decide) rfl (by decide) tX0_2 (hg _ gw_122) rfl dX0_between_1 ?_
  refine lv_aload_n hx hb dX0_between_4 rfl (lv_at hl 0 rfl) ?_
  refine G_get (ci := 0) (j := 5) (C := RX0) (T := TX0) (N := 7) (v := .int (σ.1 118 5)) hx hb hg inlX0 hown hK hY (hL 118 (by decide)) gk_118 (by decide) rfl (by decide) tX0_5 (hg _ gw_589) rfl dX0_between_5 ?_
  obtain ⟨r_1, e_2, h⟩ := g_bind h
  refine G_al hY hA (va_runV (As := [.int (σ.1 118 5)]) (rest := []) ⟨hx, hb, hml, hown, hg⟩ (kX8_get l D y aS s.heap.size L hL ad N σ 123 (σ.1 118 5) _ gk_123 e_2) (cwV 1 hg ggV_RX0_43_X8_get rfl rfl rfl (by decide +kernel) ⟨Nat.le_of_ble_eq_true rfl, Nat.le_of_ble_eq_true rfl⟩) (G_pV (q := (RX8, TX8, 2)) hK hY (hL 123 (by decide)) gk_123 (by decide) rfl) rfl rfl hl.1 rfl (lv_room (Nat.le_of_ble_eq_true rfl)) dX0_between_8 ⟨Nat.le_of_ble_eq_true rfl, Nat.le_of_ble_eq_true rfl⟩) ?_
  clear hY
  rintro _ H locs rfl hY
  refine lv_aload_n hx hb dX0_between_11 rfl (lv_at hl 0 rfl) ?_
  refine G_get (ci := 0) (j := 2) (C := RX0) (T := TX0) (N := 7) (v := .ref (ad 123)) hx hb hg inlX0 hown hK hY (hL 118 (by decide)) gk_118 (by decide) rfl (by decide) tX0_2 (hg _ gw_122) rfl dX0_between_12 ?_
  refine lv_aload_n hx hb dX0_between_15 rfl (lv_at hl 0 rfl) ?_
  refine G_get (ci := 0) (j := 4) (C := RX0) (T := TX0) (N := 7) (v := .int (σ.1 118 4)) hx hb hg inlX0 hown hK hY (hL 118 (by decide)) gk_118 (by decide) rfl (by decide) tX0_4 (hg _ gw_588) rfl dX0_between_16 ?_
  obtain ⟨r_3, e_4, h⟩ := g_bind h
  refine G_al hY hA (va_runV (As := [.int (σ.1 118 4)]) (rest := [.long r_1]) ⟨hx, hb, hml, hown, hg⟩ (kX8_get l D y aS H.size L hL ad N σ 123 (σ.1 118 4) _ gk_123 e_4) (cwV 1 hg ggV_RX0_43_X8_get rfl rfl rfl (by decide +kernel) ⟨Nat.le_of_ble_eq_true rfl, Nat.le_of_ble_eq_true rfl⟩) (G_pV (q := (RX8, TX8, 2)) hK hY (hL 123 (by decide)) gk_123 (by decide) rfl) rfl rfl hl.1 rfl (lv_room (Nat.le_of_ble_eq_true rfl)) dX0_between_19 ⟨Nat.le_of_ble_eq_true rfl, Nat.le_of_ble_eq_true rfl⟩) ?_
  clear hY
  rintro _ H locs rfl hY
  refine lv_lsub hx hb dX0_between_22 ?_
  refine lv_lstore_n (lv' := [(1, .long (r_1 - r_3)), (0, .ref (ad 118))]) hx hb dX0_between_23 rfl hl (by decide) rfl ?_
  clear hl
  intro ls hl
  refine lv_aload_n hx hb dX0_between_24 rfl (lv_at hl 1 rfl) ?_
  refine G_get (ci := 0) (j := 4) (C := RX0) (T := TX0) (N := 7) (v := .int (σ.1 118 4)) hx hb hg inlX0 hown hK hY (hL 118 (by decide)) gk_118 (by decide) rfl (by decide) tX0_4 (hg _ gw_588) rfl dX0_between_25 ?_
  refine lv_iconst (v := 1) hx hb dX0_between_28 (by decide) ?_
  refine lv_iadd hx hb dX0_between_29 ?_
  refine lv_istore_n (lv' := [(3, .int ((σ.1 118 4) + 1)), (1, .long (r_1 - r_3)), (0, .ref (ad 118))]) hx hb dX0_between_30 rfl hl (by decide) rfl ?_
  clear hl
  intro ls hl
  exact wX0_between_31 hx hb hr hml hown hg hlocks hK hA hL N _ _ _ hY (lv_sub hl [2, 1, 0] rfl) h
section
variable {p : Program} {l : Launch} {e : Env} {s : State} {m : MethodId} {args : Array Value} {below : List Frame} {meth : Method} {c : Code} {D : va_G} {y : Nat → ClassId} {aS : Nat → Nat} {A : Nat → Prop} {L : List Nat} {ad : Nat → Nat} {N : Nat} {res : Int32}
def fX0_isNarrowed_26 (N : Nat) (σ : gS) (xs0 : Int32) : Option Int32 := if ¬ (xs0 = 0 ∨ xs0 = 1) then none else (some xs0)
set_option maxRecDepth 100000 in
set_option maxHeartbeats 4000000 in
theorem wX0_isNarrowed_26 {σ : gS} {xs0 : Int32} (hx : p.tables.exec = Jvm.exec) (hb : c.code = cX0_isNarrowed) (hr : meth.sig.returnType = (some .boolean)) (hml : c.maxLocals = 1) (hown : s.vm.findClass RX0 = some m.cls) (hg : ∀ w ∈ wsL_law, w.before args s = true) (hlocks : meth.locks = false) (hK : gK D y aS s) (hA : ∀ q, s.heap.size ≤ q → A q) (hL : ∀ k, k < 179 → k ∈ L) {H : Heap} {locs : List Loc} {ls : Array Slot} (hY : gY D y A s L ad σ H locs) (hl : lv_has ls 1 []) (h : fX0_isNarrowed_26 N σ xs0 = some res) : W p l e ({ frames := 0, cells := 0, slots := 0, locals := 0 } : Room) s m args below meth c H locs 0 0 (MQ below (va_Qi (fun (r : Int32) (_ : Unit) => r = res) (fun _ => gO D A (GW L y ad σ)) A) args s 0 0 A) (F0 m 26 ls [.int xs0]) := by
  unfold fX0_isNarrowed_26 at h
  obtain ⟨z_1, h⟩ := g_guard h
  cases h
  exact g_iret hx hb hr hlocks () hY.1 hY.2.1 hY.2.2 (g_nz (Classical.not_not.mp z_1)) rfl (Nat.le_of_ble_eq_true rfl) (Nat.le_of_ble_eq_true rfl) dX0_isNarrowed_26
def fX0_isNarrowed_25 (N : Nat) (σ : gS) : Option Int32 := fX0_isNarrowed_26 N σ 0
set_option maxRecDepth 100000 in
set_option maxHeartbeats 4000000 in
theorem wX0_isNarrowed_25 {σ : gS} (hx : p.tables.exec = Jvm.exec) (hb : c.code = cX0_isNarrowed) (hr : meth.sig.returnType = (some .boolean)) (hml : c.maxLocals = 1) (hown : s.vm.findClass RX0 = some m.cls) (hg : ∀ w ∈ wsL_law, w.before args s = true) (hlocks : meth.locks = false) (hK : gK D y aS s) (hA : ∀ q, s.heap.size ≤ q → A q) (hL : ∀ k, k < 179 → k ∈ L) {H : Heap} {locs : List Loc} {ls : Array Slot} (hY : gY D y A s L ad σ H locs) (hl : lv_has ls 1 []) (h : fX0_isNarrowed_25 N σ = some res) : W p l e ({ frames := 0, cells := 0, slots := 0, locals := 0 } : Room) s m args below meth c H locs 0 0 (MQ below (va_Qi (fun (r : Int32) (_ : Unit) => r = res) (fun _ => gO D A (GW L y ad σ)) A) args s 0 0 A) (F0 m 25 ls []) := by
  unfold fX0_isNarrowed_25 at h
  refine lv_iconst (v := 0) hx hb dX0_isNarrowed_25 (by decide) ?_
  exact wX0_isNarrowed_26 hx hb hr hml hown hg hlocks hK hA hL hY (lv_sub hl [] rfl) h
end
def fX0_isNarrowed (N : Nat) (σ : gS) : Option Int32 := if (σ.1 118 3) = 2 then (if ((σ.1 118 5) - (σ.1 118 4)) = 1 then (fX0_isNarrowed_26 N σ 1) else (fX0_isNarrowed_25 N σ)) else (fX0_isNarrowed_25 N σ)
set_option maxRecDepth 100000 in
set_option maxHeartbeats 4000000 in
theorem kX0_isNarrowed (l : Launch) (D : va_G) (y : Nat → ClassId) (aS : Nat → Nat) (sz : Nat) (L : List Nat) (hL : ∀ k, k < 179 → k ∈ L) (ad : Nat → Nat) (N : Nat) (σ : gS) (res : Int32) (h : fX0_isNarrowed N σ = some res) : Met l yX0_isNarrowed (Cond.code yX0_isNarrowed cX0_isNarrowed 1 (some .boolean) :: wsL_law) ({ frames := 0, cells := 0, slots := 0, locals := 0 } : Room) (va_Pc [.ref (ad 118)] (gI D y aS (GW L y ad σ) sz)) (va_Qi (fun (r : Int32) (_ : Unit) => r = res) (fun _ => gO D (va_A (GW L y ad σ) sz) (GW L y ad σ)) (va_A (GW L y ad σ) sz)) 0 0 (va_A (GW L y ad σ) sz) := by
  refine g_of (by decide) (Nat.le_of_ble_eq_true rfl) ?_
  intro p e s m below meth c ls A hx hb hr hml hown hg hlocks hin hsz hK hP hD hS hA hAe hl
  rw [← hAe]
  replace hown : s.vm.findClass RX0 = some m.cls := hown
  have hY : gY D y A s L ad σ s.heap [] := ⟨hP, hD, hS⟩
  clear hP hD hS
  replace hl : lv_has ls 1 [(0, .ref (ad 118))] := hl
  unfold fX0_isNarrowed at h
  refine lv_aload_n hx hb dX0_isNarrowed_0 rfl (lv_at hl 0 rfl) ?_
  refine G_get (ci := 0) (j := 3) (C := RX0) (T := TX0) (N := 7) (v := .int (σ.1 118 3)) hx hb hg inlX0 hown hK hY (hL 118 (by decide)) gk_118 (by decide) rfl (by decide) tX0_3 (hg _ gw_618) rfl dX0_isNarrowed_1 ?_
  refine lv_iconst (v := 2) hx hb dX0_isNarrowed_4 (by decide) ?_
  refine lv_icmp_ne (tgt := 25) hx hb dX0_isNarrowed_5 (by decide) (fun z_1 => ?_) (fun z_1 => ?_)
  ·
    rw [if_neg z_1] at h
    exact wX0_isNarrowed_25 hx hb hr hml hown hg hlocks hK hA hL hY (lv_sub hl [] rfl) h
  ·
    rw [if_pos z_1] at h
    refine lv_aload_n hx hb dX0_isNarrowed_8 rfl (lv_at hl 0 rfl) ?_
    refine G_get (ci := 0) (j := 5) (C := RX0) (T := TX0) (N := 7) (v := .int (σ.1 118 5)) hx hb hg inlX0 hown hK hY (hL 118 (by decide)) gk_118 (by decide) rfl (by decide) tX0_5 (hg _ gw_589) rfl dX0_isNarrowed_9 ?_
    refine lv_aload_n hx hb dX0_isNarrowed_12 rfl (lv_at hl 0 rfl) ?_
    refine G_get (ci := 0) (j := 4) (C := RX0) (T := TX0) (N := 7) (v := .int (σ.1 118 4)) hx hb hg inlX0 hown hK hY (hL 118 (by decide)) gk_118 (by decide) rfl (by decide) tX0_4 (hg _ gw_588) rfl dX0_isNarrowed_13 ?_
    refine lv_isub hx hb dX0_isNarrowed_16 ?_
    refine lv_iconst (v := 1) hx hb dX0_isNarrowed_17 (by decide) ?_
    refine lv_icmp_ne (tgt := 25) hx hb dX0_isNarrowed_18 (by decide) (fun z_2 => ?_) (fun z_2 => ?_)
    ·
      rw [if_neg z_2] at h
      exact wX0_isNarrowed_25 hx hb hr hml hown hg hlocks hK hA hL hY (lv_sub hl [] rfl) h
    ·
      rw [if_pos z_2] at h
      refine lv_iconst (v := 1) hx hb dX0_isNarrowed_21 (by decide) ?_
      refine lv_goto (tgt := 26) hx hb dX0_isNarrowed_22 (by decide) ?_
      exact wX0_isNarrowed_26 hx hb hr hml hown hg hlocks hK hA hL hY (lv_sub hl [] rfl) h
section
variable {p : Program} {l : Launch} {e : Env} {s : State} {m : MethodId} {args : Array Value} {below : List Frame} {meth : Method} {c : Code} {D : va_G} {y : Nat → ClassId} {aS : Nat → Nat} {A : Nat → Prop} {L : List Nat} {ad : Nat → Nat} {N : Nat} {res : Nat}
def fX2_at_26 (N : Nat) (σ : gS) : Option Nat := some 3
set_option maxRecDepth 100000 in
set_option maxHeartbeats 4000000 in
theorem wX2_at_26 {σ : gS} (hx : p.tables.exec = Jvm.exec) (hb : c.code = cX2_at) (hr : meth.sig.returnType = (some (.object "Greentrunk$Change"))) (hml : c.maxLocals = 3) (hown : s.vm.findClass RX2 = some m.cls) (hg : ∀ w ∈ wsL_law, w.before args s = true) (hlocks : meth.locks = false) (hK : gK D y aS s) (hA : ∀ q, s.heap.size ≤ q → A q) (hL : ∀ k, k < 179 → k ∈ L) {H : Heap} {locs : List Loc} {ls : Array Slot} (hY : gY D y A s L ad σ H locs) (hl : lv_has ls 3 [(0, .ref (ad 1))]) (h : fX2_at_26 N σ = some res) : W p l e ({ frames := 0, cells := 0, slots := 0, locals := 0 } : Room) s m args below meth c H locs 0 0 (MQ below (va_Qr (fun (_ : Unit) => gcl res = 1) (fun u b t => b = (fun _ : Unit => ad res) u ∧ gO D A (GW L y ad σ) t) A) args s 0 0 A) (F0 m 26 ls []) := by
  unfold fX2_at_26 at h
  refine lv_aload_n hx hb dX2_at_26 rfl (lv_at hl 0 rfl) ?_
  refine G_get (ci := 2) (j := 1) (C := RX2) (T := TX2) (N := 5) (v := .ref (ad 3)) hx hb hg inlX2 hown hK hY (hL 1 (by decide)) gk_1 (by decide) rfl (by decide) tX2_1 (hg _ gw_64) rfl dX2_at_27 ?_
  cases h
  exact g_aret hx hb hr hlocks () hY.1 hY.2.1 hY.2.2 rfl gk_3 (Nat.le_of_ble_eq_true rfl) (Nat.le_of_ble_eq_true rfl) dX2_at_30
end
def fX2_at (N : Nat) (σ : gS) (x1 : Int32) : Option Nat := if x1 < 0 then (fX2_at_26 N σ) else (if 60 ≤ x1 then (fX2_at_26 N σ) else (if x1 < 0 ∨ 60 ≤ x1.toNatClampNeg then none else (some (5 + x1.toNatClampNeg))))
set_option maxRecDepth 100000 in
set_option maxHeartbeats 4000000 in
theorem kX2_at (l : Launch) (D : va_G) (y : Nat → ClassId) (aS : Nat → Nat) (sz : Nat) (L : List Nat) (hL : ∀ k, k < 179 → k ∈ L) (ad : Nat → Nat) (N : Nat) (σ : gS) (x1 : Int32) (res : Nat) (h : fX2_at N σ x1 = some res) : Met l yX2_at (Cond.code yX2_at cX2_at 3 (some (.object "Greentrunk$Change")) :: wsL_law) ({ frames := 0, cells := 0, slots := 0, locals := 0 } : Room) (va_Pc [.ref (ad 1), .int x1] (gI D y aS (GW L y ad σ) sz)) (va_Qr (fun (_ : Unit) => gcl res = 1) (fun u b t => b = (fun _ : Unit => ad res) u ∧ gO D (va_A (GW L y ad σ) sz) (GW L y ad σ) t) (va_A (GW L y ad σ) sz)) 0 0 (va_A (GW L y ad σ) sz) := by
  refine g_of (by decide) (Nat.le_of_ble_eq_true rfl) ?_
  intro p e s m below meth c ls A hx hb hr hml hown hg hlocks hin hsz hK hP hD hS hA hAe hl
  rw [← hAe]
  replace hown : s.vm.findClass RX2 = some m.cls := hown
  have hY : gY D y A s L ad σ s.heap [] := ⟨hP, hD, hS⟩
  clear hP hD hS
  replace hl : lv_has ls 3 [(0, .ref (ad 1)), (1, .int x1)] := hl
  unfold fX2_at at h
  refine lv_iload_n hx hb dX2_at_0 rfl (lv_at hl 1 rfl) ?_
  refine lv_if_lt (tgt := 26) hx hb dX2_at_1 (by decide) (fun z_1 => ?_) (fun z_1 => ?_)
  ·
    rw [if_pos z_1] at h
    exact wX2_at_26 hx hb hr hml hown hg hlocks hK hA hL hY (lv_sub hl [0] rfl) h
  ·
    rw [if_neg z_1] at h
    refine lv_iload_n hx hb dX2_at_4 rfl (lv_at hl 1 rfl) ?_
    refine lv_aload_n hx hb dX2_at_5 rfl (lv_at hl 0 rfl) ?_
    refine G_get (ci := 2) (j := 0) (C := RX2) (T := TX2) (N := 5) (v := .ref (ad 2)) hx hb hg inlX2 hown hK hY (hL 1 (by decide)) gk_1 (by decide) rfl (by decide) tX2_0 (hg _ gw_61) rfl dX2_at_6 ?_
    refine G_alen23 hx hb hK hY (hL 2 (by decide)) gk_2 dX2_at_9 ?_
    refine lv_icmp_ge (tgt := 26) hx hb dX2_at_10 (by decide) (fun z_2 => ?_) (fun z_2 => ?_)
    ·
      rw [if_pos z_2] at h
      exact wX2_at_26 hx hb hr hml hown hg hlocks hK hA hL hY (lv_sub hl [0] rfl) h
    ·
      rw [if_neg z_2] at h
      refine lv_aload_n hx hb dX2_at_13 rfl (lv_at hl 0 rfl) ?_
      refine G_get (ci := 2) (j := 0) (C := RX2) (T := TX2) (N := 5) (v := .ref (ad 2)) hx hb hg inlX2 hown hK hY (hL 1 (by decide)) gk_1 (by decide) rfl (by decide) tX2_0 (hg _ gw_61) rfl dX2_at_14 ?_
      refine lv_iload_n hx hb dX2_at_17 rfl (lv_at hl 1 rfl) ?_
      obtain ⟨z_3, h⟩ := g_guard h
      refine G_aald23 (j := x1.toNatClampNeg) hx hb hK hY (hL 2 (by decide)) gk_2 z_3 rfl dX2_at_18 ?_
      refine lv_astore_n (lv' := [(2, .ref (ad (5 + x1.toNatClampNeg))), (0, .ref (ad 1)), (1, .int x1)]) hx hb dX2_at_19 rfl hl (by decide) rfl ?_
      clear hl
      intro ls hl
      refine lv_aload_n hx hb dX2_at_20 rfl (lv_at hl 0 rfl) ?_
      refine lv_ifnull hx hb dX2_at_21 ?_
      refine lv_aload_n hx hb dX2_at_24 rfl (lv_at hl 0 rfl) ?_
      cases h
      exact g_aret hx hb hr hlocks () hY.1 hY.2.1 hY.2.2 rfl (gc_23 z_3 rfl) (Nat.le_of_ble_eq_true rfl) (Nat.le_of_ble_eq_true rfl) dX2_at_25
section
variable {p : Program} {l : Launch} {e : Env} {s : State} {m : MethodId} {args : Array Value} {below : List Frame} {meth : Method} {c : Code} {D : va_G} {y : Nat → ClassId} {aS : Nat → Nat} {A : Nat → Prop} {L : List Nat} {ad : Nat → Nat} {N : Nat} {res : gS}
end
def fX2_beginOne (N : Nat) (σ : gS) (x1 : Int32) (x2 : Int32) : Option gS := some (sI (sJ (sJ (sI (sI (sI σ 4 1 x1) 4 2 x2) 4 5 0) 4 6 0) 4 8 0) 1 3 1)
set_option maxRecDepth 100000 in
set_option maxHeartbeats 4000000 in
theorem kX2_beginOne (l : Launch) (D : va_G) (y : Nat → ClassId) (aS : Nat → Nat) (sz : Nat) (L : List Nat) (hL : ∀ k, k < 179 → k ∈ L) (ad : Nat → Nat) (N : Nat) (σ : gS) (x1 : Int32) (x2 : Int32) (res : gS) (h : fX2_beginOne N σ x1 x2 = some res) : Met l yX2_beginOne (Cond.code yX2_beginOne cX2_beginOne 3 none :: wsL_law) ({ frames := 0, cells := 0, slots := 0, locals := 0 } : Room) (va_Pc [.ref (ad 1), .int x1, .int x2] (gI D y aS (GW L y ad σ) sz)) (va_Qv (fun (_ : Unit) => True) (fun _ => gO D (va_A (GW L y ad σ) sz) (GW L y ad res)) (va_A (GW L y ad σ) sz)) 0 0 (va_A (GW L y ad σ) sz) := by
  refine g_of (by decide) (Nat.le_of_ble_eq_true rfl) ?_
  intro p e s m below meth c ls A hx hb hr hml hown hg hlocks hin hsz hK hP hD hS hA hAe hl
  rw [← hAe]
  replace hown : s.vm.findClass RX2 = some m.cls := hown
  have hY : gY D y A s L ad σ s.heap [] := ⟨hP, hD, hS⟩
  clear hP hD hS
  replace hl : lv_has ls 3 [(0, .ref (ad 1)), (1, .int x1), (2, .int x2)] := hl
  unfold fX2_beginOne at h
  refine lv_aload_n hx hb dX2_beginOne_0 rfl (lv_at hl 0 rfl) ?_
  refine G_get (ci := 2) (j := 2) (C := RX2) (T := TX2) (N := 5) (v := .ref (ad 4)) hx hb hg inlX2 hown hK hY (hL 1 (by decide)) gk_1 (by decide) rfl (by decide) tX2_2 (hg _ gw_65) rfl dX2_beginOne_1 ?_
  refine lv_iload_n hx hb dX2_beginOne_4 rfl (lv_at hl 1 rfl) ?_
  refine G_putI (ci := 1) (j := 1) (C := RX1) (T := TX1) (N := 14) (v := x1) (ty := .int) hx hb hg inlX1 tyX1 tyX1_ok nmX1 hown hK hY (hL 4 (by decide)) gk_4 (by decide) rfl (by decide) tX1_1 (hg _ gw_322) (by decide +kernel) rfl rfl (fun _ _ => rfl) (fun _ _ => Nat.le_of_ble_eq_true rfl) dX2_beginOne_5 ?_
  clear hY
  intro H locs hY
  refine lv_aload_n hx hb dX2_beginOne_8 rfl (lv_at hl 0 rfl) ?_
  refine G_get (ci := 2) (j := 2) (C := RX2) (T := TX2) (N := 5) (v := .ref (ad 4)) hx hb hg inlX2 hown hK hY (hL 1 (by decide)) gk_1 (by decide) rfl (by decide) tX2_2 (hg _ gw_65) rfl dX2_beginOne_9 ?_
  refine lv_iload_n hx hb dX2_beginOne_12 rfl (lv_at hl 2 rfl) ?_
  refine G_putI (ci := 1) (j := 2) (C := RX1) (T := TX1) (N := 14) (v := x2) (ty := .int) hx hb hg inlX1 tyX1 tyX1_ok nmX1 hown hK hY (hL 4 (by decide)) gk_4 (by decide) rfl (by decide) tX1_2 (hg _ gw_323) (by decide +kernel) rfl rfl (fun _ _ => rfl) (fun _ _ => Nat.le_of_ble_eq_true rfl) dX2_beginOne_13 ?_
  clear hY
  intro H locs hY
  refine lv_aload_n hx hb dX2_beginOne_16 rfl (lv_at hl 0 rfl) ?_
  refine G_get (ci := 2) (j := 2) (C := RX2) (T := TX2) (N := 5) (v := .ref (ad 4)) hx hb hg inlX2 hown hK hY (hL 1 (by decide)) gk_1 (by decide) rfl (by decide) tX2_2 (hg _ gw_65) rfl dX2_beginOne_17 ?_
  refine lv_iconst (v := 0) hx hb dX2_beginOne_20 (by decide) ?_
  refine G_putI (ci := 1) (j := 5) (C := RX1) (T := TX1) (N := 14) (v := 0) (ty := .int) hx hb hg inlX1 tyX1 tyX1_ok nmX1 hown hK hY (hL 4 (by decide)) gk_4 (by decide) rfl (by decide) tX1_5 (hg _ gw_324) (by decide +kernel) rfl rfl (fun _ _ => rfl) (fun _ _ => Nat.le_of_ble_eq_true rfl) dX2_beginOne_21 ?_
  clear hY
  intro H locs hY
  refine lv_aload_n hx hb dX2_beginOne_24 rfl (lv_at hl 0 rfl) ?_
  refine G_get (ci := 2) (j := 2) (C := RX2) (T := TX2) (N := 5) (v := .ref (ad 4)) hx hb hg inlX2 hown hK hY (hL 1 (by decide)) gk_1 (by decide) rfl (by decide) tX2_2 (hg _ gw_65) rfl dX2_beginOne_25 ?_
  refine lv_lconst (v := 0) hx hb dX2_beginOne_28 (by decide) ?_
  refine G_putJ (ci := 1) (j := 6) (C := RX1) (T := TX1) (N := 14) (v := 0) (ty := .long) hx hb hg inlX1 tyX1 tyX1_ok nmX1 hown hK hY (hL 4 (by decide)) gk_4 (by decide) rfl (by decide) tX1_6 (hg _ gw_325) (by decide +kernel) rfl rfl (fun _ _ => rfl) (fun _ _ => Nat.le_of_ble_eq_true rfl) dX2_beginOne_29 ?_
  clear hY
  intro H locs hY
  refine lv_aload_n hx hb dX2_beginOne_32 rfl (lv_at hl 0 rfl) ?_
  refine G_get (ci := 2) (j := 2) (C := RX2) (T := TX2) (N := 5) (v := .ref (ad 4)) hx hb hg inlX2 hown hK hY (hL 1 (by decide)) gk_1 (by decide) rfl (by decide) tX2_2 (hg _ gw_65) rfl dX2_beginOne_33 ?_
  refine lv_lconst (v := 0) hx hb dX2_beginOne_36 (by decide) ?_
  refine G_putJ (ci := 1) (j := 8) (C := RX1) (T := TX1) (N := 14) (v := 0) (ty := .long) hx hb hg inlX1 tyX1 tyX1_ok nmX1 hown hK hY (hL 4 (by decide)) gk_4 (by decide) rfl (by decide) tX1_8 (hg _ gw_326) (by decide +kernel) rfl rfl (fun _ _ => rfl) (fun _ _ => Nat.le_of_ble_eq_true rfl) dX2_beginOne_37 ?_
  clear hY
  intro H locs hY
  refine lv_aload_n hx hb dX2_beginOne_40 rfl (lv_at hl 0 rfl) ?_
  refine lv_iconst (v := 1) hx hb dX2_beginOne_41 (by decide) ?_
  refine G_putI (ci := 2) (j := 3) (C := RX2) (T := TX2) (N := 5) (v := 1) (ty := .boolean) hx hb hg inlX2 tyX2 tyX2_ok nmX2 hown hK hY (hL 1 (by decide)) gk_1 (by decide) rfl (by decide) tX2_3 (hg _ gw_327) (by decide +kernel) rfl rfl (fun _ _ => rfl) (fun _ _ => Nat.le_of_ble_eq_true rfl) dX2_beginOne_42 ?_
  clear hY
  intro H locs hY
  cases h
  exact g_vret hx hb hr hlocks () hY.1 hY.2.1 hY.2.2 trivial (Nat.le_of_ble_eq_true rfl) (Nat.le_of_ble_eq_true rfl) dX2_beginOne_45
theorem ggV_RX2_48_X2_at : GoodIn wsL_law (wsV RX2 48 RX2 yX2_at (Cond.code yX2_at cX2_at 3 (some (.object "Greentrunk$Change")) :: wsL_law)) := g_gi (fun _ h => h) gW_good (List.forall_mem_cons.mpr ⟨⟨gw_239, rfl⟩, List.forall_mem_cons.mpr ⟨⟨gw_198, rfl⟩, List.forall_mem_cons.mpr ⟨⟨gw_199, rfl⟩, List.forall_mem_cons.mpr ⟨⟨gw_15, rfl⟩, fun _ h => nomatch h⟩⟩⟩⟩) ⟨gw_200, rfl⟩
theorem ggV_RX2_52_X1_isToCome : GoodIn wsL_law (wsV RX2 52 RX1 yX1_isToCome (Cond.code yX1_isToCome cX1_isToCome 1 (some .boolean) :: wsL_law)) := g_gi (fun _ h => h) gW_good (List.forall_mem_cons.mpr ⟨⟨gw_362, rfl⟩, List.forall_mem_cons.mpr ⟨⟨gw_310, rfl⟩, List.forall_mem_cons.mpr ⟨⟨gw_311, rfl⟩, List.forall_mem_cons.mpr ⟨⟨gw_63, rfl⟩, fun _ h => nomatch h⟩⟩⟩⟩) ⟨gw_312, rfl⟩
theorem ggV_RX2_59_X1_onto : GoodIn wsL_law (wsV RX2 59 RX1 yX1_onto (Cond.code yX1_onto cX1_onto 3 (some .long) :: wsL_law)) := g_gi (fun _ h => h) gW_good (List.forall_mem_cons.mpr ⟨⟨gw_363, rfl⟩, List.forall_mem_cons.mpr ⟨⟨gw_283, rfl⟩, List.forall_mem_cons.mpr ⟨⟨gw_284, rfl⟩, List.forall_mem_cons.mpr ⟨⟨gw_63, rfl⟩, fun _ h => nomatch h⟩⟩⟩⟩) ⟨gw_285, rfl⟩
section
variable {p : Program} {l : Launch} {e : Env} {s : State} {m : MethodId} {args : Array Value} {below : List Frame} {meth : Method} {c : Code} {D : va_G} {y : Nat → ClassId} {aS : Nat → Nat} {A : Nat → Prop} {L : List Nat} {ad : Nat → Nat} {N : Nat} {res : Int64}
def fX2_baseFor_43 (N : Nat) (σ : gS) (x2 : Int64) : Option Int64 := some x2
set_option maxRecDepth 100000 in
set_option maxHeartbeats 4000000 in
theorem wX2_baseFor_43 {σ : gS} {x2 : Int64} (hx : p.tables.exec = Jvm.exec) (hb : c.code = cX2_baseFor) (hr : meth.sig.returnType = (some .long)) (hml : c.maxLocals = 5) (hown : s.vm.findClass RX2 = some m.cls) (hg : ∀ w ∈ wsL_law, w.before args s = true) (hlocks : meth.locks = false) (hK : gK D y aS s) (hA : ∀ q, s.heap.size ≤ q → A q) (hL : ∀ k, k < 179 → k ∈ L) {H : Heap} {locs : List Loc} {ls : Array Slot} (hY : gY D y A s L ad σ H locs) (hl : lv_has ls 5 [(2, .long x2)]) (h : fX2_baseFor_43 N σ x2 = some res) : W p l e ({ frames := 1, cells := 0, slots := 0, locals := 22 } : Room) s m args below meth c H locs 0 0 (MQ below (va_Ql (fun (r : Int64) (_ : Unit) => r = res) (fun _ => gO D A (GW L y ad σ)) A) args s 0 0 A) (F0 m 43 ls []) := by
  unfold fX2_baseFor_43 at h
  refine lv_lload_n hx hb dX2_baseFor_43 rfl (lv_at hl 0 rfl) ?_
  cases h
  exact g_lret hx hb hr hlocks () hY.1 hY.2.1 hY.2.2 rfl (Nat.le_of_ble_eq_true rfl) (Nat.le_of_ble_eq_true rfl) dX2_baseFor_44
end
def fX2_baseFor (N : Nat) (σ : gS) (r1 : Nat) (x2 : Int64) : Option Int64 := if (σ.1 r1 2) = (-1) then (fX2_baseFor_43 N σ x2) else ((fX2_at N σ (σ.1 r1 2)).bind fun r_2 => (fX1_isToCome N σ r_2).bind fun r_5 => if r_5 = 0 then (fX2_baseFor_43 N σ x2) else ((fX2_at N σ (σ.1 r1 2)).bind fun r_8 => (fX1_onto N σ r_8 (σ.2.1 r_8 7)).bind fun r_11 => some r_11))
set_option maxRecDepth 100000 in
set_option maxHeartbeats 4000000 in
theorem kX2_baseFor (l : Launch) (D : va_G) (y : Nat → ClassId) (aS : Nat → Nat) (sz : Nat) (L : List Nat) (hL : ∀ k, k < 179 → k ∈ L) (ad : Nat → Nat) (N : Nat) (σ : gS) (r1 : Nat) (x2 : Int64) (res : Int64) (hr1 : gcl r1 = 1) (h : fX2_baseFor N σ r1 x2 = some res) : Met l yX2_baseFor (Cond.code yX2_baseFor cX2_baseFor 5 (some .long) :: wsL_law) ({ frames := 1, cells := 0, slots := 0, locals := 22 } : Room) (va_Pc [.ref (ad 1), .ref (ad r1), .long x2] (gI D y aS (GW L y ad σ) sz)) (va_Ql (fun (r : Int64) (_ : Unit) => r = res) (fun _ => gO D (va_A (GW L y ad σ) sz) (GW L y ad σ)) (va_A (GW L y ad σ) sz)) 0 0 (va_A (GW L y ad σ) sz) := by
  refine g_of (by decide) (Nat.le_of_ble_eq_true rfl) ?_
  intro p e s m below meth c ls A hx hb hr hml hown hg hlocks hin hsz hK hP hD hS hA hAe hl
  rw [← hAe]
  replace hown : s.vm.findClass RX2 = some m.cls := hown
  have hY : gY D y A s L ad σ s.heap [] := ⟨hP, hD, hS⟩
  clear hP hD hS
  replace hl : lv_has ls 5 [(0, .ref (ad 1)), (1, .ref (ad r1)), (2, .long x2)] := hl
  unfold fX2_baseFor at h
  refine lv_aload_n hx hb dX2_baseFor_0 rfl (lv_at hl 1 rfl) ?_
  refine G_get (ci := 1) (j := 2) (C := RX1) (T := TX1) (N := 14) (v := .int (σ.1 r1 2)) hx hb hg inlX1 hown hK hY (hL _ (gcl_lt hr1 (by decide))) hr1 (by decide) rfl (by decide) tX1_2 (hg _ gw_323) rfl dX2_baseFor_1 ?_
  refine lv_iconst (v := (-1)) hx hb dX2_baseFor_4 (by decide) ?_
  refine lv_icmp_eq (tgt := 43) hx hb dX2_baseFor_5 (by decide) (fun z_1 => ?_) (fun z_1 => ?_)
  ·
    rw [if_pos z_1] at h
    exact wX2_baseFor_43 hx hb hr hml hown hg hlocks hK hA hL hY (lv_sub hl [2] rfl) h
  ·
    rw [if_neg z_1] at h
    refine lv_aload_n hx hb dX2_baseFor_8 rfl (lv_at hl 0 rfl) ?_
    refine lv_aload_n hx hb dX2_baseFor_9 rfl (lv_at hl 1 rfl) ?_
    refine G_get (ci := 1) (j := 2) (C := RX1) (T := TX1) (N := 14) (v := .int (σ.1 r1 2)) hx hb hg inlX1 hown hK hY (hL _ (gcl_lt hr1 (by decide))) hr1 (by decide) rfl (by decide) tX1_2 (hg _ gw_323) rfl dX2_baseFor_10 ?_
    obtain ⟨r_2, e_3, h⟩ := g_bind h
    refine G_ar hY hA (va_runV (As := [.int (σ.1 r1 2)]) (rest := []) ⟨hx, hb, hml, hown, hg⟩ (kX2_at l D y aS s.heap.size L hL ad N σ (σ.1 r1 2) _ e_3) (cwV 1 hg ggV_RX2_48_X2_at rfl rfl rfl (by decide +kernel) ⟨Nat.le_of_ble_eq_true rfl, Nat.le_of_ble_eq_true rfl⟩) (G_pV (q := (RX2, TX2, 5)) hK hY (hL 1 (by decide)) gk_1 (by decide) rfl) rfl rfl hl.1 rfl (lv_room (Nat.le_of_ble_eq_true rfl)) dX2_baseFor_13 ⟨Nat.le_of_ble_eq_true rfl, Nat.le_of_ble_eq_true rfl⟩) ?_
    clear hY
    rintro H locs k_4 hY
    obtain ⟨r_5, e_6, h⟩ := g_bind h
    refine G_ai hY hA (va_runV (As := []) (rest := []) ⟨hx, hb, hml, hown, hg⟩ (kX1_isToCome l D y aS H.size L hL ad N σ r_2 _ k_4 e_6) (cwV 0 hg ggV_RX2_52_X1_isToCome rfl rfl rfl (by decide +kernel) ⟨Nat.le_of_ble_eq_true rfl, Nat.le_of_ble_eq_true rfl⟩) (G_pV (q := (RX1, TX1, 14)) hK hY (hL _ (gcl_lt k_4 (by decide))) k_4 (by decide) rfl) rfl rfl hl.1 rfl (lv_room (Nat.le_of_ble_eq_true rfl)) dX2_baseFor_16 ⟨Nat.le_of_ble_eq_true rfl, Nat.le_of_ble_eq_true rfl⟩) ?_
    clear hY
    rintro _ H locs rfl hY
    refine lv_if_eq (tgt := 43) hx hb dX2_baseFor_19 (by decide) (fun z_7 => ?_) (fun z_7 => ?_)
    ·
      rw [if_pos z_7] at h
      exact wX2_baseFor_43 hx hb hr hml hown hg hlocks hK hA hL hY (lv_sub hl [2] rfl) h
    ·
      rw [if_neg z_7] at h
      refine lv_aload_n hx hb dX2_baseFor_22 rfl (lv_at hl 0 rfl) ?_
      refine lv_aload_n hx hb dX2_baseFor_23 rfl (lv_at hl 1 rfl) ?_
      refine G_get (ci := 1) (j := 2) (C := RX1) (T := TX1) (N := 14) (v := .int (σ.1 r1 2)) hx hb hg inlX1 hown hK hY (hL _ (gcl_lt hr1 (by decide))) hr1 (by decide) rfl (by decide) tX1_2 (hg _ gw_323) rfl dX2_baseFor_24 ?_
      obtain ⟨r_8, e_9, h⟩ := g_bind h
      refine G_ar hY hA (va_runV (As := [.int (σ.1 r1 2)]) (rest := []) ⟨hx, hb, hml, hown, hg⟩ (kX2_at l D y aS H.size L hL ad N σ (σ.1 r1 2) _ e_9) (cwV 1 hg ggV_RX2_48_X2_at rfl rfl rfl (by decide +kernel) ⟨Nat.le_of_ble_eq_true rfl, Nat.le_of_ble_eq_true rfl⟩) (G_pV (q := (RX2, TX2, 5)) hK hY (hL 1 (by decide)) gk_1 (by decide) rfl) rfl rfl hl.1 rfl (lv_room (Nat.le_of_ble_eq_true rfl)) dX2_baseFor_27 ⟨Nat.le_of_ble_eq_true rfl, Nat.le_of_ble_eq_true rfl⟩) ?_
      clear hY
      rintro H locs k_10 hY
      refine lv_astore (lv' := [(4, .ref (ad r_8)), (0, .ref (ad 1)), (1, .ref (ad r1)), (2, .long x2)]) hx hb dX2_baseFor_30 hl (by decide) rfl ?_
      clear hl
      intro ls hl
      refine lv_aload hx hb dX2_baseFor_32 (lv_at hl 0 rfl) ?_
      refine lv_aload hx hb dX2_baseFor_34 (lv_at hl 0 rfl) ?_
      refine G_get (ci := 1) (j := 7) (C := RX1) (T := TX1) (N := 14) (v := .long (σ.2.1 r_8 7)) hx hb hg inlX1 hown hK hY (hL _ (gcl_lt k_10 (by decide))) k_10 (by decide) rfl (by decide) tX1_7 (hg _ gw_361) rfl dX2_baseFor_36 ?_
      obtain ⟨r_11, e_12, h⟩ := g_bind h
      refine G_al hY hA (va_runV (As := [.long (σ.2.1 r_8 7)]) (rest := []) ⟨hx, hb, hml, hown, hg⟩ (kX1_onto l D y aS H.size L hL ad N σ r_8 (σ.2.1 r_8 7) _ k_10 e_12) (cwV 1 hg ggV_RX2_59_X1_onto rfl rfl rfl (by decide +kernel) ⟨Nat.le_of_ble_eq_true rfl, Nat.le_of_ble_eq_true rfl⟩) (G_pV (q := (RX1, TX1, 14)) hK hY (hL _ (gcl_lt k_10 (by decide))) k_10 (by decide) rfl) rfl rfl hl.1 rfl (lv_room (Nat.le_of_ble_eq_true rfl)) dX2_baseFor_39 ⟨Nat.le_of_ble_eq_true rfl, Nat.le_of_ble_eq_true rfl⟩) ?_
      clear hY
      rintro _ H locs rfl hY
      cases h
      exact g_lret hx hb hr hlocks () hY.1 hY.2.1 hY.2.2 rfl (Nat.le_of_ble_eq_true rfl) (Nat.le_of_ble_eq_true rfl) dX2_baseFor_42
section
variable {p : Program} {l : Launch} {e : Env} {s : State} {m : MethodId} {args : Array Value} {below : List Frame} {meth : Method} {c : Code} {D : va_G} {y : Nat → ClassId} {aS : Nat → Nat} {A : Nat → Prop} {L : List Nat} {ad : Nat → Nat} {N : Nat} {res : (Int32 × gS)}
end
def fX2_addBegun (N : Nat) (σ : gS) (x1 : Int64) : Option (Int32 × gS) := (fX2_at N σ (σ.1 1 4)).bind fun r_1 => some (((sI (sJ (sJ (sJ (sI (sI (sI σ r_1 1 (σ.1 4 1)) r_1 2 ((sI σ r_1 1 (σ.1 4 1)).1 4 2)) r_1 5 ((sI (sI σ r_1 1 (σ.1 4 1)) r_1 2 ((sI σ r_1 1 (σ.1 4 1)).1 4 2)).1 4 5)) r_1 6 ((sI (sI (sI σ r_1 1 (σ.1 4 1)) r_1 2 ((sI σ r_1 1 (σ.1 4 1)).1 4 2)) r_1 5 ((sI (sI σ r_1 1 (σ.1 4 1)) r_1 2 ((sI σ r_1 1 (σ.1 4 1)).1 4 2)).1 4 5)).2.1 4 6)) r_1 8 ((sJ (sI (sI (sI σ r_1 1 (σ.1 4 1)) r_1 2 ((sI σ r_1 1 (σ.1 4 1)).1 4 2)) r_1 5 ((sI (sI σ r_1 1 (σ.1 4 1)) r_1 2 ((sI σ r_1 1 (σ.1 4 1)).1 4 2)).1 4 5)) r_1 6 ((sI (sI (sI σ r_1 1 (σ.1 4 1)) r_1 2 ((sI σ r_1 1 (σ.1 4 1)).1 4 2)) r_1 5 ((sI (sI σ r_1 1 (σ.1 4 1)) r_1 2 ((sI σ r_1 1 (σ.1 4 1)).1 4 2)).1 4 5)).2.1 4 6)).2.1 4 8)) r_1 7 x1) 1 3 0).1 1 4), (sI (sI (sJ (sJ (sJ (sI (sI (sI σ r_1 1 (σ.1 4 1)) r_1 2 ((sI σ r_1 1 (σ.1 4 1)).1 4 2)) r_1 5 ((sI (sI σ r_1 1 (σ.1 4 1)) r_1 2 ((sI σ r_1 1 (σ.1 4 1)).1 4 2)).1 4 5)) r_1 6 ((sI (sI (sI σ r_1 1 (σ.1 4 1)) r_1 2 ((sI σ r_1 1 (σ.1 4 1)).1 4 2)) r_1 5 ((sI (sI σ r_1 1 (σ.1 4 1)) r_1 2 ((sI σ r_1 1 (σ.1 4 1)).1 4 2)).1 4 5)).2.1 4 6)) r_1 8 ((sJ (sI (sI (sI σ r_1 1 (σ.1 4 1)) r_1 2 ((sI σ r_1 1 (σ.1 4 1)).1 4 2)) r_1 5 ((sI (sI σ r_1 1 (σ.1 4 1)) r_1 2 ((sI σ r_1 1 (σ.1 4 1)).1 4 2)).1 4 5)) r_1 6 ((sI (sI (sI σ r_1 1 (σ.1 4 1)) r_1 2 ((sI σ r_1 1 (σ.1 4 1)).1 4 2)) r_1 5 ((sI (sI σ r_1 1 (σ.1 4 1)) r_1 2 ((sI σ r_1 1 (σ.1 4 1)).1 4 2)).1 4 5)).2.1 4 6)).2.1 4 8)) r_1 7 x1) 1 3 0) 1 4 (((sI (sJ (sJ (sJ (sI (sI (sI σ r_1 1 (σ.1 4 1)) r_1 2 ((sI σ r_1 1 (σ.1 4 1)).1 4 2)) r_1 5 ((sI (sI σ r_1 1 (σ.1 4 1)) r_1 2 ((sI σ r_1 1 (σ.1 4 1)).1 4 2)).1 4 5)) r_1 6 ((sI (sI (sI σ r_1 1 (σ.1 4 1)) r_1 2 ((sI σ r_1 1 (σ.1 4 1)).1 4 2)) r_1 5 ((sI (sI σ r_1 1 (σ.1 4 1)) r_1 2 ((sI σ r_1 1 (σ.1 4 1)).1 4 2)).1 4 5)).2.1 4 6)) r_1 8 ((sJ (sI (sI (sI σ r_1 1 (σ.1 4 1)) r_1 2 ((sI σ r_1 1 (σ.1 4 1)).1 4 2)) r_1 5 ((sI (sI σ r_1 1 (σ.1 4 1)) r_1 2 ((sI σ r_1 1 (σ.1 4 1)).1 4 2)).1 4 5)) r_1 6 ((sI (sI (sI σ r_1 1 (σ.1 4 1)) r_1 2 ((sI σ r_1 1 (σ.1 4 1)).1 4 2)) r_1 5 ((sI (sI σ r_1 1 (σ.1 4 1)) r_1 2 ((sI σ r_1 1 (σ.1 4 1)).1 4 2)).1 4 5)).2.1 4 6)).2.1 4 8)) r_1 7 x1) 1 3 0).1 1 4) + 1)))
set_option maxRecDepth 100000 in
set_option maxHeartbeats 4000000 in
theorem kX2_addBegun (l : Launch) (D : va_G) (y : Nat → ClassId) (aS : Nat → Nat) (sz : Nat) (L : List Nat) (hL : ∀ k, k < 179 → k ∈ L) (ad : Nat → Nat) (N : Nat) (σ : gS) (x1 : Int64) (res : (Int32 × gS)) (h : fX2_addBegun N σ x1 = some res) : Met l yX2_addBegun (Cond.code yX2_addBegun cX2_addBegun 4 (some .int) :: wsL_law) ({ frames := 1, cells := 0, slots := 0, locals := 22 } : Room) (va_Pc [.ref (ad 1), .long x1] (gI D y aS (GW L y ad σ) sz)) (va_Qi (fun (r : Int32) (_ : Unit) => r = res.1) (fun _ => gO D (va_A (GW L y ad σ) sz) (GW L y ad res.2)) (va_A (GW L y ad σ) sz)) 0 0 (va_A (GW L y ad σ) sz) := by
  refine g_of (by decide) (Nat.le_of_ble_eq_true rfl) ?_
  intro p e s m below meth c ls A hx hb hr hml hown hg hlocks hin hsz hK hP hD hS hA hAe hl
  rw [← hAe]
  replace hown : s.vm.findClass RX2 = some m.cls := hown
  have hY : gY D y A s L ad σ s.heap [] := ⟨hP, hD, hS⟩
  clear hP hD hS
  replace hl : lv_has ls 4 [(0, .ref (ad 1)), (1, .long x1)] := hl
  unfold fX2_addBegun at h
  refine lv_aload_n hx hb dX2_addBegun_0 rfl (lv_at hl 0 rfl) ?_
  refine lv_aload_n hx hb dX2_addBegun_1 rfl (lv_at hl 0 rfl) ?_
  refine G_get (ci := 2) (j := 4) (C := RX2) (T := TX2) (N := 5) (v := .int (σ.1 1 4)) hx hb hg inlX2 hown hK hY (hL 1 (by decide)) gk_1 (by decide) rfl (by decide) tX2_4 (hg _ gw_237) rfl dX2_addBegun_2 ?_
  obtain ⟨r_1, e_2, h⟩ := g_bind h
  refine G_ar hY hA (va_runV (As := [.int (σ.1 1 4)]) (rest := []) ⟨hx, hb, hml, hown, hg⟩ (kX2_at l D y aS s.heap.size L hL ad N σ (σ.1 1 4) _ e_2) (cwV 1 hg ggV_RX2_48_X2_at rfl rfl rfl (by decide +kernel) ⟨Nat.le_of_ble_eq_true rfl, Nat.le_of_ble_eq_true rfl⟩) (G_pV (q := (RX2, TX2, 5)) hK hY (hL 1 (by decide)) gk_1 (by decide) rfl) rfl rfl hl.1 rfl (lv_room (Nat.le_of_ble_eq_true rfl)) dX2_addBegun_5 ⟨Nat.le_of_ble_eq_true rfl, Nat.le_of_ble_eq_true rfl⟩) ?_
  clear hY
  rintro H locs k_3 hY
  refine lv_astore_n (lv' := [(3, .ref (ad r_1)), (0, .ref (ad 1)), (1, .long x1)]) hx hb dX2_addBegun_8 rfl hl (by decide) rfl ?_
  clear hl
  intro ls hl
  refine lv_aload_n hx hb dX2_addBegun_9 rfl (lv_at hl 0 rfl) ?_
  refine lv_aload_n hx hb dX2_addBegun_10 rfl (lv_at hl 1 rfl) ?_
  refine G_get (ci := 2) (j := 2) (C := RX2) (T := TX2) (N := 5) (v := .ref (ad 4)) hx hb hg inlX2 hown hK hY (hL 1 (by decide)) gk_1 (by decide) rfl (by decide) tX2_2 (hg _ gw_65) rfl dX2_addBegun_11 ?_
  refine G_get (ci := 1) (j := 1) (C := RX1) (T := TX1) (N := 14) (v := .int (σ.1 4 1)) hx hb hg inlX1 hown hK hY (hL 4 (by decide)) gk_4 (by decide) rfl (by decide) tX1_1 (hg _ gw_322) rfl dX2_addBegun_14 ?_
  refine G_putI (ci := 1) (j := 1) (C := RX1) (T := TX1) (N := 14) (v := (σ.1 4 1)) (ty := .int) hx hb hg inlX1 tyX1 tyX1_ok nmX1 hown hK hY (hL _ (gcl_lt k_3 (by decide))) k_3 (by decide) rfl (by decide) tX1_1 (hg _ gw_322) (by decide +kernel) rfl rfl (fun _ _ => rfl) (fun _ _ => Nat.le_of_ble_eq_true rfl) dX2_addBegun_17 ?_
  clear hY
  intro H locs hY
  refine lv_aload_n hx hb dX2_addBegun_20 rfl (lv_at hl 0 rfl) ?_
  refine lv_aload_n hx hb dX2_addBegun_21 rfl (lv_at hl 1 rfl) ?_
  refine G_get (ci := 2) (j := 2) (C := RX2) (T := TX2) (N := 5) (v := .ref (ad 4)) hx hb hg inlX2 hown hK hY (hL 1 (by decide)) gk_1 (by decide) rfl (by decide) tX2_2 (hg _ gw_65) rfl dX2_addBegun_22 ?_
  refine G_get (ci := 1) (j := 2) (C := RX1) (T := TX1) (N := 14) (v := .int ((sI σ r_1 1 (σ.1 4 1)).1 4 2)) hx hb hg inlX1 hown hK hY (hL 4 (by decide)) gk_4 (by decide) rfl (by decide) tX1_2 (hg _ gw_323) rfl dX2_addBegun_25 ?_
  refine G_putI (ci := 1) (j := 2) (C := RX1) (T := TX1) (N := 14) (v := ((sI σ r_1 1 (σ.1 4 1)).1 4 2)) (ty := .int) hx hb hg inlX1 tyX1 tyX1_ok nmX1 hown hK hY (hL _ (gcl_lt k_3 (by decide))) k_3 (by decide) rfl (by decide) tX1_2 (hg _ gw_323) (by decide +kernel) rfl rfl (fun _ _ => rfl) (fun _ _ => Nat.le_of_ble_eq_true rfl) dX2_addBegun_28 ?_
  clear hY
  intro H locs hY
  refine lv_aload_n hx hb dX2_addBegun_31 rfl (lv_at hl 0 rfl) ?_
  refine lv_aload_n hx hb dX2_addBegun_32 rfl (lv_at hl 1 rfl) ?_
  refine G_get (ci := 2) (j := 2) (C := RX2) (T := TX2) (N := 5) (v := .ref (ad 4)) hx hb hg inlX2 hown hK hY (hL 1 (by decide)) gk_1 (by decide) rfl (by decide) tX2_2 (hg _ gw_65) rfl dX2_addBegun_33 ?_
  refine G_get (ci := 1) (j := 5) (C := RX1) (T := TX1) (N := 14) (v := .int ((sI (sI σ r_1 1 (σ.1 4 1)) r_1 2 ((sI σ r_1 1 (σ.1 4 1)).1 4 2)).1 4 5)) hx hb hg inlX1 hown hK hY (hL 4 (by decide)) gk_4 (by decide) rfl (by decide) tX1_5 (hg _ gw_324) rfl dX2_addBegun_36 ?_
  refine G_putI (ci := 1) (j := 5) (C := RX1) (T := TX1) (N := 14) (v := ((sI (sI σ r_1 1 (σ.1 4 1)) r_1 2 ((sI σ r_1 1 (σ.1 4 1)).1 4 2)).1 4 5)) (ty := .int) hx hb hg inlX1 tyX1 tyX1_ok nmX1 hown hK hY (hL _ (gcl_lt k_3 (by decide))) k_3 (by decide) rfl (by decide) tX1_5 (hg _ gw_324) (by decide +kernel) rfl rfl (fun _ _ => rfl) (fun _ _ => Nat.le_of_ble_eq_true rfl) dX2_addBegun_39 ?_
  clear hY
  intro H locs hY
  refine lv_aload_n hx hb dX2_addBegun_42 rfl (lv_at hl 0 rfl) ?_
  refine lv_aload_n hx hb dX2_addBegun_43 rfl (lv_at hl 1 rfl) ?_
  refine G_get (ci := 2) (j := 2) (C := RX2) (T := TX2) (N := 5) (v := .ref (ad 4)) hx hb hg inlX2 hown hK hY (hL 1 (by decide)) gk_1 (by decide) rfl (by decide) tX2_2 (hg _ gw_65) rfl dX2_addBegun_44 ?_
  refine G_get (ci := 1) (j := 6) (C := RX1) (T := TX1) (N := 14) (v := .long ((sI (sI (sI σ r_1 1 (σ.1 4 1)) r_1 2 ((sI σ r_1 1 (σ.1 4 1)).1 4 2)) r_1 5 ((sI (sI σ r_1 1 (σ.1 4 1)) r_1 2 ((sI σ r_1 1 (σ.1 4 1)).1 4 2)).1 4 5)).2.1 4 6)) hx hb hg inlX1 hown hK hY (hL 4 (by decide)) gk_4 (by decide) rfl (by decide) tX1_6 (hg _ gw_325) rfl dX2_addBegun_47 ?_
  refine G_putJ (ci := 1) (j := 6) (C := RX1) (T := TX1) (N := 14) (v := ((sI (sI (sI σ r_1 1 (σ.1 4 1)) r_1 2 ((sI σ r_1 1 (σ.1 4 1)).1 4 2)) r_1 5 ((sI (sI σ r_1 1 (σ.1 4 1)) r_1 2 ((sI σ r_1 1 (σ.1 4 1)).1 4 2)).1 4 5)).2.1 4 6)) (ty := .long) hx hb hg inlX1 tyX1 tyX1_ok nmX1 hown hK hY (hL _ (gcl_lt k_3 (by decide))) k_3 (by decide) rfl (by decide) tX1_6 (hg _ gw_325) (by decide +kernel) rfl rfl (fun _ _ => rfl) (fun _ _ => Nat.le_of_ble_eq_true rfl) dX2_addBegun_50 ?_
  clear hY
  intro H locs hY
  refine lv_aload_n hx hb dX2_addBegun_53 rfl (lv_at hl 0 rfl) ?_
  refine lv_aload_n hx hb dX2_addBegun_54 rfl (lv_at hl 1 rfl) ?_
  refine G_get (ci := 2) (j := 2) (C := RX2) (T := TX2) (N := 5) (v := .ref (ad 4)) hx hb hg inlX2 hown hK hY (hL 1 (by decide)) gk_1 (by decide) rfl (by decide) tX2_2 (hg _ gw_65) rfl dX2_addBegun_55 ?_
  refine G_get (ci := 1) (j := 8) (C := RX1) (T := TX1) (N := 14) (v := .long ((sJ (sI (sI (sI σ r_1 1 (σ.1 4 1)) r_1 2 ((sI σ r_1 1 (σ.1 4 1)).1 4 2)) r_1 5 ((sI (sI σ r_1 1 (σ.1 4 1)) r_1 2 ((sI σ r_1 1 (σ.1 4 1)).1 4 2)).1 4 5)) r_1 6 ((sI (sI (sI σ r_1 1 (σ.1 4 1)) r_1 2 ((sI σ r_1 1 (σ.1 4 1)).1 4 2)) r_1 5 ((sI (sI σ r_1 1 (σ.1 4 1)) r_1 2 ((sI σ r_1 1 (σ.1 4 1)).1 4 2)).1 4 5)).2.1 4 6)).2.1 4 8)) hx hb hg inlX1 hown hK hY (hL 4 (by decide)) gk_4 (by decide) rfl (by decide) tX1_8 (hg _ gw_326) rfl dX2_addBegun_58 ?_
  refine G_putJ (ci := 1) (j := 8) (C := RX1) (T := TX1) (N := 14) (v := ((sJ (sI (sI (sI σ r_1 1 (σ.1 4 1)) r_1 2 ((sI σ r_1 1 (σ.1 4 1)).1 4 2)) r_1 5 ((sI (sI σ r_1 1 (σ.1 4 1)) r_1 2 ((sI σ r_1 1 (σ.1 4 1)).1 4 2)).1 4 5)) r_1 6 ((sI (sI (sI σ r_1 1 (σ.1 4 1)) r_1 2 ((sI σ r_1 1 (σ.1 4 1)).1 4 2)) r_1 5 ((sI (sI σ r_1 1 (σ.1 4 1)) r_1 2 ((sI σ r_1 1 (σ.1 4 1)).1 4 2)).1 4 5)).2.1 4 6)).2.1 4 8)) (ty := .long) hx hb hg inlX1 tyX1 tyX1_ok nmX1 hown hK hY (hL _ (gcl_lt k_3 (by decide))) k_3 (by decide) rfl (by decide) tX1_8 (hg _ gw_326) (by decide +kernel) rfl rfl (fun _ _ => rfl) (fun _ _ => Nat.le_of_ble_eq_true rfl) dX2_addBegun_61 ?_
  clear hY
  intro H locs hY
  refine lv_aload_n hx hb dX2_addBegun_64 rfl (lv_at hl 0 rfl) ?_
  refine lv_lload_n hx hb dX2_addBegun_65 rfl (lv_at hl 2 rfl) ?_
  refine G_putJ (ci := 1) (j := 7) (C := RX1) (T := TX1) (N := 14) (v := x1) (ty := .long) hx hb hg inlX1 tyX1 tyX1_ok nmX1 hown hK hY (hL _ (gcl_lt k_3 (by decide))) k_3 (by decide) rfl (by decide) tX1_7 (hg _ gw_361) (by decide +kernel) rfl rfl (fun _ _ => rfl) (fun _ _ => Nat.le_of_ble_eq_true rfl) dX2_addBegun_66 ?_
  clear hY
  intro H locs hY
  refine lv_aload_n hx hb dX2_addBegun_69 rfl (lv_at hl 1 rfl) ?_
  refine lv_iconst (v := 0) hx hb dX2_addBegun_70 (by decide) ?_
  refine G_putI (ci := 2) (j := 3) (C := RX2) (T := TX2) (N := 5) (v := 0) (ty := .boolean) hx hb hg inlX2 tyX2 tyX2_ok nmX2 hown hK hY (hL 1 (by decide)) gk_1 (by decide) rfl (by decide) tX2_3 (hg _ gw_327) (by decide +kernel) rfl rfl (fun _ _ => rfl) (fun _ _ => Nat.le_of_ble_eq_true rfl) dX2_addBegun_71 ?_
  clear hY
  intro H locs hY
  refine lv_aload_n hx hb dX2_addBegun_74 rfl (lv_at hl 1 rfl) ?_
  refine lv_dup hx hb dX2_addBegun_75 rfl ?_
  refine G_get (ci := 2) (j := 4) (C := RX2) (T := TX2) (N := 5) (v := .int ((sI (sJ (sJ (sJ (sI (sI (sI σ r_1 1 (σ.1 4 1)) r_1 2 ((sI σ r_1 1 (σ.1 4 1)).1 4 2)) r_1 5 ((sI (sI σ r_1 1 (σ.1 4 1)) r_1 2 ((sI σ r_1 1 (σ.1 4 1)).1 4 2)).1 4 5)) r_1 6 ((sI (sI (sI σ r_1 1 (σ.1 4 1)) r_1 2 ((sI σ r_1 1 (σ.1 4 1)).1 4 2)) r_1 5 ((sI (sI σ r_1 1 (σ.1 4 1)) r_1 2 ((sI σ r_1 1 (σ.1 4 1)).1 4 2)).1 4 5)).2.1 4 6)) r_1 8 ((sJ (sI (sI (sI σ r_1 1 (σ.1 4 1)) r_1 2 ((sI σ r_1 1 (σ.1 4 1)).1 4 2)) r_1 5 ((sI (sI σ r_1 1 (σ.1 4 1)) r_1 2 ((sI σ r_1 1 (σ.1 4 1)).1 4 2)).1 4 5)) r_1 6 ((sI (sI (sI σ r_1 1 (σ.1 4 1)) r_1 2 ((sI σ r_1 1 (σ.1 4 1)).1 4 2)) r_1 5 ((sI (sI σ r_1 1 (σ.1 4 1)) r_1 2 ((sI σ r_1 1 (σ.1 4 1)).1 4 2)).1 4 5)).2.1 4 6)).2.1 4 8)) r_1 7 x1) 1 3 0).1 1 4)) hx hb hg inlX2 hown hK hY (hL 1 (by decide)) gk_1 (by decide) rfl (by decide) tX2_4 (hg _ gw_237) rfl dX2_addBegun_76 ?_
  refine lv_dup_x1 hx hb dX2_addBegun_79 rfl rfl ?_
  refine lv_iconst (v := 1) hx hb dX2_addBegun_80 (by decide) ?_
  refine lv_iadd hx hb dX2_addBegun_81 ?_
  refine G_putI (ci := 2) (j := 4) (C := RX2) (T := TX2) (N := 5) (v := (((sI (sJ (sJ (sJ (sI (sI (sI σ r_1 1 (σ.1 4 1)) r_1 2 ((sI σ r_1 1 (σ.1 4 1)).1 4 2)) r_1 5 ((sI (sI σ r_1 1 (σ.1 4 1)) r_1 2 ((sI σ r_1 1 (σ.1 4 1)).1 4 2)).1 4 5)) r_1 6 ((sI (sI (sI σ r_1 1 (σ.1 4 1)) r_1 2 ((sI σ r_1 1 (σ.1 4 1)).1 4 2)) r_1 5 ((sI (sI σ r_1 1 (σ.1 4 1)) r_1 2 ((sI σ r_1 1 (σ.1 4 1)).1 4 2)).1 4 5)).2.1 4 6)) r_1 8 ((sJ (sI (sI (sI σ r_1 1 (σ.1 4 1)) r_1 2 ((sI σ r_1 1 (σ.1 4 1)).1 4 2)) r_1 5 ((sI (sI σ r_1 1 (σ.1 4 1)) r_1 2 ((sI σ r_1 1 (σ.1 4 1)).1 4 2)).1 4 5)) r_1 6 ((sI (sI (sI σ r_1 1 (σ.1 4 1)) r_1 2 ((sI σ r_1 1 (σ.1 4 1)).1 4 2)) r_1 5 ((sI (sI σ r_1 1 (σ.1 4 1)) r_1 2 ((sI σ r_1 1 (σ.1 4 1)).1 4 2)).1 4 5)).2.1 4 6)).2.1 4 8)) r_1 7 x1) 1 3 0).1 1 4) + 1)) (ty := .int) hx hb hg inlX2 tyX2 tyX2_ok nmX2 hown hK hY (hL 1 (by decide)) gk_1 (by decide) rfl (by decide) tX2_4 (hg _ gw_237) (by decide +kernel) rfl rfl (fun _ _ => rfl) (fun _ _ => Nat.le_of_ble_eq_true rfl) dX2_addBegun_82 ?_
  clear hY
  intro H locs hY
  cases h
  exact g_iret hx hb hr hlocks () hY.1 hY.2.1 hY.2.2 rfl rfl (Nat.le_of_ble_eq_true rfl) (Nat.le_of_ble_eq_true rfl) dX2_addBegun_85
theorem ggI_RX2_69_X11_maskOf : GoodIn wsL_law ([] ++ (Cond.code yX11_maskOf cX11_maskOf 4 (some .long) :: wsL_law)) := g_gi (fun _ h => h) gW_good (fun _ h => nomatch h) ⟨gw_439, rfl⟩
section
variable {p : Program} {l : Launch} {e : Env} {s : State} {m : MethodId} {args : Array Value} {below : List Frame} {meth : Method} {c : Code} {D : va_G} {y : Nat → ClassId} {aS : Nat → Nat} {A : Nat → Prop} {L : List Nat} {ad : Nat → Nat} {N : Nat} {res : (Nat × gS)}
end
def fX2_addRevert (N : Nat) (σ : gS) (x1 : Int32) (x2 : Int64) (x4 : Int32) (x5 : Int64) : Option (Nat × gS) := (fX2_at N σ (σ.1 1 4)).bind fun r_1 => (fX11_maskOf N (sI (sJ (sI (sI σ r_1 1 x1) r_1 12 1) r_1 7 x2) r_1 5 x4) x4).bind fun r_4 => some (r_1, (sI (sJ (sJ (sI (sJ (sI (sI σ r_1 1 x1) r_1 12 1) r_1 7 x2) r_1 5 x4) r_1 6 r_4) r_1 8 (x5 &&& ((sJ (sI (sJ (sI (sI σ r_1 1 x1) r_1 12 1) r_1 7 x2) r_1 5 x4) r_1 6 r_4).2.1 r_1 6))) 1 4 (((sJ (sJ (sI (sJ (sI (sI σ r_1 1 x1) r_1 12 1) r_1 7 x2) r_1 5 x4) r_1 6 r_4) r_1 8 (x5 &&& ((sJ (sI (sJ (sI (sI σ r_1 1 x1) r_1 12 1) r_1 7 x2) r_1 5 x4) r_1 6 r_4).2.1 r_1 6))).1 1 4) + 1)))
set_option maxRecDepth 100000 in
set_option maxHeartbeats 4000000 in
theorem kX2_addRevert (l : Launch) (D : va_G) (y : Nat → ClassId) (aS : Nat → Nat) (sz : Nat) (L : List Nat) (hL : ∀ k, k < 179 → k ∈ L) (ad : Nat → Nat) (N : Nat) (σ : gS) (x1 : Int32) (x2 : Int64) (x4 : Int32) (x5 : Int64) (res : (Nat × gS)) (h : fX2_addRevert N σ x1 x2 x4 x5 = some res) : Met l yX2_addRevert (Cond.code yX2_addRevert cX2_addRevert 8 (some (.object "Greentrunk$Change")) :: wsL_law) ({ frames := 2, cells := 0, slots := 0, locals := 44 } : Room) (va_Pc [.ref (ad 1), .int x1, .long x2, .int x4, .long x5] (gI D y aS (GW L y ad σ) sz)) (va_Qr (fun (_ : Unit) => gcl res.1 = 1) (fun u b t => b = (fun _ : Unit => ad res.1) u ∧ gO D (va_A (GW L y ad σ) sz) (GW L y ad res.2) t) (va_A (GW L y ad σ) sz)) 0 0 (va_A (GW L y ad σ) sz) := by
  refine g_of (by decide) (Nat.le_of_ble_eq_true rfl) ?_
  intro p e s m below meth c ls A hx hb hr hml hown hg hlocks hin hsz hK hP hD hS hA hAe hl
  rw [← hAe]
  replace hown : s.vm.findClass RX2 = some m.cls := hown
  have hY : gY D y A s L ad σ s.heap [] := ⟨hP, hD, hS⟩
  clear hP hD hS
  replace hl : lv_has ls 8 [(0, .ref (ad 1)), (1, .int x1), (2, .long x2), (4, .int x4), (5, .long x5)] := hl
  unfold fX2_addRevert at h
  refine lv_aload_n hx hb dX2_addRevert_0 rfl (lv_at hl 0 rfl) ?_
  refine lv_aload_n hx hb dX2_addRevert_1 rfl (lv_at hl 0 rfl) ?_
  refine G_get (ci := 2) (j := 4) (C := RX2) (T := TX2) (N := 5) (v := .int (σ.1 1 4)) hx hb hg inlX2 hown hK hY (hL 1 (by decide)) gk_1 (by decide) rfl (by decide) tX2_4 (hg _ gw_237) rfl dX2_addRevert_2 ?_
  obtain ⟨r_1, e_2, h⟩ := g_bind h
  refine G_ar hY hA (va_runV (As := [.int (σ.1 1 4)]) (rest := []) ⟨hx, hb, hml, hown, hg⟩ (kX2_at l D y aS s.heap.size L hL ad N σ (σ.1 1 4) _ e_2) (cwV 1 hg ggV_RX2_48_X2_at rfl rfl rfl (by decide +kernel) ⟨Nat.le_of_ble_eq_true rfl, Nat.le_of_ble_eq_true rfl⟩) (G_pV (q := (RX2, TX2, 5)) hK hY (hL 1 (by decide)) gk_1 (by decide) rfl) rfl rfl hl.1 rfl (lv_room (Nat.le_of_ble_eq_true rfl)) dX2_addRevert_5 ⟨Nat.le_of_ble_eq_true rfl, Nat.le_of_ble_eq_true rfl⟩) ?_
  clear hY
  rintro H locs k_3 hY
  refine lv_astore (lv' := [(7, .ref (ad r_1)), (0, .ref (ad 1)), (1, .int x1), (2, .long x2), (4, .int x4), (5, .long x5)]) hx hb dX2_addRevert_8 hl (by decide) rfl ?_
  clear hl
  intro ls hl
  refine lv_aload hx hb dX2_addRevert_10 (lv_at hl 0 rfl) ?_
  refine lv_iload_n hx hb dX2_addRevert_12 rfl (lv_at hl 2 rfl) ?_
  refine G_putI (ci := 1) (j := 1) (C := RX1) (T := TX1) (N := 14) (v := x1) (ty := .int) hx hb hg inlX1 tyX1 tyX1_ok nmX1 hown hK hY (hL _ (gcl_lt k_3 (by decide))) k_3 (by decide) rfl (by decide) tX1_1 (hg _ gw_322) (by decide +kernel) rfl rfl (fun _ _ => rfl) (fun _ _ => Nat.le_of_ble_eq_true rfl) dX2_addRevert_13 ?_
  clear hY
  intro H locs hY
  refine lv_aload hx hb dX2_addRevert_16 (lv_at hl 0 rfl) ?_
  refine lv_iconst (v := 1) hx hb dX2_addRevert_18 (by decide) ?_
  refine G_putI (ci := 1) (j := 12) (C := RX1) (T := TX1) (N := 14) (v := 1) (ty := .boolean) hx hb hg inlX1 tyX1 tyX1_ok nmX1 hown hK hY (hL _ (gcl_lt k_3 (by decide))) k_3 (by decide) rfl (by decide) tX1_12 (hg _ gw_437) (by decide +kernel) rfl rfl (fun _ _ => rfl) (fun _ _ => Nat.le_of_ble_eq_true rfl) dX2_addRevert_19 ?_
  clear hY
  intro H locs hY
  refine lv_aload hx hb dX2_addRevert_22 (lv_at hl 0 rfl) ?_
  refine lv_lload_n hx hb dX2_addRevert_24 rfl (lv_at hl 3 rfl) ?_
  refine G_putJ (ci := 1) (j := 7) (C := RX1) (T := TX1) (N := 14) (v := x2) (ty := .long) hx hb hg inlX1 tyX1 tyX1_ok nmX1 hown hK hY (hL _ (gcl_lt k_3 (by decide))) k_3 (by decide) rfl (by decide) tX1_7 (hg _ gw_361) (by decide +kernel) rfl rfl (fun _ _ => rfl) (fun _ _ => Nat.le_of_ble_eq_true rfl) dX2_addRevert_25 ?_
  clear hY
  intro H locs hY
  refine lv_aload hx hb dX2_addRevert_28 (lv_at hl 0 rfl) ?_
  refine lv_iload hx hb dX2_addRevert_30 (lv_at hl 4 rfl) ?_
  refine G_putI (ci := 1) (j := 5) (C := RX1) (T := TX1) (N := 14) (v := x4) (ty := .int) hx hb hg inlX1 tyX1 tyX1_ok nmX1 hown hK hY (hL _ (gcl_lt k_3 (by decide))) k_3 (by decide) rfl (by decide) tX1_5 (hg _ gw_324) (by decide +kernel) rfl rfl (fun _ _ => rfl) (fun _ _ => Nat.le_of_ble_eq_true rfl) dX2_addRevert_32 ?_
  clear hY
  intro H locs hY
  refine lv_aload hx hb dX2_addRevert_35 (lv_at hl 0 rfl) ?_
  refine lv_iload hx hb dX2_addRevert_37 (lv_at hl 4 rfl) ?_
  obtain ⟨r_4, e_5, h⟩ := g_bind h
  refine G_al hY hA (va_runSN (As := [.int x4]) (rest := [.ref (ad r_1)]) ⟨hx, hb, hml, hown, hg⟩ (kX11_maskOf l D y aS H.size L hL ad N (sI (sJ (sI (sI σ r_1 1 x1) r_1 12 1) r_1 7 x2) r_1 5 x4) x4 _ e_5) ⟨va_cnB 1 hg ggI_RX2_69_X11_maskOf rfl rfl rfl (hK.2.1 _ (List.mem_of_getElem? (i := 17) rfl)) (hg _ gw_2) (by decide +kernel) ⟨Nat.le_of_ble_eq_true rfl, Nat.le_of_ble_eq_true rfl⟩, (hg _ gw_438), trivial⟩ (G_pS hK hY) rfl rfl hl.1 rfl (lv_room (Nat.le_of_ble_eq_true rfl)) dX2_addRevert_39 ⟨Nat.le_of_ble_eq_true rfl, Nat.le_of_ble_eq_true rfl⟩) ?_
  clear hY
  rintro _ H locs rfl hY
  refine G_putJ (ci := 1) (j := 6) (C := RX1) (T := TX1) (N := 14) (v := r_4) (ty := .long) hx hb hg inlX1 tyX1 tyX1_ok nmX1 hown hK hY (hL _ (gcl_lt k_3 (by decide))) k_3 (by decide) rfl (by decide) tX1_6 (hg _ gw_325) (by decide +kernel) rfl rfl (fun _ _ => rfl) (fun _ _ => Nat.le_of_ble_eq_true rfl) dX2_addRevert_42 ?_
  clear hY
  intro H locs hY
  refine lv_aload hx hb dX2_addRevert_45 (lv_at hl 0 rfl) ?_
  refine lv_lload hx hb dX2_addRevert_47 (lv_at hl 5 rfl) ?_
  refine lv_aload hx hb dX2_addRevert_49 (lv_at hl 0 rfl) ?_
  refine G_get (ci := 1) (j := 6) (C := RX1) (T := TX1) (N := 14) (v := .long ((sJ (sI (sJ (sI (sI σ r_1 1 x1) r_1 12 1) r_1 7 x2) r_1 5 x4) r_1 6 r_4).2.1 r_1 6)) hx hb hg inlX1 hown hK hY (hL _ (gcl_lt k_3 (by decide))) k_3 (by decide) rfl (by decide) tX1_6 (hg _ gw_325) rfl dX2_addRevert_51 ?_
  refine lv_land hx hb dX2_addRevert_54 ?_
  refine G_putJ (ci := 1) (j := 8) (C := RX1) (T := TX1) (N := 14) (v := (x5 &&& ((sJ (sI (sJ (sI (sI σ r_1 1 x1) r_1 12 1) r_1 7 x2) r_1 5 x4) r_1 6 r_4).2.1 r_1 6))) (ty := .long) hx hb hg inlX1 tyX1 tyX1_ok nmX1 hown hK hY (hL _ (gcl_lt k_3 (by decide))) k_3 (by decide) rfl (by decide) tX1_8 (hg _ gw_326) (by decide +kernel) rfl rfl (fun _ _ => rfl) (fun _ _ => Nat.le_of_ble_eq_true rfl) dX2_addRevert_55 ?_
  clear hY
  intro H locs hY
  refine lv_aload_n hx hb dX2_addRevert_58 rfl (lv_at hl 1 rfl) ?_
  refine lv_dup hx hb dX2_addRevert_59 rfl ?_
  refine G_get (ci := 2) (j := 4) (C := RX2) (T := TX2) (N := 5) (v := .int ((sJ (sJ (sI (sJ (sI (sI σ r_1 1 x1) r_1 12 1) r_1 7 x2) r_1 5 x4) r_1 6 r_4) r_1 8 (x5 &&& ((sJ (sI (sJ (sI (sI σ r_1 1 x1) r_1 12 1) r_1 7 x2) r_1 5 x4) r_1 6 r_4).2.1 r_1 6))).1 1 4)) hx hb hg inlX2 hown hK hY (hL 1 (by decide)) gk_1 (by decide) rfl (by decide) tX2_4 (hg _ gw_237) rfl dX2_addRevert_60 ?_
  refine lv_iconst (v := 1) hx hb dX2_addRevert_63 (by decide) ?_
  refine lv_iadd hx hb dX2_addRevert_64 ?_
  refine G_putI (ci := 2) (j := 4) (C := RX2) (T := TX2) (N := 5) (v := (((sJ (sJ (sI (sJ (sI (sI σ r_1 1 x1) r_1 12 1) r_1 7 x2) r_1 5 x4) r_1 6 r_4) r_1 8 (x5 &&& ((sJ (sI (sJ (sI (sI σ r_1 1 x1) r_1 12 1) r_1 7 x2) r_1 5 x4) r_1 6 r_4).2.1 r_1 6))).1 1 4) + 1)) (ty := .int) hx hb hg inlX2 tyX2 tyX2_ok nmX2 hown hK hY (hL 1 (by decide)) gk_1 (by decide) rfl (by decide) tX2_4 (hg _ gw_237) (by decide +kernel) rfl rfl (fun _ _ => rfl) (fun _ _ => Nat.le_of_ble_eq_true rfl) dX2_addRevert_65 ?_
  clear hY
  intro H locs hY
  refine lv_aload hx hb dX2_addRevert_68 (lv_at hl 0 rfl) ?_
  cases h
  exact g_aret hx hb hr hlocks () hY.1 hY.2.1 hY.2.2 rfl k_3 (Nat.le_of_ble_eq_true rfl) (Nat.le_of_ble_eq_true rfl) dX2_addRevert_70
section
variable {p : Program} {l : Launch} {e : Env} {s : State} {m : MethodId} {args : Array Value} {below : List Frame} {meth : Method} {c : Code} {D : va_G} {y : Nat → ClassId} {aS : Nat → Nat} {A : Nat → Prop} {L : List Nat} {ad : Nat → Nat} {N : Nat} {res : Int64}
def fX2_onesThatAre_34 (N : Nat) (rec5 : (Int64 × Int32) → Option Int64) (σ : gS) (x1 : Int32) (x2 : Int64) (x4 : Int32) : Option Int64 := rec5 (x2, (x4 + 1))
set_option maxRecDepth 100000 in
set_option maxHeartbeats 4000000 in
theorem wX2_onesThatAre_34 {rec5 : (Int64 × Int32) → Option Int64} {σ : gS} {x1 : Int32} {x2 : Int64} {x4 : Int32} (hx : p.tables.exec = Jvm.exec) (hb : c.code = cX2_onesThatAre) (hr : meth.sig.returnType = (some .long)) (hml : c.maxLocals = 5) (hown : s.vm.findClass RX2 = some m.cls) (hg : ∀ w ∈ wsL_law, w.before args s = true) (hlocks : meth.locks = false) (hK : gK D y aS s) (hA : ∀ q, s.heap.size ≤ q → A q) (hL : ∀ k, k < 179 → k ∈ L) (hrec5 : ∀ {x2n9 : Int64} {x4n9 : Int32} (H : Heap) (locs : List Loc) (ls : Array Slot), gY D y A s L ad σ H locs → lv_has ls 5 [(0, .ref (ad 1)), (1, .int x1), (2, .long x2n9), (4, .int x4n9)] → rec5 (x2n9, x4n9) = some res → W p l e ({ frames := 1, cells := 0, slots := 0, locals := 22 } : Room) s m args below meth c H locs 0 0 (MQ below (va_Ql (fun (r : Int64) (_ : Unit) => r = res) (fun _ => gO D A (GW L y ad σ)) A) args s 0 0 A) (F0 m 5 ls [])) {H : Heap} {locs : List Loc} {ls : Array Slot} (hY : gY D y A s L ad σ H locs) (hl : lv_has ls 5 [(0, .ref (ad 1)), (1, .int x1), (2, .long x2), (4, .int x4)]) (h : fX2_onesThatAre_34 N rec5 σ x1 x2 x4 = some res) : W p l e ({ frames := 1, cells := 0, slots := 0, locals := 22 } : Room) s m args below meth c H locs 0 0 (MQ below (va_Ql (fun (r : Int64) (_ : Unit) => r = res) (fun _ => gO D A (GW L y ad σ)) A) args s 0 0 A) (F0 m 34 ls []) := by
  unfold fX2_onesThatAre_34 at h
  refine lv_iinc (v := (x4 + 1)) (lv' := [(4, .int (x4 + 1)), (0, .ref (ad 1)), (1, .int x1), (2, .long x2)]) hx hb dX2_onesThatAre_34 hl (k := 3) rfl rfl (by decide) rfl ?_
  clear hl
  intro ls hl
  refine lv_goto (tgt := 5) hx hb dX2_onesThatAre_37 (by decide) ?_
  exact hrec5 _ _ _ hY (lv_sub hl [1, 2, 3, 0] rfl) h
def fX2_onesThatAre_5 (N : Nat) (σ : gS) (x1 : Int32) (rec5 : (Int64 × Int32) → Option Int64) (xx : Int64 × Int32) : Option Int64 := match xx with
  | (x2, x4) => if (σ.1 1 4) ≤ x4 then (some x2) else ((fX2_at N σ x4).bind fun r_2 => if (σ.1 r_2 3) = x1 then (fX2_onesThatAre_34 N rec5 σ x1 (x2 ||| (((1 : Int64) <<< (x4.toInt64 &&& 63)))) x4) else (fX2_onesThatAre_34 N rec5 σ x1 x2 x4))
set_option maxRecDepth 100000 in
set_option maxHeartbeats 4000000 in
theorem wX2_onesThatAre_5 {σ : gS} {x1 : Int32} (hx : p.tables.exec = Jvm.exec) (hb : c.code = cX2_onesThatAre) (hr : meth.sig.returnType = (some .long)) (hml : c.maxLocals = 5) (hown : s.vm.findClass RX2 = some m.cls) (hg : ∀ w ∈ wsL_law, w.before args s = true) (hlocks : meth.locks = false) (hK : gK D y aS s) (hA : ∀ q, s.heap.size ≤ q → A q) (hL : ∀ k, k < 179 → k ∈ L) : ∀ (n : Nat) {x2 : Int64} {x4 : Int32} (H : Heap) (locs : List Loc) (ls : Array Slot), gY D y A s L ad σ H locs → lv_has ls 5 [(0, .ref (ad 1)), (1, .int x1), (2, .long x2), (4, .int x4)] → lp (fX2_onesThatAre_5 N σ x1) n (x2, x4) = some res → W p l e ({ frames := 1, cells := 0, slots := 0, locals := 22 } : Room) s m args below meth c H locs 0 0 (MQ below (va_Ql (fun (r : Int64) (_ : Unit) => r = res) (fun _ => gO D A (GW L y ad σ)) A) args s 0 0 A) (F0 m 5 ls []) := by
  intro n
  induction n with
  | zero => intro x2 x4 H locs ls hY hl h; exact nomatch (show none = some res from h)
  | succ n hrec5 =>
    intro x2 x4 H locs ls hY hl h
    replace h : fX2_onesThatAre_5 N σ x1 (lp (fX2_onesThatAre_5 N σ x1) n) (x2, x4) = some res := h
    generalize lp (fX2_onesThatAre_5 N σ x1) n = rec5 at h hrec5
    unfold fX2_onesThatAre_5 at h
    try dsimp only at h
    refine lv_iload hx hb dX2_onesThatAre_5 (lv_at hl 3 rfl) ?_
    refine lv_aload_n hx hb dX2_onesThatAre_7 rfl (lv_at hl 0 rfl) ?_
    refine G_get (ci := 2) (j := 4) (C := RX2) (T := TX2) (N := 5) (v := .int (σ.1 1 4)) hx hb hg inlX2 hown hK hY (hL 1 (by decide)) gk_1 (by decide) rfl (by decide) tX2_4 (hg _ gw_237) rfl dX2_onesThatAre_8 ?_
    refine lv_icmp_ge (tgt := 40) hx hb dX2_onesThatAre_11 (by decide) (fun z_1 => ?_) (fun z_1 => ?_)
    ·
      rw [if_pos z_1] at h
      refine lv_lload_n hx hb dX2_onesThatAre_40 rfl (lv_at hl 2 rfl) ?_
      cases h
      exact g_lret hx hb hr hlocks () hY.1 hY.2.1 hY.2.2 rfl (Nat.le_of_ble_eq_true rfl) (Nat.le_of_ble_eq_true rfl) dX2_onesThatAre_41
    ·
      rw [if_neg z_1] at h
      refine lv_aload_n hx hb dX2_onesThatAre_14 rfl (lv_at hl 0 rfl) ?_
      refine lv_iload hx hb dX2_onesThatAre_15 (lv_at hl 3 rfl) ?_
      obtain ⟨r_2, e_3, h⟩ := g_bind h
      refine G_ar hY hA (va_runV (As := [.int x4]) (rest := []) ⟨hx, hb, hml, hown, hg⟩ (kX2_at l D y aS H.size L hL ad N σ x4 _ e_3) (cwV 1 hg ggV_RX2_48_X2_at rfl rfl rfl (by decide +kernel) ⟨Nat.le_of_ble_eq_true rfl, Nat.le_of_ble_eq_true rfl⟩) (G_pV (q := (RX2, TX2, 5)) hK hY (hL 1 (by decide)) gk_1 (by decide) rfl) rfl rfl hl.1 rfl (lv_room (Nat.le_of_ble_eq_true rfl)) dX2_onesThatAre_17 ⟨Nat.le_of_ble_eq_true rfl, Nat.le_of_ble_eq_true rfl⟩) ?_
      clear hY
      rintro H locs k_4 hY
      refine G_get (ci := 1) (j := 3) (C := RX1) (T := TX1) (N := 14) (v := .int (σ.1 r_2 3)) hx hb hg inlX1 hown hK hY (hL _ (gcl_lt k_4 (by decide))) k_4 (by decide) rfl (by decide) tX1_3 (hg _ gw_238) rfl dX2_onesThatAre_20 ?_
      refine lv_iload_n hx hb dX2_onesThatAre_23 rfl (lv_at hl 1 rfl) ?_
      refine lv_icmp_ne (tgt := 34) hx hb dX2_onesThatAre_24 (by decide) (fun z_5 => ?_) (fun z_5 => ?_)
      ·
        rw [if_neg z_5] at h
        exact wX2_onesThatAre_34 hx hb hr hml hown hg hlocks hK hA hL hrec5 hY (lv_sub hl [0, 1, 2, 3] rfl) h
      ·
        rw [if_pos z_5] at h
        refine lv_lload_n hx hb dX2_onesThatAre_27 rfl (lv_at hl 2 rfl) ?_
        refine lv_lconst (v := 1) hx hb dX2_onesThatAre_28 (by decide) ?_
        refine lv_iload hx hb dX2_onesThatAre_29 (lv_at hl 3 rfl) ?_
        refine lv_lshl (v := (((1 : Int64) <<< (x4.toInt64 &&& 63)))) hx hb dX2_onesThatAre_31 rfl ?_
        refine lv_lor hx hb dX2_onesThatAre_32 ?_
        refine lv_lstore_n (lv' := [(2, .long (x2 ||| (((1 : Int64) <<< (x4.toInt64 &&& 63))))), (0, .ref (ad 1)), (1, .int x1), (4, .int x4)]) hx hb dX2_onesThatAre_33 rfl hl (by decide) rfl ?_
        clear hl
        intro ls hl
        exact wX2_onesThatAre_34 hx hb hr hml hown hg hlocks hK hA hL hrec5 hY (lv_sub hl [1, 2, 0, 3] rfl) h
end
def fX2_onesThatAre (N : Nat) (σ : gS) (x1 : Int32) : Option Int64 := lp (fX2_onesThatAre_5 N σ x1) N (0, 0)
set_option maxRecDepth 100000 in
set_option maxHeartbeats 4000000 in
theorem kX2_onesThatAre (l : Launch) (D : va_G) (y : Nat → ClassId) (aS : Nat → Nat) (sz : Nat) (L : List Nat) (hL : ∀ k, k < 179 → k ∈ L) (ad : Nat → Nat) (N : Nat) (σ : gS) (x1 : Int32) (res : Int64) (h : fX2_onesThatAre N σ x1 = some res) : Met l yX2_onesThatAre (Cond.code yX2_onesThatAre cX2_onesThatAre 5 (some .long) :: wsL_law) ({ frames := 1, cells := 0, slots := 0, locals := 22 } : Room) (va_Pc [.ref (ad 1), .int x1] (gI D y aS (GW L y ad σ) sz)) (va_Ql (fun (r : Int64) (_ : Unit) => r = res) (fun _ => gO D (va_A (GW L y ad σ) sz) (GW L y ad σ)) (va_A (GW L y ad σ) sz)) 0 0 (va_A (GW L y ad σ) sz) := by
  refine g_of (by decide) (Nat.le_of_ble_eq_true rfl) ?_
  intro p e s m below meth c ls A hx hb hr hml hown hg hlocks hin hsz hK hP hD hS hA hAe hl
  rw [← hAe]
  replace hown : s.vm.findClass RX2 = some m.cls := hown
  have hY : gY D y A s L ad σ s.heap [] := ⟨hP, hD, hS⟩
  clear hP hD hS
  replace hl : lv_has ls 5 [(0, .ref (ad 1)), (1, .int x1)] := hl
  unfold fX2_onesThatAre at h
  refine lv_lconst (v := 0) hx hb dX2_onesThatAre_0 (by decide) ?_
  refine lv_lstore_n (lv' := [(2, .long 0), (0, .ref (ad 1)), (1, .int x1)]) hx hb dX2_onesThatAre_1 rfl hl (by decide) rfl ?_
  clear hl
  intro ls hl
  refine lv_iconst (v := 0) hx hb dX2_onesThatAre_2 (by decide) ?_
  refine lv_istore (lv' := [(4, .int 0), (2, .long 0), (0, .ref (ad 1)), (1, .int x1)]) hx hb dX2_onesThatAre_3 hl (by decide) rfl ?_
  clear hl
  intro ls hl
  exact wX2_onesThatAre_5 hx hb hr hml hown hg hlocks hK hA hL N _ _ _ hY (lv_sub hl [2, 3, 1, 0] rfl) h
section
variable {p : Program} {l : Launch} {e : Env} {s : State} {m : MethodId} {args : Array Value} {below : List Frame} {meth : Method} {c : Code} {D : va_G} {y : Nat → ClassId} {aS : Nat → Nat} {A : Nat → Prop} {L : List Nat} {ad : Nat → Nat} {N : Nat} {res : gS}
end
def fX3_reopen (N : Nat) (σ : gS) (r0 : Nat) : Option gS := some (sI (sI σ r0 7 ((σ.1 r0 7) + 1)) r0 8 0)
set_option maxRecDepth 100000 in
set_option maxHeartbeats 4000000 in
theorem kX3_reopen (l : Launch) (D : va_G) (y : Nat → ClassId) (aS : Nat → Nat) (sz : Nat) (L : List Nat) (hL : ∀ k, k < 179 → k ∈ L) (ad : Nat → Nat) (N : Nat) (σ : gS) (r0 : Nat) (res : gS) (hr0 : gcl r0 = 3) (h : fX3_reopen N σ r0 = some res) : Met l yX3_reopen (Cond.code yX3_reopen cX3_reopen 1 none :: wsL_law) ({ frames := 0, cells := 0, slots := 0, locals := 0 } : Room) (va_Pc [.ref (ad r0)] (gI D y aS (GW L y ad σ) sz)) (va_Qv (fun (_ : Unit) => True) (fun _ => gO D (va_A (GW L y ad σ) sz) (GW L y ad res)) (va_A (GW L y ad σ) sz)) 0 0 (va_A (GW L y ad σ) sz) := by
  refine g_of (by decide) (Nat.le_of_ble_eq_true rfl) ?_
  intro p e s m below meth c ls A hx hb hr hml hown hg hlocks hin hsz hK hP hD hS hA hAe hl
  rw [← hAe]
  replace hown : s.vm.findClass RX3 = some m.cls := hown
  have hY : gY D y A s L ad σ s.heap [] := ⟨hP, hD, hS⟩
  clear hP hD hS
  replace hl : lv_has ls 1 [(0, .ref (ad r0))] := hl
  unfold fX3_reopen at h
  refine lv_aload_n hx hb dX3_reopen_0 rfl (lv_at hl 0 rfl) ?_
  refine lv_dup hx hb dX3_reopen_1 rfl ?_
  refine G_get (ci := 3) (j := 7) (C := RX3) (T := TX3) (N := 10) (v := .int (σ.1 r0 7)) hx hb hg inlX3 hown hK hY (hL _ (gcl_lt hr0 (by decide))) hr0 (by decide) rfl (by decide) tX3_7 (hg _ gw_651) rfl dX3_reopen_2 ?_
  refine lv_iconst (v := 1) hx hb dX3_reopen_5 (by decide) ?_
  refine lv_iadd hx hb dX3_reopen_6 ?_
  refine G_putI (ci := 3) (j := 7) (C := RX3) (T := TX3) (N := 10) (v := ((σ.1 r0 7) + 1)) (ty := .int) hx hb hg inlX3 tyX3 tyX3_ok nmX3 hown hK hY (hL _ (gcl_lt hr0 (by decide))) hr0 (by decide) rfl (by decide) tX3_7 (hg _ gw_651) (by decide +kernel) rfl rfl (fun _ _ => rfl) (fun _ _ => Nat.le_of_ble_eq_true rfl) dX3_reopen_7 ?_
  clear hY
  intro H locs hY
  refine lv_aload_n hx hb dX3_reopen_10 rfl (lv_at hl 0 rfl) ?_
  refine lv_iconst (v := 0) hx hb dX3_reopen_11 (by decide) ?_
  refine G_putI (ci := 3) (j := 8) (C := RX3) (T := TX3) (N := 10) (v := 0) (ty := .int) hx hb hg inlX3 tyX3 tyX3_ok nmX3 hown hK hY (hL _ (gcl_lt hr0 (by decide))) hr0 (by decide) rfl (by decide) tX3_8 (hg _ gw_652) (by decide +kernel) rfl rfl (fun _ _ => rfl) (fun _ _ => Nat.le_of_ble_eq_true rfl) dX3_reopen_12 ?_
  clear hY
  intro H locs hY
  cases h
  exact g_vret hx hb hr hlocks () hY.1 hY.2.1 hY.2.2 trivial (Nat.le_of_ble_eq_true rfl) (Nat.le_of_ble_eq_true rfl) dX3_reopen_15
section
variable {p : Program} {l : Launch} {e : Env} {s : State} {m : MethodId} {args : Array Value} {below : List Frame} {meth : Method} {c : Code} {D : va_G} {y : Nat → ClassId} {aS : Nat → Nat} {A : Nat → Prop} {L : List Nat} {ad : Nat → Nat} {N : Nat} {res : Int32}
def fX3_isInQuarantine_13 (N : Nat) (σ : gS) (xs0 : Int32) : Option Int32 := if ¬ (xs0 = 0 ∨ xs0 = 1) then none else (some xs0)
set_option maxRecDepth 100000 in
set_option maxHeartbeats 4000000 in
theorem wX3_isInQuarantine_13 {σ : gS} {xs0 : Int32} (hx : p.tables.exec = Jvm.exec) (hb : c.code = cX3_isInQuarantine) (hr : meth.sig.returnType = (some .boolean)) (hml : c.maxLocals = 1) (hown : s.vm.findClass RX3 = some m.cls) (hg : ∀ w ∈ wsL_law, w.before args s = true) (hlocks : meth.locks = false) (hK : gK D y aS s) (hA : ∀ q, s.heap.size ≤ q → A q) (hL : ∀ k, k < 179 → k ∈ L) {H : Heap} {locs : List Loc} {ls : Array Slot} (hY : gY D y A s L ad σ H locs) (hl : lv_has ls 1 []) (h : fX3_isInQuarantine_13 N σ xs0 = some res) : W p l e ({ frames := 0, cells := 0, slots := 0, locals := 0 } : Room) s m args below meth c H locs 0 0 (MQ below (va_Qi (fun (r : Int32) (_ : Unit) => r = res) (fun _ => gO D A (GW L y ad σ)) A) args s 0 0 A) (F0 m 13 ls [.int xs0]) := by
  unfold fX3_isInQuarantine_13 at h
  obtain ⟨z_1, h⟩ := g_guard h
  cases h
  exact g_iret hx hb hr hlocks () hY.1 hY.2.1 hY.2.2 (g_nz (Classical.not_not.mp z_1)) rfl (Nat.le_of_ble_eq_true rfl) (Nat.le_of_ble_eq_true rfl) dX3_isInQuarantine_13
end
def fX3_isInQuarantine (N : Nat) (σ : gS) (r0 : Nat) : Option Int32 := if (σ.1 r0 9) < 2 then (fX3_isInQuarantine_13 N σ 0) else (fX3_isInQuarantine_13 N σ 1)
set_option maxRecDepth 100000 in
set_option maxHeartbeats 4000000 in
theorem kX3_isInQuarantine (l : Launch) (D : va_G) (y : Nat → ClassId) (aS : Nat → Nat) (sz : Nat) (L : List Nat) (hL : ∀ k, k < 179 → k ∈ L) (ad : Nat → Nat) (N : Nat) (σ : gS) (r0 : Nat) (res : Int32) (hr0 : gcl r0 = 3) (h : fX3_isInQuarantine N σ r0 = some res) : Met l yX3_isInQuarantine (Cond.code yX3_isInQuarantine cX3_isInQuarantine 1 (some .boolean) :: wsL_law) ({ frames := 0, cells := 0, slots := 0, locals := 0 } : Room) (va_Pc [.ref (ad r0)] (gI D y aS (GW L y ad σ) sz)) (va_Qi (fun (r : Int32) (_ : Unit) => r = res) (fun _ => gO D (va_A (GW L y ad σ) sz) (GW L y ad σ)) (va_A (GW L y ad σ) sz)) 0 0 (va_A (GW L y ad σ) sz) := by
  refine g_of (by decide) (Nat.le_of_ble_eq_true rfl) ?_
  intro p e s m below meth c ls A hx hb hr hml hown hg hlocks hin hsz hK hP hD hS hA hAe hl
  rw [← hAe]
  replace hown : s.vm.findClass RX3 = some m.cls := hown
  have hY : gY D y A s L ad σ s.heap [] := ⟨hP, hD, hS⟩
  clear hP hD hS
  replace hl : lv_has ls 1 [(0, .ref (ad r0))] := hl
  unfold fX3_isInQuarantine at h
  refine lv_aload_n hx hb dX3_isInQuarantine_0 rfl (lv_at hl 0 rfl) ?_
  refine G_get (ci := 3) (j := 9) (C := RX3) (T := TX3) (N := 10) (v := .int (σ.1 r0 9)) hx hb hg inlX3 hown hK hY (hL _ (gcl_lt hr0 (by decide))) hr0 (by decide) rfl (by decide) tX3_9 (hg _ gw_533) rfl dX3_isInQuarantine_1 ?_
  refine lv_iconst (v := 2) hx hb dX3_isInQuarantine_4 (by decide) ?_
  refine lv_icmp_lt (tgt := 12) hx hb dX3_isInQuarantine_5 (by decide) (fun z_1 => ?_) (fun z_1 => ?_)
  ·
    rw [if_pos z_1] at h
    refine lv_iconst (v := 0) hx hb dX3_isInQuarantine_12 (by decide) ?_
    exact wX3_isInQuarantine_13 hx hb hr hml hown hg hlocks hK hA hL hY (lv_sub hl [] rfl) h
  ·
    rw [if_neg z_1] at h
    refine lv_iconst (v := 1) hx hb dX3_isInQuarantine_8 (by decide) ?_
    refine lv_goto (tgt := 13) hx hb dX3_isInQuarantine_9 (by decide) ?_
    exact wX3_isInQuarantine_13 hx hb hr hml hown hg hlocks hK hA hL hY (lv_sub hl [] rfl) h
theorem ggV_RX3_33_X3_isInQuarantine : GoodIn wsL_law (wsV RX3 33 RX3 yX3_isInQuarantine (Cond.code yX3_isInQuarantine cX3_isInQuarantine 1 (some .boolean) :: wsL_law)) := g_gi (fun _ h => h) gW_good (List.forall_mem_cons.mpr ⟨⟨gw_795, rfl⟩, List.forall_mem_cons.mpr ⟨⟨gw_530, rfl⟩, List.forall_mem_cons.mpr ⟨⟨gw_531, rfl⟩, List.forall_mem_cons.mpr ⟨⟨gw_81, rfl⟩, fun _ h => nomatch h⟩⟩⟩⟩) ⟨gw_532, rfl⟩
section
variable {p : Program} {l : Launch} {e : Env} {s : State} {m : MethodId} {args : Array Value} {below : List Frame} {meth : Method} {c : Code} {D : va_G} {y : Nat → ClassId} {aS : Nat → Nat} {A : Nat → Prop} {L : List Nat} {ad : Nat → Nat} {N : Nat} {res : Int32}
def fX3_allowed_12 (N : Nat) (σ : gS) (xs0 : Int32) : Option Int32 := some xs0
set_option maxRecDepth 100000 in
set_option maxHeartbeats 4000000 in
theorem wX3_allowed_12 {σ : gS} {xs0 : Int32} (hx : p.tables.exec = Jvm.exec) (hb : c.code = cX3_allowed) (hr : meth.sig.returnType = (some .int)) (hml : c.maxLocals = 1) (hown : s.vm.findClass RX3 = some m.cls) (hg : ∀ w ∈ wsL_law, w.before args s = true) (hlocks : meth.locks = false) (hK : gK D y aS s) (hA : ∀ q, s.heap.size ≤ q → A q) (hL : ∀ k, k < 179 → k ∈ L) {H : Heap} {locs : List Loc} {ls : Array Slot} (hY : gY D y A s L ad σ H locs) (hl : lv_has ls 1 []) (h : fX3_allowed_12 N σ xs0 = some res) : W p l e ({ frames := 1, cells := 0, slots := 0, locals := 20 } : Room) s m args below meth c H locs 0 0 (MQ below (va_Qi (fun (r : Int32) (_ : Unit) => r = res) (fun _ => gO D A (GW L y ad σ)) A) args s 0 0 A) (F0 m 12 ls [.int xs0]) := by
  unfold fX3_allowed_12 at h
  cases h
  exact g_iret hx hb hr hlocks () hY.1 hY.2.1 hY.2.2 rfl rfl (Nat.le_of_ble_eq_true rfl) (Nat.le_of_ble_eq_true rfl) dX3_allowed_12
end
def fX3_allowed (N : Nat) (σ : gS) (r0 : Nat) : Option Int32 := (fX3_isInQuarantine N σ r0).bind fun r_1 => if r_1 = 0 then (fX3_allowed_12 N σ 2) else (fX3_allowed_12 N σ 5)
set_option maxRecDepth 100000 in
set_option maxHeartbeats 4000000 in
theorem kX3_allowed (l : Launch) (D : va_G) (y : Nat → ClassId) (aS : Nat → Nat) (sz : Nat) (L : List Nat) (hL : ∀ k, k < 179 → k ∈ L) (ad : Nat → Nat) (N : Nat) (σ : gS) (r0 : Nat) (res : Int32) (hr0 : gcl r0 = 3) (h : fX3_allowed N σ r0 = some res) : Met l yX3_allowed (Cond.code yX3_allowed cX3_allowed 1 (some .int) :: wsL_law) ({ frames := 1, cells := 0, slots := 0, locals := 20 } : Room) (va_Pc [.ref (ad r0)] (gI D y aS (GW L y ad σ) sz)) (va_Qi (fun (r : Int32) (_ : Unit) => r = res) (fun _ => gO D (va_A (GW L y ad σ) sz) (GW L y ad σ)) (va_A (GW L y ad σ) sz)) 0 0 (va_A (GW L y ad σ) sz) := by
  refine g_of (by decide) (Nat.le_of_ble_eq_true rfl) ?_
  intro p e s m below meth c ls A hx hb hr hml hown hg hlocks hin hsz hK hP hD hS hA hAe hl
  rw [← hAe]
  replace hown : s.vm.findClass RX3 = some m.cls := hown
  have hY : gY D y A s L ad σ s.heap [] := ⟨hP, hD, hS⟩
  clear hP hD hS
  replace hl : lv_has ls 1 [(0, .ref (ad r0))] := hl
  unfold fX3_allowed at h
  refine lv_aload_n hx hb dX3_allowed_0 rfl (lv_at hl 0 rfl) ?_
  obtain ⟨r_1, e_2, h⟩ := g_bind h
  refine G_ai hY hA (va_runV (As := []) (rest := []) ⟨hx, hb, hml, hown, hg⟩ (kX3_isInQuarantine l D y aS s.heap.size L hL ad N σ r0 _ hr0 e_2) (cwV 0 hg ggV_RX3_33_X3_isInQuarantine rfl rfl rfl (by decide +kernel) ⟨Nat.le_of_ble_eq_true rfl, Nat.le_of_ble_eq_true rfl⟩) (G_pV (q := (RX3, TX3, 10)) hK hY (hL _ (gcl_lt hr0 (by decide))) hr0 (by decide) rfl) rfl rfl hl.1 rfl (lv_room (Nat.le_of_ble_eq_true rfl)) dX3_allowed_1 ⟨Nat.le_of_ble_eq_true rfl, Nat.le_of_ble_eq_true rfl⟩) ?_
  clear hY
  rintro _ H locs rfl hY
  refine lv_if_eq (tgt := 11) hx hb dX3_allowed_4 (by decide) (fun z_3 => ?_) (fun z_3 => ?_)
  ·
    rw [if_pos z_3] at h
    refine lv_iconst (v := 2) hx hb dX3_allowed_11 (by decide) ?_
    exact wX3_allowed_12 hx hb hr hml hown hg hlocks hK hA hL hY (lv_sub hl [] rfl) h
  ·
    rw [if_neg z_3] at h
    refine lv_iconst (v := 5) hx hb dX3_allowed_7 (by decide) ?_
    refine lv_goto (tgt := 12) hx hb dX3_allowed_8 (by decide) ?_
    exact wX3_allowed_12 hx hb hr hml hown hg hlocks hK hA hL hY (lv_sub hl [] rfl) h
theorem ggV_RX3_55_X8_whole : GoodIn wsL_law (wsV RX3 55 RX8 yX8_whole (Cond.code yX8_whole cX8_whole 2 (some .int) :: wsL_law)) := g_gi (fun _ h => h) gW_good (List.forall_mem_cons.mpr ⟨⟨gw_781, rfl⟩, List.forall_mem_cons.mpr ⟨⟨gw_214, rfl⟩, List.forall_mem_cons.mpr ⟨⟨gw_215, rfl⟩, List.forall_mem_cons.mpr ⟨⟨gw_48, rfl⟩, fun _ h => nomatch h⟩⟩⟩⟩) ⟨gw_216, rfl⟩
theorem ggI_RX3_59_X11_contentIn : GoodIn wsL_law ([] ++ (Cond.code yX11_contentIn cX11_contentIn 3 (some .int) :: wsL_law)) := g_gi (fun _ h => h) gW_good (fun _ h => nomatch h) ⟨gw_369, rfl⟩
section
variable {p : Program} {l : Launch} {e : Env} {s : State} {m : MethodId} {args : Array Value} {below : List Frame} {meth : Method} {c : Code} {D : va_G} {y : Nat → ClassId} {aS : Nat → Nat} {A : Nat → Prop} {L : List Nat} {ad : Nat → Nat} {N : Nat} {res : Int32}
def fX3_breaksARule_69 (N : Nat) (rec2 : Int32 → Option Int32) (σ : gS) (r0 : Nat) (x1 : Int64) (x3 : Int32) : Option Int32 := rec2 (x3 + 4)
set_option maxRecDepth 100000 in
set_option maxHeartbeats 4000000 in
theorem wX3_breaksARule_69 {rec2 : Int32 → Option Int32} {σ : gS} {r0 : Nat} {x1 : Int64} {x3 : Int32} (hx : p.tables.exec = Jvm.exec) (hb : c.code = cX3_breaksARule) (hr : meth.sig.returnType = (some .boolean)) (hml : c.maxLocals = 4) (hown : s.vm.findClass RX3 = some m.cls) (hg : ∀ w ∈ wsL_law, w.before args s = true) (hlocks : meth.locks = false) (hK : gK D y aS s) (hA : ∀ q, s.heap.size ≤ q → A q) (hL : ∀ k, k < 179 → k ∈ L) (hrec2 : ∀ {x3n9 : Int32} (H : Heap) (locs : List Loc) (ls : Array Slot), gY D y A s L ad σ H locs → lv_has ls 4 [(0, .ref (ad r0)), (1, .long x1), (3, .int x3n9)] → rec2 x3n9 = some res → W p l e ({ frames := 1, cells := 0, slots := 0, locals := 22 } : Room) s m args below meth c H locs 0 0 (MQ below (va_Qi (fun (r : Int32) (_ : Unit) => r = res) (fun _ => gO D A (GW L y ad σ)) A) args s 0 0 A) (F0 m 2 ls [])) (hr0 : gcl r0 = 3) {H : Heap} {locs : List Loc} {ls : Array Slot} (hY : gY D y A s L ad σ H locs) (hl : lv_has ls 4 [(0, .ref (ad r0)), (1, .long x1), (3, .int x3)]) (h : fX3_breaksARule_69 N rec2 σ r0 x1 x3 = some res) : W p l e ({ frames := 1, cells := 0, slots := 0, locals := 22 } : Room) s m args below meth c H locs 0 0 (MQ below (va_Qi (fun (r : Int32) (_ : Unit) => r = res) (fun _ => gO D A (GW L y ad σ)) A) args s 0 0 A) (F0 m 69 ls []) := by
  unfold fX3_breaksARule_69 at h
  refine lv_iinc (v := (x3 + 4)) (lv' := [(3, .int (x3 + 4)), (0, .ref (ad r0)), (1, .long x1)]) hx hb dX3_breaksARule_69 hl (k := 2) rfl rfl (by decide) rfl ?_
  clear hl
  intro ls hl
  refine lv_goto (tgt := 2) hx hb dX3_breaksARule_72 (by decide) ?_
  exact hrec2 _ _ _ hY (lv_sub hl [1, 2, 0] rfl) h
def fX3_breaksARule_2 (N : Nat) (σ : gS) (r0 : Nat) (x1 : Int64) (rec2 : Int32 → Option Int32) (x3 : Int32) : Option Int32 := if (σ.1 (r0 + 1) 1) < (x3 + 4) then (some 0) else ((fX8_whole N σ (r0 + 1) x3).bind fun r_2 => (fX11_contentIn N σ x1 r_2).bind fun r_4 => (fX8_whole N σ (r0 + 1) (x3 + 1)).bind fun r_6 => if r_4 = r_6 then ((fX8_whole N σ (r0 + 1) (x3 + 2)).bind fun r_9 => (fX11_contentIn N σ x1 r_9).bind fun r_11 => (fX8_whole N σ (r0 + 1) (x3 + 3)).bind fun r_13 => if r_11 = r_13 then (some 1) else (fX3_breaksARule_69 N rec2 σ r0 x1 x3)) else (fX3_breaksARule_69 N rec2 σ r0 x1 x3))
set_option maxRecDepth 100000 in
set_option maxHeartbeats 4000000 in
theorem wX3_breaksARule_2 {σ : gS} {r0 : Nat} {x1 : Int64} (hx : p.tables.exec = Jvm.exec) (hb : c.code = cX3_breaksARule) (hr : meth.sig.returnType = (some .boolean)) (hml : c.maxLocals = 4) (hown : s.vm.findClass RX3 = some m.cls) (hg : ∀ w ∈ wsL_law, w.before args s = true) (hlocks : meth.locks = false) (hK : gK D y aS s) (hA : ∀ q, s.heap.size ≤ q → A q) (hL : ∀ k, k < 179 → k ∈ L) (hr0 : gcl r0 = 3) : ∀ (n : Nat) {x3 : Int32} (H : Heap) (locs : List Loc) (ls : Array Slot), gY D y A s L ad σ H locs → lv_has ls 4 [(0, .ref (ad r0)), (1, .long x1), (3, .int x3)] → lp (fX3_breaksARule_2 N σ r0 x1) n x3 = some res → W p l e ({ frames := 1, cells := 0, slots := 0, locals := 22 } : Room) s m args below meth c H locs 0 0 (MQ below (va_Qi (fun (r : Int32) (_ : Unit) => r = res) (fun _ => gO D A (GW L y ad σ)) A) args s 0 0 A) (F0 m 2 ls []) := by
  intro n
  induction n with
  | zero => intro x3 H locs ls hY hl h; exact nomatch (show none = some res from h)
  | succ n hrec2 =>
    intro x3 H locs ls hY hl h
    replace h : fX3_breaksARule_2 N σ r0 x1 (lp (fX3_breaksARule_2 N σ r0 x1) n) x3 = some res := h
    generalize lp (fX3_breaksARule_2 N σ r0 x1) n = rec2 at h hrec2
    unfold fX3_breaksARule_2 at h
    try dsimp only at h
    refine lv_iload_n hx hb dX3_breaksARule_2 rfl (lv_at hl 2 rfl) ?_
    refine lv_iconst (v := 4) hx hb dX3_breaksARule_3 (by decide) ?_
    refine lv_iadd hx hb dX3_breaksARule_4 ?_
    refine lv_aload_n hx hb dX3_breaksARule_5 rfl (lv_at hl 0 rfl) ?_
    refine G_get (ci := 3) (j := 1) (C := RX3) (T := TX3) (N := 10) (v := .ref (ad (r0 + 1))) hx hb hg inlX3 hown hK hY (hL _ (gcl_lt hr0 (by decide))) hr0 (by decide) rfl (by decide) tX3_1 (hg _ gw_92) rfl dX3_breaksARule_6 ?_
    refine G_get (ci := 8) (j := 1) (C := RX8) (T := TX8) (N := 2) (v := .int (σ.1 (r0 + 1) 1)) hx hb hg inlX8 hown hK hY (hL _ (gcl_lt (gcl_chk hr0) (by decide))) (gcl_chk hr0) (by decide) rfl (by decide) tX8_1 (hg _ gw_780) rfl dX3_breaksARule_9 ?_
    refine lv_icmp_gt (tgt := 75) hx hb dX3_breaksARule_12 (by decide) (fun z_1 => ?_) (fun z_1 => ?_)
    ·
      rw [if_pos z_1] at h
      refine lv_iconst (v := 0) hx hb dX3_breaksARule_75 (by decide) ?_
      cases h
      exact g_iret hx hb hr hlocks () hY.1 hY.2.1 hY.2.2 rfl rfl (Nat.le_of_ble_eq_true rfl) (Nat.le_of_ble_eq_true rfl) dX3_breaksARule_76
    ·
      rw [if_neg z_1] at h
      refine lv_lload_n hx hb dX3_breaksARule_15 rfl (lv_at hl 1 rfl) ?_
      refine lv_aload_n hx hb dX3_breaksARule_16 rfl (lv_at hl 0 rfl) ?_
      refine G_get (ci := 3) (j := 1) (C := RX3) (T := TX3) (N := 10) (v := .ref (ad (r0 + 1))) hx hb hg inlX3 hown hK hY (hL _ (gcl_lt hr0 (by decide))) hr0 (by decide) rfl (by decide) tX3_1 (hg _ gw_92) rfl dX3_breaksARule_17 ?_
      refine lv_iload_n hx hb dX3_breaksARule_20 rfl (lv_at hl 2 rfl) ?_
      obtain ⟨r_2, e_3, h⟩ := g_bind h
      refine G_ai hY hA (va_runV (As := [.int x3]) (rest := [.long x1]) ⟨hx, hb, hml, hown, hg⟩ (kX8_whole l D y aS H.size L hL ad N σ (r0 + 1) x3 _ (gcl_chk hr0) e_3) (cwV 1 hg ggV_RX3_55_X8_whole rfl rfl rfl (by decide +kernel) ⟨Nat.le_of_ble_eq_true rfl, Nat.le_of_ble_eq_true rfl⟩) (G_pV (q := (RX8, TX8, 2)) hK hY (hL _ (gcl_lt (gcl_chk hr0) (by decide))) (gcl_chk hr0) (by decide) rfl) rfl rfl hl.1 rfl (lv_room (Nat.le_of_ble_eq_true rfl)) dX3_breaksARule_21 ⟨Nat.le_of_ble_eq_true rfl, Nat.le_of_ble_eq_true rfl⟩) ?_
      clear hY
      rintro _ H locs rfl hY
      obtain ⟨r_4, e_5, h⟩ := g_bind h
      refine G_ai hY hA (va_runSN (As := [.long x1, .int r_2]) (rest := []) ⟨hx, hb, hml, hown, hg⟩ (kX11_contentIn l D y aS H.size L hL ad N σ x1 r_2 _ e_5) ⟨va_cnB 2 hg ggI_RX3_59_X11_contentIn rfl rfl rfl (hK.2.1 _ (List.mem_of_getElem? (i := 19) rfl)) (hg _ gw_2) (by decide +kernel) ⟨Nat.le_of_ble_eq_true rfl, Nat.le_of_ble_eq_true rfl⟩, (hg _ gw_368), trivial⟩ (G_pS hK hY) rfl rfl hl.1 rfl (lv_room (Nat.le_of_ble_eq_true rfl)) dX3_breaksARule_24 ⟨Nat.le_of_ble_eq_true rfl, Nat.le_of_ble_eq_true rfl⟩) ?_
      clear hY
      rintro _ H locs rfl hY
      refine lv_aload_n hx hb dX3_breaksARule_27 rfl (lv_at hl 0 rfl) ?_
      refine G_get (ci := 3) (j := 1) (C := RX3) (T := TX3) (N := 10) (v := .ref (ad (r0 + 1))) hx hb hg inlX3 hown hK hY (hL _ (gcl_lt hr0 (by decide))) hr0 (by decide) rfl (by decide) tX3_1 (hg _ gw_92) rfl dX3_breaksARule_28 ?_
      refine lv_iload_n hx hb dX3_breaksARule_31 rfl (lv_at hl 2 rfl) ?_
      refine lv_iconst (v := 1) hx hb dX3_breaksARule_32 (by decide) ?_
      refine lv_iadd hx hb dX3_breaksARule_33 ?_
      obtain ⟨r_6, e_7, h⟩ := g_bind h
      refine G_ai hY hA (va_runV (As := [.int (x3 + 1)]) (rest := [.int r_4]) ⟨hx, hb, hml, hown, hg⟩ (kX8_whole l D y aS H.size L hL ad N σ (r0 + 1) (x3 + 1) _ (gcl_chk hr0) e_7) (cwV 1 hg ggV_RX3_55_X8_whole rfl rfl rfl (by decide +kernel) ⟨Nat.le_of_ble_eq_true rfl, Nat.le_of_ble_eq_true rfl⟩) (G_pV (q := (RX8, TX8, 2)) hK hY (hL _ (gcl_lt (gcl_chk hr0) (by decide))) (gcl_chk hr0) (by decide) rfl) rfl rfl hl.1 rfl (lv_room (Nat.le_of_ble_eq_true rfl)) dX3_breaksARule_34 ⟨Nat.le_of_ble_eq_true rfl, Nat.le_of_ble_eq_true rfl⟩) ?_
      clear hY
      rintro _ H locs rfl hY
      refine lv_icmp_ne (tgt := 69) hx hb dX3_breaksARule_37 (by decide) (fun z_8 => ?_) (fun z_8 => ?_)
      ·
        rw [if_neg z_8] at h
        exact wX3_breaksARule_69 hx hb hr hml hown hg hlocks hK hA hL hrec2 hr0 hY (lv_sub hl [0, 1, 2] rfl) h
      ·
        rw [if_pos z_8] at h
        refine lv_lload_n hx hb dX3_breaksARule_40 rfl (lv_at hl 1 rfl) ?_
        refine lv_aload_n hx hb dX3_breaksARule_41 rfl (lv_at hl 0 rfl) ?_
        refine G_get (ci := 3) (j := 1) (C := RX3) (T := TX3) (N := 10) (v := .ref (ad (r0 + 1))) hx hb hg inlX3 hown hK hY (hL _ (gcl_lt hr0 (by decide))) hr0 (by decide) rfl (by decide) tX3_1 (hg _ gw_92) rfl dX3_breaksARule_42 ?_
        refine lv_iload_n hx hb dX3_breaksARule_45 rfl (lv_at hl 2 rfl) ?_
        refine lv_iconst (v := 2) hx hb dX3_breaksARule_46 (by decide) ?_
        refine lv_iadd hx hb dX3_breaksARule_47 ?_
        obtain ⟨r_9, e_10, h⟩ := g_bind h
        refine G_ai hY hA (va_runV (As := [.int (x3 + 2)]) (rest := [.long x1]) ⟨hx, hb, hml, hown, hg⟩ (kX8_whole l D y aS H.size L hL ad N σ (r0 + 1) (x3 + 2) _ (gcl_chk hr0) e_10) (cwV 1 hg ggV_RX3_55_X8_whole rfl rfl rfl (by decide +kernel) ⟨Nat.le_of_ble_eq_true rfl, Nat.le_of_ble_eq_true rfl⟩) (G_pV (q := (RX8, TX8, 2)) hK hY (hL _ (gcl_lt (gcl_chk hr0) (by decide))) (gcl_chk hr0) (by decide) rfl) rfl rfl hl.1 rfl (lv_room (Nat.le_of_ble_eq_true rfl)) dX3_breaksARule_48 ⟨Nat.le_of_ble_eq_true rfl, Nat.le_of_ble_eq_true rfl⟩) ?_
        clear hY
        rintro _ H locs rfl hY
        obtain ⟨r_11, e_12, h⟩ := g_bind h
        refine G_ai hY hA (va_runSN (As := [.long x1, .int r_9]) (rest := []) ⟨hx, hb, hml, hown, hg⟩ (kX11_contentIn l D y aS H.size L hL ad N σ x1 r_9 _ e_12) ⟨va_cnB 2 hg ggI_RX3_59_X11_contentIn rfl rfl rfl (hK.2.1 _ (List.mem_of_getElem? (i := 19) rfl)) (hg _ gw_2) (by decide +kernel) ⟨Nat.le_of_ble_eq_true rfl, Nat.le_of_ble_eq_true rfl⟩, (hg _ gw_368), trivial⟩ (G_pS hK hY) rfl rfl hl.1 rfl (lv_room (Nat.le_of_ble_eq_true rfl)) dX3_breaksARule_51 ⟨Nat.le_of_ble_eq_true rfl, Nat.le_of_ble_eq_true rfl⟩) ?_
        clear hY
        rintro _ H locs rfl hY
        refine lv_aload_n hx hb dX3_breaksARule_54 rfl (lv_at hl 0 rfl) ?_
        refine G_get (ci := 3) (j := 1) (C := RX3) (T := TX3) (N := 10) (v := .ref (ad (r0 + 1))) hx hb hg inlX3 hown hK hY (hL _ (gcl_lt hr0 (by decide))) hr0 (by decide) rfl (by decide) tX3_1 (hg _ gw_92) rfl dX3_breaksARule_55 ?_
        refine lv_iload_n hx hb dX3_breaksARule_58 rfl (lv_at hl 2 rfl) ?_
        refine lv_iconst (v := 3) hx hb dX3_breaksARule_59 (by decide) ?_
        refine lv_iadd hx hb dX3_breaksARule_60 ?_
        obtain ⟨r_13, e_14, h⟩ := g_bind h
        refine G_ai hY hA (va_runV (As := [.int (x3 + 3)]) (rest := [.int r_11]) ⟨hx, hb, hml, hown, hg⟩ (kX8_whole l D y aS H.size L hL ad N σ (r0 + 1) (x3 + 3) _ (gcl_chk hr0) e_14) (cwV 1 hg ggV_RX3_55_X8_whole rfl rfl rfl (by decide +kernel) ⟨Nat.le_of_ble_eq_true rfl, Nat.le_of_ble_eq_true rfl⟩) (G_pV (q := (RX8, TX8, 2)) hK hY (hL _ (gcl_lt (gcl_chk hr0) (by decide))) (gcl_chk hr0) (by decide) rfl) rfl rfl hl.1 rfl (lv_room (Nat.le_of_ble_eq_true rfl)) dX3_breaksARule_61 ⟨Nat.le_of_ble_eq_true rfl, Nat.le_of_ble_eq_true rfl⟩) ?_
        clear hY
        rintro _ H locs rfl hY
        refine lv_icmp_ne (tgt := 69) hx hb dX3_breaksARule_64 (by decide) (fun z_15 => ?_) (fun z_15 => ?_)
        ·
          rw [if_neg z_15] at h
          exact wX3_breaksARule_69 hx hb hr hml hown hg hlocks hK hA hL hrec2 hr0 hY (lv_sub hl [0, 1, 2] rfl) h
        ·
          rw [if_pos z_15] at h
          refine lv_iconst (v := 1) hx hb dX3_breaksARule_67 (by decide) ?_
          cases h
          exact g_iret hx hb hr hlocks () hY.1 hY.2.1 hY.2.2 rfl rfl (Nat.le_of_ble_eq_true rfl) (Nat.le_of_ble_eq_true rfl) dX3_breaksARule_68
end
def fX3_breaksARule (N : Nat) (σ : gS) (r0 : Nat) (x1 : Int64) : Option Int32 := lp (fX3_breaksARule_2 N σ r0 x1) N 0
set_option maxRecDepth 100000 in
set_option maxHeartbeats 4000000 in
theorem kX3_breaksARule (l : Launch) (D : va_G) (y : Nat → ClassId) (aS : Nat → Nat) (sz : Nat) (L : List Nat) (hL : ∀ k, k < 179 → k ∈ L) (ad : Nat → Nat) (N : Nat) (σ : gS) (r0 : Nat) (x1 : Int64) (res : Int32) (hr0 : gcl r0 = 3) (h : fX3_breaksARule N σ r0 x1 = some res) : Met l yX3_breaksARule (Cond.code yX3_breaksARule cX3_breaksARule 4 (some .boolean) :: wsL_law) ({ frames := 1, cells := 0, slots := 0, locals := 22 } : Room) (va_Pc [.ref (ad r0), .long x1] (gI D y aS (GW L y ad σ) sz)) (va_Qi (fun (r : Int32) (_ : Unit) => r = res) (fun _ => gO D (va_A (GW L y ad σ) sz) (GW L y ad σ)) (va_A (GW L y ad σ) sz)) 0 0 (va_A (GW L y ad σ) sz) := by
  refine g_of (by decide) (Nat.le_of_ble_eq_true rfl) ?_
  intro p e s m below meth c ls A hx hb hr hml hown hg hlocks hin hsz hK hP hD hS hA hAe hl
  rw [← hAe]
  replace hown : s.vm.findClass RX3 = some m.cls := hown
  have hY : gY D y A s L ad σ s.heap [] := ⟨hP, hD, hS⟩
  clear hP hD hS
  replace hl : lv_has ls 4 [(0, .ref (ad r0)), (1, .long x1)] := hl
  unfold fX3_breaksARule at h
  refine lv_iconst (v := 0) hx hb dX3_breaksARule_0 (by decide) ?_
  refine lv_istore_n (lv' := [(3, .int 0), (0, .ref (ad r0)), (1, .long x1)]) hx hb dX3_breaksARule_1 rfl hl (by decide) rfl ?_
  clear hl
  intro ls hl
  exact wX3_breaksARule_2 hx hb hr hml hown hg hlocks hK hA hL hr0 N _ _ _ hY (lv_sub hl [1, 2, 0] rfl) h
theorem ggV_RX3_41_X3_breaksARule : GoodIn wsL_law (wsV RX3 41 RX3 yX3_breaksARule (Cond.code yX3_breaksARule cX3_breaksARule 4 (some .boolean) :: wsL_law)) := g_gi (fun _ h => h) gW_good (List.forall_mem_cons.mpr ⟨⟨gw_776, rfl⟩, List.forall_mem_cons.mpr ⟨⟨gw_777, rfl⟩, List.forall_mem_cons.mpr ⟨⟨gw_778, rfl⟩, List.forall_mem_cons.mpr ⟨⟨gw_81, rfl⟩, fun _ h => nomatch h⟩⟩⟩⟩) ⟨gw_779, rfl⟩
theorem ggI_RX3_65_X11_hasBit : GoodIn wsL_law ([] ++ (Cond.code yX11_hasBit cX11_hasBit 2 (some .boolean) :: wsL_law)) := g_gi (fun _ h => h) gW_good (fun _ h => nomatch h) ⟨gw_221, rfl⟩
section
variable {p : Program} {l : Launch} {e : Env} {s : State} {m : MethodId} {args : Array Value} {below : List Frame} {meth : Method} {c : Code} {D : va_G} {y : Nat → ClassId} {aS : Nat → Nat} {A : Nat → Prop} {L : List Nat} {ad : Nat → Nat} {N : Nat} {res : Int32}
def fX3_draw_50 (N : Nat) (rec11 : (Int32 × Int32) → Option Int32) (σ : gS) (r0 : Nat) (x1 : Int64) (x3 : Int32) (x4 : Int32) (x5 : Int32) : Option Int32 := rec11 (x4, (x5 + 1))
set_option maxRecDepth 100000 in
set_option maxHeartbeats 4000000 in
theorem wX3_draw_50 {rec11 : (Int32 × Int32) → Option Int32} {σ : gS} {r0 : Nat} {x1 : Int64} {x3 : Int32} {x4 : Int32} {x5 : Int32} (hx : p.tables.exec = Jvm.exec) (hb : c.code = cX3_draw) (hr : meth.sig.returnType = (some .int)) (hml : c.maxLocals = 6) (hown : s.vm.findClass RX3 = some m.cls) (hg : ∀ w ∈ wsL_law, w.before args s = true) (hlocks : meth.locks = false) (hK : gK D y aS s) (hA : ∀ q, s.heap.size ≤ q → A q) (hL : ∀ k, k < 179 → k ∈ L) (hrec11 : ∀ {x4n9 : Int32} {x5n9 : Int32} (H : Heap) (locs : List Loc) (ls : Array Slot), gY D y A s L ad σ H locs → lv_has ls 6 [(0, .ref (ad r0)), (1, .long x1), (3, .int x3), (4, .int x4n9), (5, .int x5n9)] → rec11 (x4n9, x5n9) = some res → W p l e ({ frames := 1, cells := 0, slots := 0, locals := 22 } : Room) s m args below meth c H locs 0 0 (MQ below (va_Qi (fun (r : Int32) (_ : Unit) => r = res) (fun _ => gO D A (GW L y ad σ)) A) args s 0 0 A) (F0 m 11 ls [])) (hr0 : gcl r0 = 3) {H : Heap} {locs : List Loc} {ls : Array Slot} (hY : gY D y A s L ad σ H locs) (hl : lv_has ls 6 [(0, .ref (ad r0)), (1, .long x1), (3, .int x3), (4, .int x4), (5, .int x5)]) (h : fX3_draw_50 N rec11 σ r0 x1 x3 x4 x5 = some res) : W p l e ({ frames := 1, cells := 0, slots := 0, locals := 22 } : Room) s m args below meth c H locs 0 0 (MQ below (va_Qi (fun (r : Int32) (_ : Unit) => r = res) (fun _ => gO D A (GW L y ad σ)) A) args s 0 0 A) (F0 m 50 ls []) := by
  unfold fX3_draw_50 at h
  refine lv_iinc (v := (x5 + 1)) (lv' := [(5, .int (x5 + 1)), (0, .ref (ad r0)), (1, .long x1), (3, .int x3), (4, .int x4)]) hx hb dX3_draw_50 hl (k := 4) rfl rfl (by decide) rfl ?_
  clear hl
  intro ls hl
  refine lv_goto (tgt := 11) hx hb dX3_draw_53 (by decide) ?_
  exact hrec11 _ _ _ hY (lv_sub hl [1, 2, 3, 4, 0] rfl) h
def fX3_draw_11 (N : Nat) (σ : gS) (r0 : Nat) (x1 : Int64) (x3 : Int32) (rec11 : (Int32 × Int32) → Option Int32) (xx : Int32 × Int32) : Option Int32 := match xx with
  | (x4, x5) => if 12 ≤ x5 then (some ((((((x4.toInt64) * 7919) + ((x3.toInt64) * 104729)) - (((x4.toInt64) * 7919) + ((x3.toInt64) * 104729)) / 1000003 * 1000003) - ((((x4.toInt64) * 7919) + ((x3.toInt64) * 104729)) - (((x4.toInt64) * 7919) + ((x3.toInt64) * 104729)) / 1000003 * 1000003) / 10 * 10).toInt32)) else ((fX11_hasBit N σ (σ.1 r0 2) x5).bind fun r_2 => if r_2 = 0 then (fX3_draw_50 N rec11 σ r0 x1 x3 x4 x5) else ((fX11_contentIn N σ x1 x5).bind fun r_5 => fX3_draw_50 N rec11 σ r0 x1 x3 ((((x4 * 11) + r_5) + 1) - (((x4 * 11) + r_5) + 1) / 10007 * 10007) x5))
set_option maxRecDepth 100000 in
set_option maxHeartbeats 4000000 in
theorem wX3_draw_11 {σ : gS} {r0 : Nat} {x1 : Int64} {x3 : Int32} (hx : p.tables.exec = Jvm.exec) (hb : c.code = cX3_draw) (hr : meth.sig.returnType = (some .int)) (hml : c.maxLocals = 6) (hown : s.vm.findClass RX3 = some m.cls) (hg : ∀ w ∈ wsL_law, w.before args s = true) (hlocks : meth.locks = false) (hK : gK D y aS s) (hA : ∀ q, s.heap.size ≤ q → A q) (hL : ∀ k, k < 179 → k ∈ L) (hr0 : gcl r0 = 3) : ∀ (n : Nat) {x4 : Int32} {x5 : Int32} (H : Heap) (locs : List Loc) (ls : Array Slot), gY D y A s L ad σ H locs → lv_has ls 6 [(0, .ref (ad r0)), (1, .long x1), (3, .int x3), (4, .int x4), (5, .int x5)] → lp (fX3_draw_11 N σ r0 x1 x3) n (x4, x5) = some res → W p l e ({ frames := 1, cells := 0, slots := 0, locals := 22 } : Room) s m args below meth c H locs 0 0 (MQ below (va_Qi (fun (r : Int32) (_ : Unit) => r = res) (fun _ => gO D A (GW L y ad σ)) A) args s 0 0 A) (F0 m 11 ls []) := by
  intro n
  induction n with
  | zero => intro x4 x5 H locs ls hY hl h; exact nomatch (show none = some res from h)
  | succ n hrec11 =>
    intro x4 x5 H locs ls hY hl h
    replace h : fX3_draw_11 N σ r0 x1 x3 (lp (fX3_draw_11 N σ r0 x1 x3) n) (x4, x5) = some res := h
    generalize lp (fX3_draw_11 N σ r0 x1 x3) n = rec11 at h hrec11
    unfold fX3_draw_11 at h
    try dsimp only at h
    refine lv_iload hx hb dX3_draw_11 (lv_at hl 4 rfl) ?_
    refine lv_bipush (v := 12) hx hb dX3_draw_13 (by decide +kernel) ?_
    refine lv_icmp_ge (tgt := 56) hx hb dX3_draw_15 (by decide) (fun z_1 => ?_) (fun z_1 => ?_)
    ·
      rw [if_pos z_1] at h
      refine lv_iload hx hb dX3_draw_56 (lv_at hl 3 rfl) ?_
      refine lv_i2l (v := (x4.toInt64)) hx hb dX3_draw_58 rfl ?_
      refine lv_ldc2 (v := 7919) hx hb hown (hg _ gw_787) dX3_draw_59 ?_
      refine lv_lmul hx hb dX3_draw_62 ?_
      refine lv_iload_n hx hb dX3_draw_63 rfl (lv_at hl 2 rfl) ?_
      refine lv_i2l (v := (x3.toInt64)) hx hb dX3_draw_64 rfl ?_
      refine lv_ldc2 (v := 104729) hx hb hown (hg _ gw_788) dX3_draw_65 ?_
      refine lv_lmul hx hb dX3_draw_68 ?_
      refine lv_ladd hx hb dX3_draw_69 ?_
      refine lv_ldc2 (v := 1000003) hx hb hown (hg _ gw_789) dX3_draw_70 ?_
      refine lv_lrem hx hb dX3_draw_73 (by decide +kernel) ?_
      refine lv_ldc2 (v := 10) hx hb hown (hg _ gw_790) dX3_draw_74 ?_
      refine lv_lrem hx hb dX3_draw_77 (by decide +kernel) ?_
      refine lv_l2i (v := ((((((x4.toInt64) * 7919) + ((x3.toInt64) * 104729)) - (((x4.toInt64) * 7919) + ((x3.toInt64) * 104729)) / 1000003 * 1000003) - ((((x4.toInt64) * 7919) + ((x3.toInt64) * 104729)) - (((x4.toInt64) * 7919) + ((x3.toInt64) * 104729)) / 1000003 * 1000003) / 10 * 10).toInt32)) hx hb dX3_draw_78 rfl ?_
      cases h
      exact g_iret hx hb hr hlocks () hY.1 hY.2.1 hY.2.2 rfl rfl (Nat.le_of_ble_eq_true rfl) (Nat.le_of_ble_eq_true rfl) dX3_draw_79
    ·
      rw [if_neg z_1] at h
      refine lv_aload_n hx hb dX3_draw_18 rfl (lv_at hl 0 rfl) ?_
      refine G_get (ci := 3) (j := 2) (C := RX3) (T := TX3) (N := 10) (v := .int (σ.1 r0 2)) hx hb hg inlX3 hown hK hY (hL _ (gcl_lt hr0 (by decide))) hr0 (by decide) rfl (by decide) tX3_2 (hg _ gw_786) rfl dX3_draw_19 ?_
      refine lv_iload hx hb dX3_draw_22 (lv_at hl 4 rfl) ?_
      obtain ⟨r_2, e_3, h⟩ := g_bind h
      refine G_ai hY hA (va_runSN (As := [.int (σ.1 r0 2), .int x5]) (rest := []) ⟨hx, hb, hml, hown, hg⟩ (kX11_hasBit l D y aS H.size L hL ad N σ (σ.1 r0 2) x5 _ e_3) ⟨va_cnB 2 hg ggI_RX3_65_X11_hasBit rfl rfl rfl (hK.2.1 _ (List.mem_of_getElem? (i := 20) rfl)) (hg _ gw_2) (by decide +kernel) ⟨Nat.le_of_ble_eq_true rfl, Nat.le_of_ble_eq_true rfl⟩, (hg _ gw_220), trivial⟩ (G_pS hK hY) rfl rfl hl.1 rfl (lv_room (Nat.le_of_ble_eq_true rfl)) dX3_draw_24 ⟨Nat.le_of_ble_eq_true rfl, Nat.le_of_ble_eq_true rfl⟩) ?_
      clear hY
      rintro _ H locs rfl hY
      refine lv_if_eq (tgt := 50) hx hb dX3_draw_27 (by decide) (fun z_4 => ?_) (fun z_4 => ?_)
      ·
        rw [if_pos z_4] at h
        exact wX3_draw_50 hx hb hr hml hown hg hlocks hK hA hL hrec11 hr0 hY (lv_sub hl [0, 1, 2, 3, 4] rfl) h
      ·
        rw [if_neg z_4] at h
        refine lv_iload hx hb dX3_draw_30 (lv_at hl 3 rfl) ?_
        refine lv_bipush (v := 11) hx hb dX3_draw_32 (by decide +kernel) ?_
        refine lv_imul hx hb dX3_draw_34 ?_
        refine lv_lload_n hx hb dX3_draw_35 rfl (lv_at hl 1 rfl) ?_
        refine lv_iload hx hb dX3_draw_36 (lv_at hl 4 rfl) ?_
        obtain ⟨r_5, e_6, h⟩ := g_bind h
        refine G_ai hY hA (va_runSN (As := [.long x1, .int x5]) (rest := [.int (x4 * 11)]) ⟨hx, hb, hml, hown, hg⟩ (kX11_contentIn l D y aS H.size L hL ad N σ x1 x5 _ e_6) ⟨va_cnB 2 hg ggI_RX3_59_X11_contentIn rfl rfl rfl (hK.2.1 _ (List.mem_of_getElem? (i := 19) rfl)) (hg _ gw_2) (by decide +kernel) ⟨Nat.le_of_ble_eq_true rfl, Nat.le_of_ble_eq_true rfl⟩, (hg _ gw_368), trivial⟩ (G_pS hK hY) rfl rfl hl.1 rfl (lv_room (Nat.le_of_ble_eq_true rfl)) dX3_draw_38 ⟨Nat.le_of_ble_eq_true rfl, Nat.le_of_ble_eq_true rfl⟩) ?_
        clear hY
        rintro _ H locs rfl hY
        refine lv_iadd hx hb dX3_draw_41 ?_
        refine lv_iconst (v := 1) hx hb dX3_draw_42 (by decide) ?_
        refine lv_iadd hx hb dX3_draw_43 ?_
        refine lv_sipush (v := 10007) hx hb dX3_draw_44 (by decide +kernel) ?_
        refine lv_irem hx hb dX3_draw_47 (by decide +kernel) ?_
        refine lv_istore (lv' := [(4, .int ((((x4 * 11) + r_5) + 1) - (((x4 * 11) + r_5) + 1) / 10007 * 10007)), (0, .ref (ad r0)), (1, .long x1), (3, .int x3), (5, .int x5)]) hx hb dX3_draw_48 hl (by decide) rfl ?_
        clear hl
        intro ls hl
        exact wX3_draw_50 hx hb hr hml hown hg hlocks hK hA hL hrec11 hr0 hY (lv_sub hl [1, 2, 3, 0, 4] rfl) h
end
def fX3_draw (N : Nat) (σ : gS) (r0 : Nat) (x1 : Int64) (x3 : Int32) : Option Int32 := lp (fX3_draw_11 N σ r0 x1 x3) N (((σ.1 r0 0) + 1), 0)
set_option maxRecDepth 100000 in
set_option maxHeartbeats 4000000 in
theorem kX3_draw (l : Launch) (D : va_G) (y : Nat → ClassId) (aS : Nat → Nat) (sz : Nat) (L : List Nat) (hL : ∀ k, k < 179 → k ∈ L) (ad : Nat → Nat) (N : Nat) (σ : gS) (r0 : Nat) (x1 : Int64) (x3 : Int32) (res : Int32) (hr0 : gcl r0 = 3) (h : fX3_draw N σ r0 x1 x3 = some res) : Met l yX3_draw (Cond.code yX3_draw cX3_draw 6 (some .int) :: wsL_law) ({ frames := 1, cells := 0, slots := 0, locals := 22 } : Room) (va_Pc [.ref (ad r0), .long x1, .int x3] (gI D y aS (GW L y ad σ) sz)) (va_Qi (fun (r : Int32) (_ : Unit) => r = res) (fun _ => gO D (va_A (GW L y ad σ) sz) (GW L y ad σ)) (va_A (GW L y ad σ) sz)) 0 0 (va_A (GW L y ad σ) sz) := by
  refine g_of (by decide) (Nat.le_of_ble_eq_true rfl) ?_
  intro p e s m below meth c ls A hx hb hr hml hown hg hlocks hin hsz hK hP hD hS hA hAe hl
  rw [← hAe]
  replace hown : s.vm.findClass RX3 = some m.cls := hown
  have hY : gY D y A s L ad σ s.heap [] := ⟨hP, hD, hS⟩
  clear hP hD hS
  replace hl : lv_has ls 6 [(0, .ref (ad r0)), (1, .long x1), (3, .int x3)] := hl
  unfold fX3_draw at h
  refine lv_aload_n hx hb dX3_draw_0 rfl (lv_at hl 0 rfl) ?_
  refine G_get (ci := 3) (j := 0) (C := RX3) (T := TX3) (N := 10) (v := .int (σ.1 r0 0)) hx hb hg inlX3 hown hK hY (hL _ (gcl_lt hr0 (by decide))) hr0 (by decide) rfl (by decide) tX3_0 (hg _ gw_93) rfl dX3_draw_1 ?_
  refine lv_iconst (v := 1) hx hb dX3_draw_4 (by decide) ?_
  refine lv_iadd hx hb dX3_draw_5 ?_
  refine lv_istore (lv' := [(4, .int ((σ.1 r0 0) + 1)), (0, .ref (ad r0)), (1, .long x1), (3, .int x3)]) hx hb dX3_draw_6 hl (by decide) rfl ?_
  clear hl
  intro ls hl
  refine lv_iconst (v := 0) hx hb dX3_draw_8 (by decide) ?_
  refine lv_istore (lv' := [(5, .int 0), (4, .int ((σ.1 r0 0) + 1)), (0, .ref (ad r0)), (1, .long x1), (3, .int x3)]) hx hb dX3_draw_9 hl (by decide) rfl ?_
  clear hl
  intro ls hl
  exact wX3_draw_11 hx hb hr hml hown hg hlocks hK hA hL hr0 N _ _ _ hY (lv_sub hl [2, 3, 4, 1, 0] rfl) h
theorem ggV_RX3_45_X3_draw : GoodIn wsL_law (wsV RX3 45 RX3 yX3_draw (Cond.code yX3_draw cX3_draw 6 (some .int) :: wsL_law)) := g_gi (fun _ h => h) gW_good (List.forall_mem_cons.mpr ⟨⟨gw_782, rfl⟩, List.forall_mem_cons.mpr ⟨⟨gw_783, rfl⟩, List.forall_mem_cons.mpr ⟨⟨gw_784, rfl⟩, List.forall_mem_cons.mpr ⟨⟨gw_81, rfl⟩, fun _ h => nomatch h⟩⟩⟩⟩) ⟨gw_785, rfl⟩
section
variable {p : Program} {l : Launch} {e : Env} {s : State} {m : MethodId} {args : Array Value} {below : List Frame} {meth : Method} {c : Code} {D : va_G} {y : Nat → ClassId} {aS : Nat → Nat} {A : Nat → Prop} {L : List Nat} {ad : Nat → Nat} {N : Nat} {res : Int32}
def fX3_fails_33 (N : Nat) (σ : gS) (xs0 : Int32) : Option Int32 := if ¬ (xs0 = 0 ∨ xs0 = 1) then none else (some xs0)
set_option maxRecDepth 100000 in
set_option maxHeartbeats 4000000 in
theorem wX3_fails_33 {σ : gS} {xs0 : Int32} (hx : p.tables.exec = Jvm.exec) (hb : c.code = cX3_fails) (hr : meth.sig.returnType = (some .boolean)) (hml : c.maxLocals = 4) (hown : s.vm.findClass RX3 = some m.cls) (hg : ∀ w ∈ wsL_law, w.before args s = true) (hlocks : meth.locks = false) (hK : gK D y aS s) (hA : ∀ q, s.heap.size ≤ q → A q) (hL : ∀ k, k < 179 → k ∈ L) {H : Heap} {locs : List Loc} {ls : Array Slot} (hY : gY D y A s L ad σ H locs) (hl : lv_has ls 4 []) (h : fX3_fails_33 N σ xs0 = some res) : W p l e ({ frames := 2, cells := 0, slots := 0, locals := 47 } : Room) s m args below meth c H locs 0 0 (MQ below (va_Qi (fun (r : Int32) (_ : Unit) => r = res) (fun _ => gO D A (GW L y ad σ)) A) args s 0 0 A) (F0 m 33 ls [.int xs0]) := by
  unfold fX3_fails_33 at h
  obtain ⟨z_1, h⟩ := g_guard h
  cases h
  exact g_iret hx hb hr hlocks () hY.1 hY.2.1 hY.2.2 (g_nz (Classical.not_not.mp z_1)) rfl (Nat.le_of_ble_eq_true rfl) (Nat.le_of_ble_eq_true rfl) dX3_fails_33
def fX3_fails_28 (N : Nat) (σ : gS) : Option Int32 := fX3_fails_33 N σ 1
set_option maxRecDepth 100000 in
set_option maxHeartbeats 4000000 in
theorem wX3_fails_28 {σ : gS} (hx : p.tables.exec = Jvm.exec) (hb : c.code = cX3_fails) (hr : meth.sig.returnType = (some .boolean)) (hml : c.maxLocals = 4) (hown : s.vm.findClass RX3 = some m.cls) (hg : ∀ w ∈ wsL_law, w.before args s = true) (hlocks : meth.locks = false) (hK : gK D y aS s) (hA : ∀ q, s.heap.size ≤ q → A q) (hL : ∀ k, k < 179 → k ∈ L) {H : Heap} {locs : List Loc} {ls : Array Slot} (hY : gY D y A s L ad σ H locs) (hl : lv_has ls 4 []) (h : fX3_fails_28 N σ = some res) : W p l e ({ frames := 2, cells := 0, slots := 0, locals := 47 } : Room) s m args below meth c H locs 0 0 (MQ below (va_Qi (fun (r : Int32) (_ : Unit) => r = res) (fun _ => gO D A (GW L y ad σ)) A) args s 0 0 A) (F0 m 28 ls []) := by
  unfold fX3_fails_28 at h
  refine lv_iconst (v := 1) hx hb dX3_fails_28 (by decide) ?_
  refine lv_goto (tgt := 33) hx hb dX3_fails_29 (by decide) ?_
  exact wX3_fails_33 hx hb hr hml hown hg hlocks hK hA hL hY (lv_sub hl [] rfl) h
end
def fX3_fails (N : Nat) (σ : gS) (r0 : Nat) (x1 : Int64) (x3 : Int32) : Option Int32 := if (σ.1 r0 6) = 0 then ((fX3_breaksARule N σ r0 x1).bind fun r_2 => if r_2 = 0 then ((fX3_draw N σ r0 x1 x3).bind fun r_5 => if (σ.1 r0 5) ≤ r_5 then (fX3_fails_33 N σ 0) else (fX3_fails_28 N σ)) else (fX3_fails_28 N σ)) else (fX3_fails_28 N σ)
set_option maxRecDepth 100000 in
set_option maxHeartbeats 4000000 in
theorem kX3_fails (l : Launch) (D : va_G) (y : Nat → ClassId) (aS : Nat → Nat) (sz : Nat) (L : List Nat) (hL : ∀ k, k < 179 → k ∈ L) (ad : Nat → Nat) (N : Nat) (σ : gS) (r0 : Nat) (x1 : Int64) (x3 : Int32) (res : Int32) (hr0 : gcl r0 = 3) (h : fX3_fails N σ r0 x1 x3 = some res) : Met l yX3_fails (Cond.code yX3_fails cX3_fails 4 (some .boolean) :: wsL_law) ({ frames := 2, cells := 0, slots := 0, locals := 47 } : Room) (va_Pc [.ref (ad r0), .long x1, .int x3] (gI D y aS (GW L y ad σ) sz)) (va_Qi (fun (r : Int32) (_ : Unit) => r = res) (fun _ => gO D (va_A (GW L y ad σ) sz) (GW L y ad σ)) (va_A (GW L y ad σ) sz)) 0 0 (va_A (GW L y ad σ) sz) := by
  refine g_of (by decide) (Nat.le_of_ble_eq_true rfl) ?_
  intro p e s m below meth c ls A hx hb hr hml hown hg hlocks hin hsz hK hP hD hS hA hAe hl
  rw [← hAe]
  replace hown : s.vm.findClass RX3 = some m.cls := hown
  have hY : gY D y A s L ad σ s.heap [] := ⟨hP, hD, hS⟩
  clear hP hD hS
  replace hl : lv_has ls 4 [(0, .ref (ad r0)), (1, .long x1), (3, .int x3)] := hl
  unfold fX3_fails at h
  refine lv_aload_n hx hb dX3_fails_0 rfl (lv_at hl 0 rfl) ?_
  refine G_get (ci := 3) (j := 6) (C := RX3) (T := TX3) (N := 10) (v := .int (σ.1 r0 6)) hx hb hg inlX3 hown hK hY (hL _ (gcl_lt hr0 (by decide))) hr0 (by decide) rfl (by decide) tX3_6 (hg _ gw_774) rfl dX3_fails_1 ?_
  refine lv_if_ne (tgt := 28) hx hb dX3_fails_4 (by decide) (fun z_1 => ?_) (fun z_1 => ?_)
  ·
    rw [if_neg z_1] at h
    exact wX3_fails_28 hx hb hr hml hown hg hlocks hK hA hL hY (lv_sub hl [] rfl) h
  ·
    rw [if_pos z_1] at h
    refine lv_aload_n hx hb dX3_fails_7 rfl (lv_at hl 0 rfl) ?_
    refine lv_lload_n hx hb dX3_fails_8 rfl (lv_at hl 1 rfl) ?_
    obtain ⟨r_2, e_3, h⟩ := g_bind h
    refine G_ai hY hA (va_runV (As := [.long x1]) (rest := []) ⟨hx, hb, hml, hown, hg⟩ (kX3_breaksARule l D y aS s.heap.size L hL ad N σ r0 x1 _ hr0 e_3) (cwV 1 hg ggV_RX3_41_X3_breaksARule rfl rfl rfl (by decide +kernel) ⟨Nat.le_of_ble_eq_true rfl, Nat.le_of_ble_eq_true rfl⟩) (G_pV (q := (RX3, TX3, 10)) hK hY (hL _ (gcl_lt hr0 (by decide))) hr0 (by decide) rfl) rfl rfl hl.1 rfl (lv_room (Nat.le_of_ble_eq_true rfl)) dX3_fails_9 ⟨Nat.le_of_ble_eq_true rfl, Nat.le_of_ble_eq_true rfl⟩) ?_
    clear hY
    rintro _ H locs rfl hY
    refine lv_if_ne (tgt := 28) hx hb dX3_fails_12 (by decide) (fun z_4 => ?_) (fun z_4 => ?_)
    ·
      rw [if_neg z_4] at h
      exact wX3_fails_28 hx hb hr hml hown hg hlocks hK hA hL hY (lv_sub hl [] rfl) h
    ·
      rw [if_pos z_4] at h
      refine lv_aload_n hx hb dX3_fails_15 rfl (lv_at hl 0 rfl) ?_
      refine lv_lload_n hx hb dX3_fails_16 rfl (lv_at hl 1 rfl) ?_
      refine lv_iload_n hx hb dX3_fails_17 rfl (lv_at hl 2 rfl) ?_
      obtain ⟨r_5, e_6, h⟩ := g_bind h
      refine G_ai hY hA (va_runV (As := [.long x1, .int x3]) (rest := []) ⟨hx, hb, hml, hown, hg⟩ (kX3_draw l D y aS H.size L hL ad N σ r0 x1 x3 _ hr0 e_6) (cwV 2 hg ggV_RX3_45_X3_draw rfl rfl rfl (by decide +kernel) ⟨Nat.le_of_ble_eq_true rfl, Nat.le_of_ble_eq_true rfl⟩) (G_pV (q := (RX3, TX3, 10)) hK hY (hL _ (gcl_lt hr0 (by decide))) hr0 (by decide) rfl) rfl rfl hl.1 rfl (lv_room (Nat.le_of_ble_eq_true rfl)) dX3_fails_18 ⟨Nat.le_of_ble_eq_true rfl, Nat.le_of_ble_eq_true rfl⟩) ?_
      clear hY
      rintro _ H locs rfl hY
      refine lv_aload_n hx hb dX3_fails_21 rfl (lv_at hl 0 rfl) ?_
      refine G_get (ci := 3) (j := 5) (C := RX3) (T := TX3) (N := 10) (v := .int (σ.1 r0 5)) hx hb hg inlX3 hown hK hY (hL _ (gcl_lt hr0 (by decide))) hr0 (by decide) rfl (by decide) tX3_5 (hg _ gw_775) rfl dX3_fails_22 ?_
      refine lv_icmp_ge (tgt := 32) hx hb dX3_fails_25 (by decide) (fun z_7 => ?_) (fun z_7 => ?_)
      ·
        rw [if_pos z_7] at h
        refine lv_iconst (v := 0) hx hb dX3_fails_32 (by decide) ?_
        exact wX3_fails_33 hx hb hr hml hown hg hlocks hK hA hL hY (lv_sub hl [] rfl) h
      ·
        rw [if_neg z_7] at h
        exact wX3_fails_28 hx hb hr hml hown hg hlocks hK hA hL hY (lv_sub hl [] rfl) h
theorem ggV_RX4_56_X2_at : GoodIn wsL_law (wsV RX4 56 RX2 yX2_at (Cond.code yX2_at cX2_at 3 (some (.object "Greentrunk$Change")) :: wsL_law)) := g_gi (fun _ h => h) gW_good (List.forall_mem_cons.mpr ⟨⟨gw_245, rfl⟩, List.forall_mem_cons.mpr ⟨⟨gw_198, rfl⟩, List.forall_mem_cons.mpr ⟨⟨gw_199, rfl⟩, List.forall_mem_cons.mpr ⟨⟨gw_15, rfl⟩, fun _ h => nomatch h⟩⟩⟩⟩) ⟨gw_200, rfl⟩
theorem ggV_RX4_65_X1_isAheadOf : GoodIn wsL_law (wsV RX4 65 RX1 yX1_isAheadOf (Cond.code yX1_isAheadOf cX1_isAheadOf 2 (some .boolean) :: wsL_law)) := g_gi (fun _ h => h) gW_good (List.forall_mem_cons.mpr ⟨⟨gw_246, rfl⟩, List.forall_mem_cons.mpr ⟨⟨gw_247, rfl⟩, List.forall_mem_cons.mpr ⟨⟨gw_248, rfl⟩, List.forall_mem_cons.mpr ⟨⟨gw_63, rfl⟩, fun _ h => nomatch h⟩⟩⟩⟩) ⟨gw_249, rfl⟩
section
variable {p : Program} {l : Launch} {e : Env} {s : State} {m : MethodId} {args : Array Value} {below : List Frame} {meth : Method} {c : Code} {D : va_G} {y : Nat → ClassId} {aS : Nat → Nat} {A : Nat → Prop} {L : List Nat} {ad : Nat → Nat} {N : Nat} {res : Int32}
def fX4_nextOf_89 (N : Nat) (rec5 : (Int32 × Int32) → Option Int32) (σ : gS) (x1 : Int64) (x3 : Int32) (x4 : Int32) : Option Int32 := rec5 (x3, (x4 + 1))
set_option maxRecDepth 100000 in
set_option maxHeartbeats 4000000 in
theorem wX4_nextOf_89 {rec5 : (Int32 × Int32) → Option Int32} {σ : gS} {x1 : Int64} {x3 : Int32} {x4 : Int32} (hx : p.tables.exec = Jvm.exec) (hb : c.code = cX4_nextOf) (hr : meth.sig.returnType = (some .int)) (hml : c.maxLocals = 7) (hown : s.vm.findClass RX4 = some m.cls) (hg : ∀ w ∈ wsL_law, w.before args s = true) (hlocks : meth.locks = false) (hK : gK D y aS s) (hA : ∀ q, s.heap.size ≤ q → A q) (hL : ∀ k, k < 179 → k ∈ L) (hrec5 : ∀ {x3n9 : Int32} {x4n9 : Int32} (H : Heap) (locs : List Loc) (ls : Array Slot), gY D y A s L ad σ H locs → lv_has ls 7 [(0, .ref (ad 1)), (1, .long x1), (3, .int x3n9), (4, .int x4n9)] → rec5 (x3n9, x4n9) = some res → W p l e ({ frames := 1, cells := 0, slots := 0, locals := 22 } : Room) s m args below meth c H locs 0 0 (MQ below (va_Qi (fun (r : Int32) (_ : Unit) => r = res) (fun _ => gO D A (GW L y ad σ)) A) args s 0 0 A) (F0 m 5 ls [])) {H : Heap} {locs : List Loc} {ls : Array Slot} (hY : gY D y A s L ad σ H locs) (hl : lv_has ls 7 [(0, .ref (ad 1)), (1, .long x1), (3, .int x3), (4, .int x4)]) (h : fX4_nextOf_89 N rec5 σ x1 x3 x4 = some res) : W p l e ({ frames := 1, cells := 0, slots := 0, locals := 22 } : Room) s m args below meth c H locs 0 0 (MQ below (va_Qi (fun (r : Int32) (_ : Unit) => r = res) (fun _ => gO D A (GW L y ad σ)) A) args s 0 0 A) (F0 m 89 ls []) := by
  unfold fX4_nextOf_89 at h
  refine lv_iinc (v := (x4 + 1)) (lv' := [(4, .int (x4 + 1)), (0, .ref (ad 1)), (1, .long x1), (3, .int x3)]) hx hb dX4_nextOf_89 hl (k := 3) rfl rfl (by decide) rfl ?_
  clear hl
  intro ls hl
  refine lv_goto (tgt := 5) hx hb dX4_nextOf_92 (by decide) ?_
  exact hrec5 _ _ _ hY (lv_sub hl [1, 2, 3, 0] rfl) h
def fX4_nextOf_86 (N : Nat) (rec5 : (Int32 × Int32) → Option Int32) (σ : gS) (x1 : Int64) (x4 : Int32) : Option Int32 := fX4_nextOf_89 N rec5 σ x1 x4 x4
set_option maxRecDepth 100000 in
set_option maxHeartbeats 4000000 in
theorem wX4_nextOf_86 {rec5 : (Int32 × Int32) → Option Int32} {σ : gS} {x1 : Int64} {x4 : Int32} (hx : p.tables.exec = Jvm.exec) (hb : c.code = cX4_nextOf) (hr : meth.sig.returnType = (some .int)) (hml : c.maxLocals = 7) (hown : s.vm.findClass RX4 = some m.cls) (hg : ∀ w ∈ wsL_law, w.before args s = true) (hlocks : meth.locks = false) (hK : gK D y aS s) (hA : ∀ q, s.heap.size ≤ q → A q) (hL : ∀ k, k < 179 → k ∈ L) (hrec5 : ∀ {x3n9 : Int32} {x4n9 : Int32} (H : Heap) (locs : List Loc) (ls : Array Slot), gY D y A s L ad σ H locs → lv_has ls 7 [(0, .ref (ad 1)), (1, .long x1), (3, .int x3n9), (4, .int x4n9)] → rec5 (x3n9, x4n9) = some res → W p l e ({ frames := 1, cells := 0, slots := 0, locals := 22 } : Room) s m args below meth c H locs 0 0 (MQ below (va_Qi (fun (r : Int32) (_ : Unit) => r = res) (fun _ => gO D A (GW L y ad σ)) A) args s 0 0 A) (F0 m 5 ls [])) {H : Heap} {locs : List Loc} {ls : Array Slot} (hY : gY D y A s L ad σ H locs) (hl : lv_has ls 7 [(0, .ref (ad 1)), (1, .long x1), (4, .int x4)]) (h : fX4_nextOf_86 N rec5 σ x1 x4 = some res) : W p l e ({ frames := 1, cells := 0, slots := 0, locals := 22 } : Room) s m args below meth c H locs 0 0 (MQ below (va_Qi (fun (r : Int32) (_ : Unit) => r = res) (fun _ => gO D A (GW L y ad σ)) A) args s 0 0 A) (F0 m 86 ls []) := by
  unfold fX4_nextOf_86 at h
  refine lv_iload hx hb dX4_nextOf_86 (lv_at hl 2 rfl) ?_
  refine lv_istore_n (lv' := [(3, .int x4), (0, .ref (ad 1)), (1, .long x1), (4, .int x4)]) hx hb dX4_nextOf_88 rfl hl (by decide) rfl ?_
  clear hl
  intro ls hl
  exact wX4_nextOf_89 hx hb hr hml hown hg hlocks hK hA hL hrec5 hY (lv_sub hl [1, 2, 0, 3] rfl) h
def fX4_nextOf_61 (N : Nat) (rec5 : (Int32 × Int32) → Option Int32) (σ : gS) (x1 : Int64) (x3 : Int32) (x4 : Int32) (r5 : Nat) (xs0 : Int32) : Option Int32 := if xs0 = 0 then (fX4_nextOf_89 N rec5 σ x1 x3 x4) else (if x3 = (-1) then (fX4_nextOf_86 N rec5 σ x1 x4) else ((fX2_at N σ x3).bind fun r_3 => (fX1_isAheadOf N σ r5 r_3).bind fun r_6 => if r_6 = 0 then (fX4_nextOf_89 N rec5 σ x1 x3 x4) else (fX4_nextOf_86 N rec5 σ x1 x4)))
set_option maxRecDepth 100000 in
set_option maxHeartbeats 4000000 in
theorem wX4_nextOf_61 {rec5 : (Int32 × Int32) → Option Int32} {σ : gS} {x1 : Int64} {x3 : Int32} {x4 : Int32} {r5 : Nat} {xs0 : Int32} (hx : p.tables.exec = Jvm.exec) (hb : c.code = cX4_nextOf) (hr : meth.sig.returnType = (some .int)) (hml : c.maxLocals = 7) (hown : s.vm.findClass RX4 = some m.cls) (hg : ∀ w ∈ wsL_law, w.before args s = true) (hlocks : meth.locks = false) (hK : gK D y aS s) (hA : ∀ q, s.heap.size ≤ q → A q) (hL : ∀ k, k < 179 → k ∈ L) (hrec5 : ∀ {x3n9 : Int32} {x4n9 : Int32} (H : Heap) (locs : List Loc) (ls : Array Slot), gY D y A s L ad σ H locs → lv_has ls 7 [(0, .ref (ad 1)), (1, .long x1), (3, .int x3n9), (4, .int x4n9)] → rec5 (x3n9, x4n9) = some res → W p l e ({ frames := 1, cells := 0, slots := 0, locals := 22 } : Room) s m args below meth c H locs 0 0 (MQ below (va_Qi (fun (r : Int32) (_ : Unit) => r = res) (fun _ => gO D A (GW L y ad σ)) A) args s 0 0 A) (F0 m 5 ls [])) (hr5 : gcl r5 = 1) {H : Heap} {locs : List Loc} {ls : Array Slot} (hY : gY D y A s L ad σ H locs) (hl : lv_has ls 7 [(0, .ref (ad 1)), (1, .long x1), (3, .int x3), (4, .int x4), (5, .ref (ad r5))]) (h : fX4_nextOf_61 N rec5 σ x1 x3 x4 r5 xs0 = some res) : W p l e ({ frames := 1, cells := 0, slots := 0, locals := 22 } : Room) s m args below meth c H locs 0 0 (MQ below (va_Qi (fun (r : Int32) (_ : Unit) => r = res) (fun _ => gO D A (GW L y ad σ)) A) args s 0 0 A) (F0 m 61 ls [.int xs0]) := by
  unfold fX4_nextOf_61 at h
  refine lv_istore (lv' := [(6, .int xs0), (0, .ref (ad 1)), (1, .long x1), (3, .int x3), (4, .int x4), (5, .ref (ad r5))]) hx hb dX4_nextOf_61 hl (by decide) rfl ?_
  clear hl
  intro ls hl
  refine lv_iload hx hb dX4_nextOf_63 (lv_at hl 0 rfl) ?_
  refine lv_if_eq (tgt := 89) hx hb dX4_nextOf_65 (by decide) (fun z_1 => ?_) (fun z_1 => ?_)
  ·
    rw [if_pos z_1] at h
    exact wX4_nextOf_89 hx hb hr hml hown hg hlocks hK hA hL hrec5 hY (lv_sub hl [1, 2, 3, 4] rfl) h
  ·
    rw [if_neg z_1] at h
    refine lv_iload_n hx hb dX4_nextOf_68 rfl (lv_at hl 3 rfl) ?_
    refine lv_iconst (v := (-1)) hx hb dX4_nextOf_69 (by decide) ?_
    refine lv_icmp_eq (tgt := 86) hx hb dX4_nextOf_70 (by decide) (fun z_2 => ?_) (fun z_2 => ?_)
    ·
      rw [if_pos z_2] at h
      exact wX4_nextOf_86 hx hb hr hml hown hg hlocks hK hA hL hrec5 hY (lv_sub hl [1, 2, 4] rfl) h
    ·
      rw [if_neg z_2] at h
      refine lv_aload hx hb dX4_nextOf_73 (lv_at hl 5 rfl) ?_
      refine lv_aload_n hx hb dX4_nextOf_75 rfl (lv_at hl 1 rfl) ?_
      refine lv_iload_n hx hb dX4_nextOf_76 rfl (lv_at hl 3 rfl) ?_
      obtain ⟨r_3, e_4, h⟩ := g_bind h
      refine G_ar hY hA (va_runV (As := [.int x3]) (rest := [.ref (ad r5)]) ⟨hx, hb, hml, hown, hg⟩ (kX2_at l D y aS H.size L hL ad N σ x3 _ e_4) (cwV 1 hg ggV_RX4_56_X2_at rfl rfl rfl (by decide +kernel) ⟨Nat.le_of_ble_eq_true rfl, Nat.le_of_ble_eq_true rfl⟩) (G_pV (q := (RX2, TX2, 5)) hK hY (hL 1 (by decide)) gk_1 (by decide) rfl) rfl rfl hl.1 rfl (lv_room (Nat.le_of_ble_eq_true rfl)) dX4_nextOf_77 ⟨Nat.le_of_ble_eq_true rfl, Nat.le_of_ble_eq_true rfl⟩) ?_
      clear hY
      rintro H locs k_5 hY
      obtain ⟨r_6, e_7, h⟩ := g_bind h
      refine G_ai hY hA (va_runV (As := [.ref (ad r_3)]) (rest := []) ⟨hx, hb, hml, hown, hg⟩ (kX1_isAheadOf l D y aS H.size L hL ad N σ r5 r_3 _ hr5 k_5 e_7) (cwV 1 hg ggV_RX4_65_X1_isAheadOf rfl rfl rfl (by decide +kernel) ⟨Nat.le_of_ble_eq_true rfl, Nat.le_of_ble_eq_true rfl⟩) (G_pV (q := (RX1, TX1, 14)) hK hY (hL _ (gcl_lt hr5 (by decide))) hr5 (by decide) rfl) rfl rfl hl.1 rfl (lv_room (Nat.le_of_ble_eq_true rfl)) dX4_nextOf_80 ⟨Nat.le_of_ble_eq_true rfl, Nat.le_of_ble_eq_true rfl⟩) ?_
      clear hY
      rintro _ H locs rfl hY
      refine lv_if_eq (tgt := 89) hx hb dX4_nextOf_83 (by decide) (fun z_8 => ?_) (fun z_8 => ?_)
      ·
        rw [if_pos z_8] at h
        exact wX4_nextOf_89 hx hb hr hml hown hg hlocks hK hA hL hrec5 hY (lv_sub hl [1, 2, 3, 4] rfl) h
      ·
        rw [if_neg z_8] at h
        exact wX4_nextOf_86 hx hb hr hml hown hg hlocks hK hA hL hrec5 hY (lv_sub hl [1, 2, 4] rfl) h
def fX4_nextOf_60 (N : Nat) (rec5 : (Int32 × Int32) → Option Int32) (σ : gS) (x1 : Int64) (x3 : Int32) (x4 : Int32) (r5 : Nat) : Option Int32 := fX4_nextOf_61 N rec5 σ x1 x3 x4 r5 0
set_option maxRecDepth 100000 in
set_option maxHeartbeats 4000000 in
theorem wX4_nextOf_60 {rec5 : (Int32 × Int32) → Option Int32} {σ : gS} {x1 : Int64} {x3 : Int32} {x4 : Int32} {r5 : Nat} (hx : p.tables.exec = Jvm.exec) (hb : c.code = cX4_nextOf) (hr : meth.sig.returnType = (some .int)) (hml : c.maxLocals = 7) (hown : s.vm.findClass RX4 = some m.cls) (hg : ∀ w ∈ wsL_law, w.before args s = true) (hlocks : meth.locks = false) (hK : gK D y aS s) (hA : ∀ q, s.heap.size ≤ q → A q) (hL : ∀ k, k < 179 → k ∈ L) (hrec5 : ∀ {x3n9 : Int32} {x4n9 : Int32} (H : Heap) (locs : List Loc) (ls : Array Slot), gY D y A s L ad σ H locs → lv_has ls 7 [(0, .ref (ad 1)), (1, .long x1), (3, .int x3n9), (4, .int x4n9)] → rec5 (x3n9, x4n9) = some res → W p l e ({ frames := 1, cells := 0, slots := 0, locals := 22 } : Room) s m args below meth c H locs 0 0 (MQ below (va_Qi (fun (r : Int32) (_ : Unit) => r = res) (fun _ => gO D A (GW L y ad σ)) A) args s 0 0 A) (F0 m 5 ls [])) (hr5 : gcl r5 = 1) {H : Heap} {locs : List Loc} {ls : Array Slot} (hY : gY D y A s L ad σ H locs) (hl : lv_has ls 7 [(0, .ref (ad 1)), (1, .long x1), (3, .int x3), (4, .int x4), (5, .ref (ad r5))]) (h : fX4_nextOf_60 N rec5 σ x1 x3 x4 r5 = some res) : W p l e ({ frames := 1, cells := 0, slots := 0, locals := 22 } : Room) s m args below meth c H locs 0 0 (MQ below (va_Qi (fun (r : Int32) (_ : Unit) => r = res) (fun _ => gO D A (GW L y ad σ)) A) args s 0 0 A) (F0 m 60 ls []) := by
  unfold fX4_nextOf_60 at h
  refine lv_iconst (v := 0) hx hb dX4_nextOf_60 (by decide) ?_
  exact wX4_nextOf_61 hx hb hr hml hown hg hlocks hK hA hL hrec5 hr5 hY (lv_sub hl [0, 1, 2, 3, 4] rfl) h
def fX4_nextOf_56 (N : Nat) (rec5 : (Int32 × Int32) → Option Int32) (σ : gS) (x1 : Int64) (x3 : Int32) (x4 : Int32) (r5 : Nat) : Option Int32 := fX4_nextOf_61 N rec5 σ x1 x3 x4 r5 1
set_option maxRecDepth 100000 in
set_option maxHeartbeats 4000000 in
theorem wX4_nextOf_56 {rec5 : (Int32 × Int32) → Option Int32} {σ : gS} {x1 : Int64} {x3 : Int32} {x4 : Int32} {r5 : Nat} (hx : p.tables.exec = Jvm.exec) (hb : c.code = cX4_nextOf) (hr : meth.sig.returnType = (some .int)) (hml : c.maxLocals = 7) (hown : s.vm.findClass RX4 = some m.cls) (hg : ∀ w ∈ wsL_law, w.before args s = true) (hlocks : meth.locks = false) (hK : gK D y aS s) (hA : ∀ q, s.heap.size ≤ q → A q) (hL : ∀ k, k < 179 → k ∈ L) (hrec5 : ∀ {x3n9 : Int32} {x4n9 : Int32} (H : Heap) (locs : List Loc) (ls : Array Slot), gY D y A s L ad σ H locs → lv_has ls 7 [(0, .ref (ad 1)), (1, .long x1), (3, .int x3n9), (4, .int x4n9)] → rec5 (x3n9, x4n9) = some res → W p l e ({ frames := 1, cells := 0, slots := 0, locals := 22 } : Room) s m args below meth c H locs 0 0 (MQ below (va_Qi (fun (r : Int32) (_ : Unit) => r = res) (fun _ => gO D A (GW L y ad σ)) A) args s 0 0 A) (F0 m 5 ls [])) (hr5 : gcl r5 = 1) {H : Heap} {locs : List Loc} {ls : Array Slot} (hY : gY D y A s L ad σ H locs) (hl : lv_has ls 7 [(0, .ref (ad 1)), (1, .long x1), (3, .int x3), (4, .int x4), (5, .ref (ad r5))]) (h : fX4_nextOf_56 N rec5 σ x1 x3 x4 r5 = some res) : W p l e ({ frames := 1, cells := 0, slots := 0, locals := 22 } : Room) s m args below meth c H locs 0 0 (MQ below (va_Qi (fun (r : Int32) (_ : Unit) => r = res) (fun _ => gO D A (GW L y ad σ)) A) args s 0 0 A) (F0 m 56 ls []) := by
  unfold fX4_nextOf_56 at h
  refine lv_iconst (v := 1) hx hb dX4_nextOf_56 (by decide) ?_
  refine lv_goto (tgt := 61) hx hb dX4_nextOf_57 (by decide) ?_
  exact wX4_nextOf_61 hx hb hr hml hown hg hlocks hK hA hL hrec5 hr5 hY (lv_sub hl [0, 1, 2, 3, 4] rfl) h
def fX4_nextOf_5 (N : Nat) (σ : gS) (x1 : Int64) (rec5 : (Int32 × Int32) → Option Int32) (xx : Int32 × Int32) : Option Int32 := match xx with
  | (x3, x4) => if (σ.1 1 4) ≤ x4 then (some x3) else ((fX2_at N σ x4).bind fun r_2 => if (lg_cmp (((x1.toUInt64 >>> (x4.toInt64.toUInt64 &&& Int64.toUInt64 63)).toInt64) &&& 1) 0) = 0 then (fX4_nextOf_60 N rec5 σ x1 x3 x4 r_2) else (if (σ.1 r_2 2) = (-1) then (fX4_nextOf_56 N rec5 σ x1 x3 x4 r_2) else (if (lg_cmp (((x1.toUInt64 >>> ((σ.1 r_2 2).toInt64.toUInt64 &&& Int64.toUInt64 63)).toInt64) &&& 1) 0) = 0 then (fX4_nextOf_56 N rec5 σ x1 x3 x4 r_2) else (fX4_nextOf_60 N rec5 σ x1 x3 x4 r_2))))
set_option maxRecDepth 100000 in
set_option maxHeartbeats 4000000 in
theorem wX4_nextOf_5 {σ : gS} {x1 : Int64} (hx : p.tables.exec = Jvm.exec) (hb : c.code = cX4_nextOf) (hr : meth.sig.returnType = (some .int)) (hml : c.maxLocals = 7) (hown : s.vm.findClass RX4 = some m.cls) (hg : ∀ w ∈ wsL_law, w.before args s = true) (hlocks : meth.locks = false) (hK : gK D y aS s) (hA : ∀ q, s.heap.size ≤ q → A q) (hL : ∀ k, k < 179 → k ∈ L) : ∀ (n : Nat) {x3 : Int32} {x4 : Int32} (H : Heap) (locs : List Loc) (ls : Array Slot), gY D y A s L ad σ H locs → lv_has ls 7 [(0, .ref (ad 1)), (1, .long x1), (3, .int x3), (4, .int x4)] → lp (fX4_nextOf_5 N σ x1) n (x3, x4) = some res → W p l e ({ frames := 1, cells := 0, slots := 0, locals := 22 } : Room) s m args below meth c H locs 0 0 (MQ below (va_Qi (fun (r : Int32) (_ : Unit) => r = res) (fun _ => gO D A (GW L y ad σ)) A) args s 0 0 A) (F0 m 5 ls []) := by
  intro n
  induction n with
  | zero => intro x3 x4 H locs ls hY hl h; exact nomatch (show none = some res from h)
  | succ n hrec5 =>
    intro x3 x4 H locs ls hY hl h
    replace h : fX4_nextOf_5 N σ x1 (lp (fX4_nextOf_5 N σ x1) n) (x3, x4) = some res := h
    generalize lp (fX4_nextOf_5 N σ x1) n = rec5 at h hrec5
    unfold fX4_nextOf_5 at h
    try dsimp only at h
    refine lv_iload hx hb dX4_nextOf_5 (lv_at hl 3 rfl) ?_
    refine lv_aload_n hx hb dX4_nextOf_7 rfl (lv_at hl 0 rfl) ?_
    refine G_get (ci := 2) (j := 4) (C := RX2) (T := TX2) (N := 5) (v := .int (σ.1 1 4)) hx hb hg inlX2 hown hK hY (hL 1 (by decide)) gk_1 (by decide) rfl (by decide) tX2_4 (hg _ gw_243) rfl dX4_nextOf_8 ?_
    refine lv_icmp_ge (tgt := 95) hx hb dX4_nextOf_11 (by decide) (fun z_1 => ?_) (fun z_1 => ?_)
    ·
      rw [if_pos z_1] at h
      refine lv_iload_n hx hb dX4_nextOf_95 rfl (lv_at hl 2 rfl) ?_
      cases h
      exact g_iret hx hb hr hlocks () hY.1 hY.2.1 hY.2.2 rfl rfl (Nat.le_of_ble_eq_true rfl) (Nat.le_of_ble_eq_true rfl) dX4_nextOf_96
    ·
      rw [if_neg z_1] at h
      refine lv_aload_n hx hb dX4_nextOf_14 rfl (lv_at hl 0 rfl) ?_
      refine lv_iload hx hb dX4_nextOf_15 (lv_at hl 3 rfl) ?_
      obtain ⟨r_2, e_3, h⟩ := g_bind h
      refine G_ar hY hA (va_runV (As := [.int x4]) (rest := []) ⟨hx, hb, hml, hown, hg⟩ (kX2_at l D y aS H.size L hL ad N σ x4 _ e_3) (cwV 1 hg ggV_RX4_56_X2_at rfl rfl rfl (by decide +kernel) ⟨Nat.le_of_ble_eq_true rfl, Nat.le_of_ble_eq_true rfl⟩) (G_pV (q := (RX2, TX2, 5)) hK hY (hL 1 (by decide)) gk_1 (by decide) rfl) rfl rfl hl.1 rfl (lv_room (Nat.le_of_ble_eq_true rfl)) dX4_nextOf_17 ⟨Nat.le_of_ble_eq_true rfl, Nat.le_of_ble_eq_true rfl⟩) ?_
      clear hY
      rintro H locs k_4 hY
      refine lv_astore (lv' := [(5, .ref (ad r_2)), (0, .ref (ad 1)), (1, .long x1), (3, .int x3), (4, .int x4)]) hx hb dX4_nextOf_20 hl (by decide) rfl ?_
      clear hl
      intro ls hl
      refine lv_lload_n hx hb dX4_nextOf_22 rfl (lv_at hl 2 rfl) ?_
      refine lv_iload hx hb dX4_nextOf_23 (lv_at hl 4 rfl) ?_
      refine lv_lushr (v := ((x1.toUInt64 >>> (x4.toInt64.toUInt64 &&& Int64.toUInt64 63)).toInt64)) hx hb dX4_nextOf_25 rfl ?_
      refine lv_lconst (v := 1) hx hb dX4_nextOf_26 (by decide) ?_
      refine lv_land hx hb dX4_nextOf_27 ?_
      refine lv_lconst (v := 0) hx hb dX4_nextOf_28 (by decide) ?_
      refine W.lcmp hx hb dX4_nextOf_29 ?_
      refine lv_if_eq (tgt := 60) hx hb dX4_nextOf_30 (by decide) (fun z_5 => ?_) (fun z_5 => ?_)
      ·
        rw [if_pos z_5] at h
        exact wX4_nextOf_60 hx hb hr hml hown hg hlocks hK hA hL hrec5 k_4 hY (lv_sub hl [1, 2, 3, 4, 0] rfl) h
      ·
        rw [if_neg z_5] at h
        refine lv_aload hx hb dX4_nextOf_33 (lv_at hl 0 rfl) ?_
        refine G_get (ci := 1) (j := 2) (C := RX1) (T := TX1) (N := 14) (v := .int (σ.1 r_2 2)) hx hb hg inlX1 hown hK hY (hL _ (gcl_lt k_4 (by decide))) k_4 (by decide) rfl (by decide) tX1_2 (hg _ gw_244) rfl dX4_nextOf_35 ?_
        refine lv_iconst (v := (-1)) hx hb dX4_nextOf_38 (by decide) ?_
        refine lv_icmp_eq (tgt := 56) hx hb dX4_nextOf_39 (by decide) (fun z_6 => ?_) (fun z_6 => ?_)
        ·
          rw [if_pos z_6] at h
          exact wX4_nextOf_56 hx hb hr hml hown hg hlocks hK hA hL hrec5 k_4 hY (lv_sub hl [1, 2, 3, 4, 0] rfl) h
        ·
          rw [if_neg z_6] at h
          refine lv_lload_n hx hb dX4_nextOf_42 rfl (lv_at hl 2 rfl) ?_
          refine lv_aload hx hb dX4_nextOf_43 (lv_at hl 0 rfl) ?_
          refine G_get (ci := 1) (j := 2) (C := RX1) (T := TX1) (N := 14) (v := .int (σ.1 r_2 2)) hx hb hg inlX1 hown hK hY (hL _ (gcl_lt k_4 (by decide))) k_4 (by decide) rfl (by decide) tX1_2 (hg _ gw_244) rfl dX4_nextOf_45 ?_
          refine lv_lushr (v := ((x1.toUInt64 >>> ((σ.1 r_2 2).toInt64.toUInt64 &&& Int64.toUInt64 63)).toInt64)) hx hb dX4_nextOf_48 rfl ?_
          refine lv_lconst (v := 1) hx hb dX4_nextOf_49 (by decide) ?_
          refine lv_land hx hb dX4_nextOf_50 ?_
          refine lv_lconst (v := 0) hx hb dX4_nextOf_51 (by decide) ?_
          refine W.lcmp hx hb dX4_nextOf_52 ?_
          refine lv_if_ne (tgt := 60) hx hb dX4_nextOf_53 (by decide) (fun z_7 => ?_) (fun z_7 => ?_)
          ·
            rw [if_neg z_7] at h
            exact wX4_nextOf_60 hx hb hr hml hown hg hlocks hK hA hL hrec5 k_4 hY (lv_sub hl [1, 2, 3, 4, 0] rfl) h
          ·
            rw [if_pos z_7] at h
            exact wX4_nextOf_56 hx hb hr hml hown hg hlocks hK hA hL hrec5 k_4 hY (lv_sub hl [1, 2, 3, 4, 0] rfl) h
end
def fX4_nextOf (N : Nat) (σ : gS) (x1 : Int64) : Option Int32 := lp (fX4_nextOf_5 N σ x1) N ((-1), 0)
set_option maxRecDepth 100000 in
set_option maxHeartbeats 4000000 in
theorem kX4_nextOf (l : Launch) (D : va_G) (y : Nat → ClassId) (aS : Nat → Nat) (sz : Nat) (L : List Nat) (hL : ∀ k, k < 179 → k ∈ L) (ad : Nat → Nat) (N : Nat) (σ : gS) (x1 : Int64) (res : Int32) (h : fX4_nextOf N σ x1 = some res) : Met l yX4_nextOf (Cond.code yX4_nextOf cX4_nextOf 7 (some .int) :: wsL_law) ({ frames := 1, cells := 0, slots := 0, locals := 22 } : Room) (va_Pc [.ref (ad 1), .long x1] (gI D y aS (GW L y ad σ) sz)) (va_Qi (fun (r : Int32) (_ : Unit) => r = res) (fun _ => gO D (va_A (GW L y ad σ) sz) (GW L y ad σ)) (va_A (GW L y ad σ) sz)) 0 0 (va_A (GW L y ad σ) sz) := by
  refine g_of (by decide) (Nat.le_of_ble_eq_true rfl) ?_
  intro p e s m below meth c ls A hx hb hr hml hown hg hlocks hin hsz hK hP hD hS hA hAe hl
  rw [← hAe]
  replace hown : s.vm.findClass RX4 = some m.cls := hown
  have hY : gY D y A s L ad σ s.heap [] := ⟨hP, hD, hS⟩
  clear hP hD hS
  replace hl : lv_has ls 7 [(0, .ref (ad 1)), (1, .long x1)] := hl
  unfold fX4_nextOf at h
  refine lv_iconst (v := (-1)) hx hb dX4_nextOf_0 (by decide) ?_
  refine lv_istore_n (lv' := [(3, .int (-1)), (0, .ref (ad 1)), (1, .long x1)]) hx hb dX4_nextOf_1 rfl hl (by decide) rfl ?_
  clear hl
  intro ls hl
  refine lv_iconst (v := 0) hx hb dX4_nextOf_2 (by decide) ?_
  refine lv_istore (lv' := [(4, .int 0), (3, .int (-1)), (0, .ref (ad 1)), (1, .long x1)]) hx hb dX4_nextOf_3 hl (by decide) rfl ?_
  clear hl
  intro ls hl
  exact wX4_nextOf_5 hx hb hr hml hown hg hlocks hK hA hL N _ _ _ hY (lv_sub hl [2, 3, 1, 0] rfl) h
theorem ggS_RX4_45_X4_nextOf : GoodIn wsL_law (va_wsS RX4 45 yX4_nextOf (Cond.code yX4_nextOf cX4_nextOf 7 (some .int) :: wsL_law)) := g_gi (fun _ h => h) gW_good (List.forall_mem_cons.mpr ⟨⟨gw_240, rfl⟩, List.forall_mem_cons.mpr ⟨⟨gw_241, rfl⟩, List.forall_mem_cons.mpr ⟨⟨gw_27, rfl⟩, fun _ h => nomatch h⟩⟩⟩) ⟨gw_242, rfl⟩
theorem ggV_RX4_49_X8_add : GoodIn wsL_law (wsV RX4 49 RX8 yX8_add (Cond.code yX8_add cX8_add 3 none :: wsL_law)) := g_gi (fun _ h => h) gW_good (List.forall_mem_cons.mpr ⟨⟨gw_253, rfl⟩, List.forall_mem_cons.mpr ⟨⟨gw_151, rfl⟩, List.forall_mem_cons.mpr ⟨⟨gw_152, rfl⟩, List.forall_mem_cons.mpr ⟨⟨gw_48, rfl⟩, fun _ h => nomatch h⟩⟩⟩⟩) ⟨gw_153, rfl⟩
theorem ggV_RX4_39_X2_onesThatAre : GoodIn wsL_law (wsV RX4 39 RX2 yX2_onesThatAre (Cond.code yX2_onesThatAre cX2_onesThatAre 5 (some .long) :: wsL_law)) := g_gi (fun _ h => h) gW_good (List.forall_mem_cons.mpr ⟨⟨gw_233, rfl⟩, List.forall_mem_cons.mpr ⟨⟨gw_234, rfl⟩, List.forall_mem_cons.mpr ⟨⟨gw_235, rfl⟩, List.forall_mem_cons.mpr ⟨⟨gw_15, rfl⟩, fun _ h => nomatch h⟩⟩⟩⟩) ⟨gw_236, rfl⟩
section
variable {p : Program} {l : Launch} {e : Env} {s : State} {m : MethodId} {args : Array Value} {below : List Frame} {meth : Method} {c : Code} {D : va_G} {y : Nat → ClassId} {aS : Nat → Nat} {A : Nat → Prop} {L : List Nat} {ad : Nat → Nat} {N : Nat} {res : gS}
def fX4_putInOrder_71 (N : Nat) (σ : gS) : Option gS := some σ
set_option maxRecDepth 100000 in
set_option maxHeartbeats 4000000 in
theorem wX4_putInOrder_71 {σ : gS} (hx : p.tables.exec = Jvm.exec) (hb : c.code = cX4_putInOrder) (hr : meth.sig.returnType = none) (hml : c.maxLocals = 6) (hown : s.vm.findClass RX4 = some m.cls) (hg : ∀ w ∈ wsL_law, w.before args s = true) (hlocks : meth.locks = false) (hK : gK D y aS s) (hA : ∀ q, s.heap.size ≤ q → A q) (hL : ∀ k, k < 179 → k ∈ L) {H : Heap} {locs : List Loc} {ls : Array Slot} (hY : gY D y A s L ad σ H locs) (hl : lv_has ls 6 []) (h : fX4_putInOrder_71 N σ = some res) : W p l e ({ frames := 2, cells := 0, slots := 0, locals := 48 } : Room) s m args below meth c H locs 0 0 (MQ below (va_Qv (fun (_ : Unit) => True) (fun _ => gO D A (GW L y ad res)) A) args s 0 0 A) (F0 m 71 ls []) := by
  unfold fX4_putInOrder_71 at h
  cases h
  exact g_vret hx hb hr hlocks () hY.1 hY.2.1 hY.2.2 trivial (Nat.le_of_ble_eq_true rfl) (Nat.le_of_ble_eq_true rfl) dX4_putInOrder_71
def fX4_putInOrder_17 (N : Nat) (rec17 : (gS × Int64 × Int32) → Option gS) (xx : gS × Int64 × Int32) : Option gS := match xx with
  | (σ, x2, x4) => if 60 ≤ x4 then (fX4_putInOrder_71 N σ) else (if (lg_cmp x2 0) = 0 then (fX4_putInOrder_71 N σ) else ((fX4_nextOf N σ x2).bind fun r_3 => if r_3 = (-1) then (some σ) else ((fX8_add N σ 110 (r_3.toInt64)).bind fun r_6 => rec17 (r_6, (x2 &&& ((((1 : Int64) <<< (r_3.toInt64 &&& 63))) ^^^ (-1))), (x4 + 1)))))
set_option maxRecDepth 100000 in
set_option maxHeartbeats 4000000 in
theorem wX4_putInOrder_17 (hx : p.tables.exec = Jvm.exec) (hb : c.code = cX4_putInOrder) (hr : meth.sig.returnType = none) (hml : c.maxLocals = 6) (hown : s.vm.findClass RX4 = some m.cls) (hg : ∀ w ∈ wsL_law, w.before args s = true) (hlocks : meth.locks = false) (hK : gK D y aS s) (hA : ∀ q, s.heap.size ≤ q → A q) (hL : ∀ k, k < 179 → k ∈ L) : ∀ (n : Nat) {σ : gS} {x2 : Int64} {x4 : Int32} (H : Heap) (locs : List Loc) (ls : Array Slot), gY D y A s L ad σ H locs → lv_has ls 6 [(0, .ref (ad 109)), (1, .ref (ad 1)), (2, .long x2), (4, .int x4)] → lp (fX4_putInOrder_17 N) n (σ, x2, x4) = some res → W p l e ({ frames := 2, cells := 0, slots := 0, locals := 48 } : Room) s m args below meth c H locs 0 0 (MQ below (va_Qv (fun (_ : Unit) => True) (fun _ => gO D A (GW L y ad res)) A) args s 0 0 A) (F0 m 17 ls []) := by
  intro n
  induction n with
  | zero => intro σ x2 x4 H locs ls hY hl h; exact nomatch (show none = some res from h)
  | succ n hrec17 =>
    intro σ x2 x4 H locs ls hY hl h
    replace h : fX4_putInOrder_17 N (lp (fX4_putInOrder_17 N) n) (σ, x2, x4) = some res := h
    generalize lp (fX4_putInOrder_17 N) n = rec17 at h hrec17
    unfold fX4_putInOrder_17 at h
    try dsimp only at h
    refine lv_iload hx hb dX4_putInOrder_17 (lv_at hl 3 rfl) ?_
    refine lv_bipush (v := 60) hx hb dX4_putInOrder_19 (by decide +kernel) ?_
    refine lv_icmp_ge (tgt := 71) hx hb dX4_putInOrder_21 (by decide) (fun z_1 => ?_) (fun z_1 => ?_)
    ·
      rw [if_pos z_1] at h
      exact wX4_putInOrder_71 hx hb hr hml hown hg hlocks hK hA hL hY (lv_sub hl [] rfl) h
    ·
      rw [if_neg z_1] at h
      refine lv_lload_n hx hb dX4_putInOrder_24 rfl (lv_at hl 2 rfl) ?_
      refine lv_lconst (v := 0) hx hb dX4_putInOrder_25 (by decide) ?_
      refine W.lcmp hx hb dX4_putInOrder_26 ?_
      refine lv_if_eq (tgt := 71) hx hb dX4_putInOrder_27 (by decide) (fun z_2 => ?_) (fun z_2 => ?_)
      ·
        rw [if_pos z_2] at h
        exact wX4_putInOrder_71 hx hb hr hml hown hg hlocks hK hA hL hY (lv_sub hl [] rfl) h
      ·
        rw [if_neg z_2] at h
        refine lv_aload_n hx hb dX4_putInOrder_30 rfl (lv_at hl 1 rfl) ?_
        refine lv_lload_n hx hb dX4_putInOrder_31 rfl (lv_at hl 2 rfl) ?_
        obtain ⟨r_3, e_4, h⟩ := g_bind h
        refine G_ai hY hA (va_runS (As := [.ref (ad 1), .long x2]) (rest := []) ⟨hx, hb, hml, hown, hg⟩ (kX4_nextOf l D y aS H.size L hL ad N σ x2 _ e_4) (va_cwS 2 hg ggS_RX4_45_X4_nextOf rfl rfl rfl (by decide +kernel) ⟨Nat.le_of_ble_eq_true rfl, Nat.le_of_ble_eq_true rfl⟩) (G_pS hK hY) rfl rfl hl.1 rfl (lv_room (Nat.le_of_ble_eq_true rfl)) dX4_putInOrder_32 ⟨Nat.le_of_ble_eq_true rfl, Nat.le_of_ble_eq_true rfl⟩) ?_
        clear hY
        rintro _ H locs rfl hY
        refine lv_istore (lv' := [(5, .int r_3), (0, .ref (ad 109)), (1, .ref (ad 1)), (2, .long x2), (4, .int x4)]) hx hb dX4_putInOrder_35 hl (by decide) rfl ?_
        clear hl
        intro ls hl
        refine lv_iload hx hb dX4_putInOrder_37 (lv_at hl 0 rfl) ?_
        refine lv_iconst (v := (-1)) hx hb dX4_putInOrder_39 (by decide) ?_
        refine lv_icmp_ne (tgt := 44) hx hb dX4_putInOrder_40 (by decide) (fun z_5 => ?_) (fun z_5 => ?_)
        ·
          rw [if_neg z_5] at h
          refine lv_aload_n hx hb dX4_putInOrder_44 rfl (lv_at hl 1 rfl) ?_
          refine G_get (ci := 4) (j := 4) (C := RX4) (T := TX4) (N := 9) (v := .ref (ad 110)) hx hb hg inlX4 hown hK hY (hL 109 (by decide)) gk_109 (by decide) rfl (by decide) tX4_4 (hg _ gw_111) rfl dX4_putInOrder_45 ?_
          refine lv_iload hx hb dX4_putInOrder_48 (lv_at hl 0 rfl) ?_
          refine lv_i2l (v := (r_3.toInt64)) hx hb dX4_putInOrder_50 rfl ?_
          obtain ⟨r_6, e_7, h⟩ := g_bind h
          refine G_av hY hA (va_runV (As := [.long (r_3.toInt64)]) (rest := []) ⟨hx, hb, hml, hown, hg⟩ (kX8_add l D y aS H.size L hL ad N σ 110 (r_3.toInt64) _ gk_110 e_7) (cwV 1 hg ggV_RX4_49_X8_add rfl rfl rfl (by decide +kernel) ⟨Nat.le_of_ble_eq_true rfl, Nat.le_of_ble_eq_true rfl⟩) (G_pV (q := (RX8, TX8, 2)) hK hY (hL 110 (by decide)) gk_110 (by decide) rfl) rfl rfl hl.1 rfl (lv_room (Nat.le_of_ble_eq_true rfl)) dX4_putInOrder_51 ⟨Nat.le_of_ble_eq_true rfl, Nat.le_of_ble_eq_true rfl⟩) ?_
          clear hY
          rintro H locs hY
          refine lv_lload_n hx hb dX4_putInOrder_54 rfl (lv_at hl 3 rfl) ?_
          refine lv_lconst (v := 1) hx hb dX4_putInOrder_55 (by decide) ?_
          refine lv_iload hx hb dX4_putInOrder_56 (lv_at hl 0 rfl) ?_
          refine lv_lshl (v := (((1 : Int64) <<< (r_3.toInt64 &&& 63)))) hx hb dX4_putInOrder_58 rfl ?_
          refine lv_ldc2 (v := (-1)) hx hb hown (hg _ gw_232) dX4_putInOrder_59 ?_
          refine lv_lxor hx hb dX4_putInOrder_62 ?_
          refine lv_land hx hb dX4_putInOrder_63 ?_
          refine lv_lstore_n (lv' := [(2, .long (x2 &&& ((((1 : Int64) <<< (r_3.toInt64 &&& 63))) ^^^ (-1)))), (5, .int r_3), (0, .ref (ad 109)), (1, .ref (ad 1)), (4, .int x4)]) hx hb dX4_putInOrder_64 rfl hl (by decide) rfl ?_
          clear hl
          intro ls hl
          refine lv_iinc (v := (x4 + 1)) (lv' := [(4, .int (x4 + 1)), (2, .long (x2 &&& ((((1 : Int64) <<< (r_3.toInt64 &&& 63))) ^^^ (-1)))), (5, .int r_3), (0, .ref (ad 109)), (1, .ref (ad 1))]) hx hb dX4_putInOrder_65 hl (k := 4) rfl rfl (by decide) rfl ?_
          clear hl
          intro ls hl
          refine lv_goto (tgt := 17) hx hb dX4_putInOrder_68 (by decide) ?_
          exact hrec17 _ _ _ hY (lv_sub hl [3, 4, 1, 0] rfl) h
        ·
          rw [if_pos z_5] at h
          cases h
          exact g_vret hx hb hr hlocks () hY.1 hY.2.1 hY.2.2 trivial (Nat.le_of_ble_eq_true rfl) (Nat.le_of_ble_eq_true rfl) dX4_putInOrder_43
end
def fX4_putInOrder (N : Nat) (σ : gS) : Option gS := (fX2_onesThatAre N (sI σ 110 1 0) (1 : Int32)).bind fun r_1 => lp (fX4_putInOrder_17 N) N ((sI σ 110 1 0), r_1, 0)
set_option maxRecDepth 100000 in
set_option maxHeartbeats 4000000 in
theorem kX4_putInOrder (l : Launch) (D : va_G) (y : Nat → ClassId) (aS : Nat → Nat) (sz : Nat) (L : List Nat) (hL : ∀ k, k < 179 → k ∈ L) (ad : Nat → Nat) (N : Nat) (σ : gS) (res : gS) (h : fX4_putInOrder N σ = some res) : Met l yX4_putInOrder (Cond.code yX4_putInOrder cX4_putInOrder 6 none :: wsL_law) ({ frames := 2, cells := 0, slots := 0, locals := 48 } : Room) (va_Pc [.ref (ad 109), .ref (ad 1)] (gI D y aS (GW L y ad σ) sz)) (va_Qv (fun (_ : Unit) => True) (fun _ => gO D (va_A (GW L y ad σ) sz) (GW L y ad res)) (va_A (GW L y ad σ) sz)) 0 0 (va_A (GW L y ad σ) sz) := by
  refine g_of (by decide) (Nat.le_of_ble_eq_true rfl) ?_
  intro p e s m below meth c ls A hx hb hr hml hown hg hlocks hin hsz hK hP hD hS hA hAe hl
  rw [← hAe]
  replace hown : s.vm.findClass RX4 = some m.cls := hown
  have hY : gY D y A s L ad σ s.heap [] := ⟨hP, hD, hS⟩
  clear hP hD hS
  replace hl : lv_has ls 6 [(0, .ref (ad 109)), (1, .ref (ad 1))] := hl
  unfold fX4_putInOrder at h
  refine lv_aload_n hx hb dX4_putInOrder_0 rfl (lv_at hl 0 rfl) ?_
  refine G_get (ci := 4) (j := 4) (C := RX4) (T := TX4) (N := 9) (v := .ref (ad 110)) hx hb hg inlX4 hown hK hY (hL 109 (by decide)) gk_109 (by decide) rfl (by decide) tX4_4 (hg _ gw_111) rfl dX4_putInOrder_1 ?_
  refine lv_iconst (v := 0) hx hb dX4_putInOrder_4 (by decide) ?_
  refine G_putI (ci := 8) (j := 1) (C := RX8) (T := TX8) (N := 2) (v := 0) (ty := .int) hx hb hg inlX8 tyX8 tyX8_ok nmX8 hown hK hY (hL 110 (by decide)) gk_110 (by decide) rfl (by decide) tX8_1 (hg _ gw_231) (by decide +kernel) rfl rfl (fun _ _ => rfl) (fun _ _ => Nat.le_of_ble_eq_true rfl) dX4_putInOrder_5 ?_
  clear hY
  intro H locs hY
  refine lv_aload_n hx hb dX4_putInOrder_8 rfl (lv_at hl 1 rfl) ?_
  refine lv_iconst (v := 1) hx hb dX4_putInOrder_9 (by decide) ?_
  obtain ⟨r_1, e_2, h⟩ := g_bind h
  refine G_al hY hA (va_runV (As := [.int 1]) (rest := []) ⟨hx, hb, hml, hown, hg⟩ (kX2_onesThatAre l D y aS H.size L hL ad N (sI σ 110 1 0) (1 : Int32) _ e_2) (cwV 1 hg ggV_RX4_39_X2_onesThatAre rfl rfl rfl (by decide +kernel) ⟨Nat.le_of_ble_eq_true rfl, Nat.le_of_ble_eq_true rfl⟩) (G_pV (q := (RX2, TX2, 5)) hK hY (hL 1 (by decide)) gk_1 (by decide) rfl) rfl rfl hl.1 rfl (lv_room (Nat.le_of_ble_eq_true rfl)) dX4_putInOrder_10 ⟨Nat.le_of_ble_eq_true rfl, Nat.le_of_ble_eq_true rfl⟩) ?_
  clear hY
  rintro _ H locs rfl hY
  refine lv_lstore_n (lv' := [(2, .long r_1), (0, .ref (ad 109)), (1, .ref (ad 1))]) hx hb dX4_putInOrder_13 rfl hl (by decide) rfl ?_
  clear hl
  intro ls hl
  refine lv_iconst (v := 0) hx hb dX4_putInOrder_14 (by decide) ?_
  refine lv_istore (lv' := [(4, .int 0), (2, .long r_1), (0, .ref (ad 109)), (1, .ref (ad 1))]) hx hb dX4_putInOrder_15 hl (by decide) rfl ?_
  clear hl
  intro ls hl
  exact wX4_putInOrder_17 hx hb hr hml hown hg hlocks hK hA hL N _ _ _ hY (lv_sub hl [2, 3, 1, 0] rfl) h
theorem ggV_RX4_81_X1_standsOn : GoodIn wsL_law (wsV RX4 81 RX1 yX1_standsOn (Cond.code yX1_standsOn cX1_standsOn 3 (some .boolean) :: wsL_law)) := g_gi (fun _ h => h) gW_good (List.forall_mem_cons.mpr ⟨⟨gw_272, rfl⟩, List.forall_mem_cons.mpr ⟨⟨gw_273, rfl⟩, List.forall_mem_cons.mpr ⟨⟨gw_274, rfl⟩, List.forall_mem_cons.mpr ⟨⟨gw_63, rfl⟩, fun _ h => nomatch h⟩⟩⟩⟩) ⟨gw_275, rfl⟩
theorem ggV_RX4_85_X1_fits : GoodIn wsL_law (wsV RX4 85 RX1 yX1_fits (Cond.code yX1_fits cX1_fits 3 (some .boolean) :: wsL_law)) := g_gi (fun _ h => h) gW_good (List.forall_mem_cons.mpr ⟨⟨gw_276, rfl⟩, List.forall_mem_cons.mpr ⟨⟨gw_277, rfl⟩, List.forall_mem_cons.mpr ⟨⟨gw_278, rfl⟩, List.forall_mem_cons.mpr ⟨⟨gw_63, rfl⟩, fun _ h => nomatch h⟩⟩⟩⟩) ⟨gw_279, rfl⟩
theorem ggV_RX4_88_X1_onto : GoodIn wsL_law (wsV RX4 88 RX1 yX1_onto (Cond.code yX1_onto cX1_onto 3 (some .long) :: wsL_law)) := g_gi (fun _ h => h) gW_good (List.forall_mem_cons.mpr ⟨⟨gw_282, rfl⟩, List.forall_mem_cons.mpr ⟨⟨gw_283, rfl⟩, List.forall_mem_cons.mpr ⟨⟨gw_284, rfl⟩, List.forall_mem_cons.mpr ⟨⟨gw_63, rfl⟩, fun _ h => nomatch h⟩⟩⟩⟩) ⟨gw_285, rfl⟩
theorem ggV_RX4_77_X8_whole : GoodIn wsL_law (wsV RX4 77 RX8 yX8_whole (Cond.code yX8_whole cX8_whole 2 (some .int) :: wsL_law)) := g_gi (fun _ h => h) gW_good (List.forall_mem_cons.mpr ⟨⟨gw_271, rfl⟩, List.forall_mem_cons.mpr ⟨⟨gw_214, rfl⟩, List.forall_mem_cons.mpr ⟨⟨gw_215, rfl⟩, List.forall_mem_cons.mpr ⟨⟨gw_48, rfl⟩, fun _ h => nomatch h⟩⟩⟩⟩) ⟨gw_216, rfl⟩
section
variable {p : Program} {l : Launch} {e : Env} {s : State} {m : MethodId} {args : Array Value} {below : List Frame} {meth : Method} {c : Code} {D : va_G} {y : Nat → ClassId} {aS : Nat → Nat} {A : Nat → Prop} {L : List Nat} {ad : Nat → Nat} {N : Nat} {res : (Int64 × gS)}
def fX4_formOne_138 (N : Nat) (σ : gS) (x4 : Int64) : Option (Int64 × gS) := some (x4, σ)
set_option maxRecDepth 100000 in
set_option maxHeartbeats 4000000 in
theorem wX4_formOne_138 {σ : gS} {x4 : Int64} (hx : p.tables.exec = Jvm.exec) (hb : c.code = cX4_formOne) (hr : meth.sig.returnType = (some .long)) (hml : c.maxLocals = 11) (hown : s.vm.findClass RX4 = some m.cls) (hg : ∀ w ∈ wsL_law, w.before args s = true) (hlocks : meth.locks = false) (hK : gK D y aS s) (hA : ∀ q, s.heap.size ≤ q → A q) (hL : ∀ k, k < 179 → k ∈ L) {H : Heap} {locs : List Loc} {ls : Array Slot} (hY : gY D y A s L ad σ H locs) (hl : lv_has ls 11 [(4, .long x4)]) (h : fX4_formOne_138 N σ x4 = some res) : W p l e ({ frames := 1, cells := 0, slots := 0, locals := 22 } : Room) s m args below meth c H locs 0 0 (MQ below (va_Ql (fun (r : Int64) (_ : Unit) => r = res.1) (fun _ => gO D A (GW L y ad res.2)) A) args s 0 0 A) (F0 m 138 ls []) := by
  unfold fX4_formOne_138 at h
  refine lv_lload hx hb dX4_formOne_138 (lv_at hl 0 rfl) ?_
  cases h
  exact g_lret hx hb hr hlocks () hY.1 hY.2.1 hY.2.2 rfl (Nat.le_of_ble_eq_true rfl) (Nat.le_of_ble_eq_true rfl) dX4_formOne_140
def fX4_formOne_132 (N : Nat) (rec9 : (gS × Int64 × Int32 × Int32) → Option (Int64 × gS)) (σ : gS) (x4 : Int64) (x6 : Int32) (x7 : Int32) : Option (Int64 × gS) := rec9 (σ, x4, x6, (x7 + 1))
set_option maxRecDepth 100000 in
set_option maxHeartbeats 4000000 in
theorem wX4_formOne_132 {rec9 : (gS × Int64 × Int32 × Int32) → Option (Int64 × gS)} {σ : gS} {x4 : Int64} {x6 : Int32} {x7 : Int32} (hx : p.tables.exec = Jvm.exec) (hb : c.code = cX4_formOne) (hr : meth.sig.returnType = (some .long)) (hml : c.maxLocals = 11) (hown : s.vm.findClass RX4 = some m.cls) (hg : ∀ w ∈ wsL_law, w.before args s = true) (hlocks : meth.locks = false) (hK : gK D y aS s) (hA : ∀ q, s.heap.size ≤ q → A q) (hL : ∀ k, k < 179 → k ∈ L) (hrec9 : ∀ {σ9 : gS} {x4n9 : Int64} {x6n9 : Int32} {x7n9 : Int32} (H : Heap) (locs : List Loc) (ls : Array Slot), gY D y A s L ad σ9 H locs → lv_has ls 11 [(0, .ref (ad 109)), (1, .ref (ad 1)), (4, .long x4n9), (6, .int x6n9), (7, .int x7n9)] → rec9 (σ9, x4n9, x6n9, x7n9) = some res → W p l e ({ frames := 1, cells := 0, slots := 0, locals := 22 } : Room) s m args below meth c H locs 0 0 (MQ below (va_Ql (fun (r : Int64) (_ : Unit) => r = res.1) (fun _ => gO D A (GW L y ad res.2)) A) args s 0 0 A) (F0 m 9 ls [])) {H : Heap} {locs : List Loc} {ls : Array Slot} (hY : gY D y A s L ad σ H locs) (hl : lv_has ls 11 [(0, .ref (ad 109)), (1, .ref (ad 1)), (4, .long x4), (6, .int x6), (7, .int x7)]) (h : fX4_formOne_132 N rec9 σ x4 x6 x7 = some res) : W p l e ({ frames := 1, cells := 0, slots := 0, locals := 22 } : Room) s m args below meth c H locs 0 0 (MQ below (va_Ql (fun (r : Int64) (_ : Unit) => r = res.1) (fun _ => gO D A (GW L y ad res.2)) A) args s 0 0 A) (F0 m 132 ls []) := by
  unfold fX4_formOne_132 at h
  refine lv_iinc (v := (x7 + 1)) (lv' := [(7, .int (x7 + 1)), (0, .ref (ad 109)), (1, .ref (ad 1)), (4, .long x4), (6, .int x6)]) hx hb dX4_formOne_132 hl (k := 4) rfl rfl (by decide) rfl ?_
  clear hl
  intro ls hl
  refine lv_goto (tgt := 9) hx hb dX4_formOne_135 (by decide) ?_
  exact hrec9 _ _ _ hY (lv_sub hl [1, 2, 3, 4, 0] rfl) h
def fX4_formOne_68 (N : Nat) (rec9 : (gS × Int64 × Int32 × Int32) → Option (Int64 × gS)) (σ : gS) (x4 : Int64) (x6 : Int32) (x7 : Int32) (x8 : Int32) (r9 : Nat) (xs0 : Int32) : Option (Int64 × gS) := if xs0 = 0 then (fX4_formOne_132 N rec9 σ x4 x6 x7) else ((fX1_standsOn N σ r9 (σ.2.1 109 8)).bind fun r_2 => if r_2 = 0 then (fX4_formOne_132 N rec9 σ x4 x6 x7) else ((fX1_fits N σ r9 x4).bind fun r_5 => if r_5 = 0 then (fX4_formOne_132 N rec9 σ x4 x6 x7) else ((fX8_add N σ 112 (x8.toInt64)).bind fun r_8 => (fX1_onto N (sJ r_8 109 8 ((r_8.2.1 109 8) ||| (((1 : Int64) <<< (x8.toInt64 &&& 63))))) r9 x4).bind fun r_10 => fX4_formOne_132 N rec9 (sJ r_8 109 8 ((r_8.2.1 109 8) ||| (((1 : Int64) <<< (x8.toInt64 &&& 63))))) r_10 (x6 + 1) x7)))
set_option maxRecDepth 100000 in
set_option maxHeartbeats 4000000 in
theorem wX4_formOne_68 {rec9 : (gS × Int64 × Int32 × Int32) → Option (Int64 × gS)} {σ : gS} {x4 : Int64} {x6 : Int32} {x7 : Int32} {x8 : Int32} {r9 : Nat} {xs0 : Int32} (hx : p.tables.exec = Jvm.exec) (hb : c.code = cX4_formOne) (hr : meth.sig.returnType = (some .long)) (hml : c.maxLocals = 11) (hown : s.vm.findClass RX4 = some m.cls) (hg : ∀ w ∈ wsL_law, w.before args s = true) (hlocks : meth.locks = false) (hK : gK D y aS s) (hA : ∀ q, s.heap.size ≤ q → A q) (hL : ∀ k, k < 179 → k ∈ L) (hrec9 : ∀ {σ9 : gS} {x4n9 : Int64} {x6n9 : Int32} {x7n9 : Int32} (H : Heap) (locs : List Loc) (ls : Array Slot), gY D y A s L ad σ9 H locs → lv_has ls 11 [(0, .ref (ad 109)), (1, .ref (ad 1)), (4, .long x4n9), (6, .int x6n9), (7, .int x7n9)] → rec9 (σ9, x4n9, x6n9, x7n9) = some res → W p l e ({ frames := 1, cells := 0, slots := 0, locals := 22 } : Room) s m args below meth c H locs 0 0 (MQ below (va_Ql (fun (r : Int64) (_ : Unit) => r = res.1) (fun _ => gO D A (GW L y ad res.2)) A) args s 0 0 A) (F0 m 9 ls [])) (hr9 : gcl r9 = 1) {H : Heap} {locs : List Loc} {ls : Array Slot} (hY : gY D y A s L ad σ H locs) (hl : lv_has ls 11 [(0, .ref (ad 109)), (1, .ref (ad 1)), (4, .long x4), (6, .int x6), (7, .int x7), (8, .int x8), (9, .ref (ad r9))]) (h : fX4_formOne_68 N rec9 σ x4 x6 x7 x8 r9 xs0 = some res) : W p l e ({ frames := 1, cells := 0, slots := 0, locals := 22 } : Room) s m args below meth c H locs 0 0 (MQ below (va_Ql (fun (r : Int64) (_ : Unit) => r = res.1) (fun _ => gO D A (GW L y ad res.2)) A) args s 0 0 A) (F0 m 68 ls [.int xs0]) := by
  unfold fX4_formOne_68 at h
  refine lv_istore (lv' := [(10, .int xs0), (0, .ref (ad 109)), (1, .ref (ad 1)), (4, .long x4), (6, .int x6), (7, .int x7), (8, .int x8), (9, .ref (ad r9))]) hx hb dX4_formOne_68 hl (by decide) rfl ?_
  clear hl
  intro ls hl
  refine lv_iload hx hb dX4_formOne_70 (lv_at hl 0 rfl) ?_
  refine lv_if_eq (tgt := 132) hx hb dX4_formOne_72 (by decide) (fun z_1 => ?_) (fun z_1 => ?_)
  ·
    rw [if_pos z_1] at h
    exact wX4_formOne_132 hx hb hr hml hown hg hlocks hK hA hL hrec9 hY (lv_sub hl [1, 2, 3, 4, 5] rfl) h
  ·
    rw [if_neg z_1] at h
    refine lv_aload hx hb dX4_formOne_75 (lv_at hl 7 rfl) ?_
    refine lv_aload_n hx hb dX4_formOne_77 rfl (lv_at hl 1 rfl) ?_
    refine G_get (ci := 4) (j := 8) (C := RX4) (T := TX4) (N := 9) (v := .long (σ.2.1 109 8)) hx hb hg inlX4 hown hK hY (hL 109 (by decide)) gk_109 (by decide) rfl (by decide) tX4_8 (hg _ gw_266) rfl dX4_formOne_78 ?_
    obtain ⟨r_2, e_3, h⟩ := g_bind h
    refine G_ai hY hA (va_runV (As := [.long (σ.2.1 109 8)]) (rest := []) ⟨hx, hb, hml, hown, hg⟩ (kX1_standsOn l D y aS H.size L hL ad N σ r9 (σ.2.1 109 8) _ hr9 e_3) (cwV 1 hg ggV_RX4_81_X1_standsOn rfl rfl rfl (by decide +kernel) ⟨Nat.le_of_ble_eq_true rfl, Nat.le_of_ble_eq_true rfl⟩) (G_pV (q := (RX1, TX1, 14)) hK hY (hL _ (gcl_lt hr9 (by decide))) hr9 (by decide) rfl) rfl rfl hl.1 rfl (lv_room (Nat.le_of_ble_eq_true rfl)) dX4_formOne_81 ⟨Nat.le_of_ble_eq_true rfl, Nat.le_of_ble_eq_true rfl⟩) ?_
    clear hY
    rintro _ H locs rfl hY
    refine lv_if_eq (tgt := 132) hx hb dX4_formOne_84 (by decide) (fun z_4 => ?_) (fun z_4 => ?_)
    ·
      rw [if_pos z_4] at h
      exact wX4_formOne_132 hx hb hr hml hown hg hlocks hK hA hL hrec9 hY (lv_sub hl [1, 2, 3, 4, 5] rfl) h
    ·
      rw [if_neg z_4] at h
      refine lv_aload hx hb dX4_formOne_87 (lv_at hl 7 rfl) ?_
      refine lv_lload hx hb dX4_formOne_89 (lv_at hl 3 rfl) ?_
      obtain ⟨r_5, e_6, h⟩ := g_bind h
      refine G_ai hY hA (va_runV (As := [.long x4]) (rest := []) ⟨hx, hb, hml, hown, hg⟩ (kX1_fits l D y aS H.size L hL ad N σ r9 x4 _ hr9 e_6) (cwV 1 hg ggV_RX4_85_X1_fits rfl rfl rfl (by decide +kernel) ⟨Nat.le_of_ble_eq_true rfl, Nat.le_of_ble_eq_true rfl⟩) (G_pV (q := (RX1, TX1, 14)) hK hY (hL _ (gcl_lt hr9 (by decide))) hr9 (by decide) rfl) rfl rfl hl.1 rfl (lv_room (Nat.le_of_ble_eq_true rfl)) dX4_formOne_91 ⟨Nat.le_of_ble_eq_true rfl, Nat.le_of_ble_eq_true rfl⟩) ?_
      clear hY
      rintro _ H locs rfl hY
      refine lv_if_eq (tgt := 132) hx hb dX4_formOne_94 (by decide) (fun z_7 => ?_) (fun z_7 => ?_)
      ·
        rw [if_pos z_7] at h
        exact wX4_formOne_132 hx hb hr hml hown hg hlocks hK hA hL hrec9 hY (lv_sub hl [1, 2, 3, 4, 5] rfl) h
      ·
        rw [if_neg z_7] at h
        refine lv_aload_n hx hb dX4_formOne_97 rfl (lv_at hl 1 rfl) ?_
        refine G_get (ci := 4) (j := 5) (C := RX4) (T := TX4) (N := 9) (v := .ref (ad 112)) hx hb hg inlX4 hown hK hY (hL 109 (by decide)) gk_109 (by decide) rfl (by decide) tX4_5 (hg _ gw_112) rfl dX4_formOne_98 ?_
        refine lv_iload hx hb dX4_formOne_101 (lv_at hl 6 rfl) ?_
        refine lv_i2l (v := (x8.toInt64)) hx hb dX4_formOne_103 rfl ?_
        obtain ⟨r_8, e_9, h⟩ := g_bind h
        refine G_av hY hA (va_runV (As := [.long (x8.toInt64)]) (rest := []) ⟨hx, hb, hml, hown, hg⟩ (kX8_add l D y aS H.size L hL ad N σ 112 (x8.toInt64) _ gk_112 e_9) (cwV 1 hg ggV_RX4_49_X8_add rfl rfl rfl (by decide +kernel) ⟨Nat.le_of_ble_eq_true rfl, Nat.le_of_ble_eq_true rfl⟩) (G_pV (q := (RX8, TX8, 2)) hK hY (hL 112 (by decide)) gk_112 (by decide) rfl) rfl rfl hl.1 rfl (lv_room (Nat.le_of_ble_eq_true rfl)) dX4_formOne_104 ⟨Nat.le_of_ble_eq_true rfl, Nat.le_of_ble_eq_true rfl⟩) ?_
        clear hY
        rintro H locs hY
        refine lv_aload_n hx hb dX4_formOne_107 rfl (lv_at hl 1 rfl) ?_
        refine lv_dup hx hb dX4_formOne_108 rfl ?_
        refine G_get (ci := 4) (j := 8) (C := RX4) (T := TX4) (N := 9) (v := .long (r_8.2.1 109 8)) hx hb hg inlX4 hown hK hY (hL 109 (by decide)) gk_109 (by decide) rfl (by decide) tX4_8 (hg _ gw_266) rfl dX4_formOne_109 ?_
        refine lv_lconst (v := 1) hx hb dX4_formOne_112 (by decide) ?_
        refine lv_iload hx hb dX4_formOne_113 (lv_at hl 6 rfl) ?_
        refine lv_lshl (v := (((1 : Int64) <<< (x8.toInt64 &&& 63)))) hx hb dX4_formOne_115 rfl ?_
        refine lv_lor hx hb dX4_formOne_116 ?_
        refine G_putJ (ci := 4) (j := 8) (C := RX4) (T := TX4) (N := 9) (v := ((r_8.2.1 109 8) ||| (((1 : Int64) <<< (x8.toInt64 &&& 63))))) (ty := .long) hx hb hg inlX4 tyX4 tyX4_ok nmX4 hown hK hY (hL 109 (by decide)) gk_109 (by decide) rfl (by decide) tX4_8 (hg _ gw_266) (by decide +kernel) rfl rfl (fun _ _ => rfl) (fun _ _ => Nat.le_of_ble_eq_true rfl) dX4_formOne_117 ?_
        clear hY
        intro H locs hY
        refine lv_aload hx hb dX4_formOne_120 (lv_at hl 7 rfl) ?_
        refine lv_lload hx hb dX4_formOne_122 (lv_at hl 3 rfl) ?_
        obtain ⟨r_10, e_11, h⟩ := g_bind h
        refine G_al hY hA (va_runV (As := [.long x4]) (rest := []) ⟨hx, hb, hml, hown, hg⟩ (kX1_onto l D y aS H.size L hL ad N (sJ r_8 109 8 ((r_8.2.1 109 8) ||| (((1 : Int64) <<< (x8.toInt64 &&& 63))))) r9 x4 _ hr9 e_11) (cwV 1 hg ggV_RX4_88_X1_onto rfl rfl rfl (by decide +kernel) ⟨Nat.le_of_ble_eq_true rfl, Nat.le_of_ble_eq_true rfl⟩) (G_pV (q := (RX1, TX1, 14)) hK hY (hL _ (gcl_lt hr9 (by decide))) hr9 (by decide) rfl) rfl rfl hl.1 rfl (lv_room (Nat.le_of_ble_eq_true rfl)) dX4_formOne_124 ⟨Nat.le_of_ble_eq_true rfl, Nat.le_of_ble_eq_true rfl⟩) ?_
        clear hY
        rintro _ H locs rfl hY
        refine lv_lstore (lv' := [(4, .long r_10), (10, .int xs0), (0, .ref (ad 109)), (1, .ref (ad 1)), (6, .int x6), (7, .int x7), (8, .int x8), (9, .ref (ad r9))]) hx hb dX4_formOne_127 hl (by decide) rfl ?_
        clear hl
        intro ls hl
        refine lv_iinc (v := (x6 + 1)) (lv' := [(6, .int (x6 + 1)), (4, .long r_10), (10, .int xs0), (0, .ref (ad 109)), (1, .ref (ad 1)), (7, .int x7), (8, .int x8), (9, .ref (ad r9))]) hx hb dX4_formOne_129 hl (k := 4) rfl rfl (by decide) rfl ?_
        clear hl
        intro ls hl
        exact wX4_formOne_132 hx hb hr hml hown hg hlocks hK hA hL hrec9 hY (lv_sub hl [3, 4, 1, 0, 5] rfl) h
def fX4_formOne_9 (N : Nat) (rec9 : (gS × Int64 × Int32 × Int32) → Option (Int64 × gS)) (xx : gS × Int64 × Int32 × Int32) : Option (Int64 × gS) := match xx with
  | (σ, x4, x6, x7) => if (σ.1 110 1) ≤ x7 then (fX4_formOne_138 N σ x4) else (if (σ.1 109 0) ≤ x6 then (fX4_formOne_138 N σ x4) else ((fX8_whole N σ 110 x7).bind fun r_3 => (fX2_at N σ r_3).bind fun r_5 => if (lg_cmp ((((σ.2.1 109 8).toUInt64 >>> (r_3.toInt64.toUInt64 &&& Int64.toUInt64 63)).toInt64) &&& 1) 0) = 0 then (fX4_formOne_68 N rec9 σ x4 x6 x7 r_3 r_5 1) else (fX4_formOne_68 N rec9 σ x4 x6 x7 r_3 r_5 0)))
set_option maxRecDepth 100000 in
set_option maxHeartbeats 4000000 in
theorem wX4_formOne_9 (hx : p.tables.exec = Jvm.exec) (hb : c.code = cX4_formOne) (hr : meth.sig.returnType = (some .long)) (hml : c.maxLocals = 11) (hown : s.vm.findClass RX4 = some m.cls) (hg : ∀ w ∈ wsL_law, w.before args s = true) (hlocks : meth.locks = false) (hK : gK D y aS s) (hA : ∀ q, s.heap.size ≤ q → A q) (hL : ∀ k, k < 179 → k ∈ L) : ∀ (n : Nat) {σ : gS} {x4 : Int64} {x6 : Int32} {x7 : Int32} (H : Heap) (locs : List Loc) (ls : Array Slot), gY D y A s L ad σ H locs → lv_has ls 11 [(0, .ref (ad 109)), (1, .ref (ad 1)), (4, .long x4), (6, .int x6), (7, .int x7)] → lp (fX4_formOne_9 N) n (σ, x4, x6, x7) = some res → W p l e ({ frames := 1, cells := 0, slots := 0, locals := 22 } : Room) s m args below meth c H locs 0 0 (MQ below (va_Ql (fun (r : Int64) (_ : Unit) => r = res.1) (fun _ => gO D A (GW L y ad res.2)) A) args s 0 0 A) (F0 m 9 ls []) := by
  intro n
  induction n with
  | zero => intro σ x4 x6 x7 H locs ls hY hl h; exact nomatch (show none = some res from h)
  | succ n hrec9 =>
    intro σ x4 x6 x7 H locs ls hY hl h
    replace h : fX4_formOne_9 N (lp (fX4_formOne_9 N) n) (σ, x4, x6, x7) = some res := h
    generalize lp (fX4_formOne_9 N) n = rec9 at h hrec9
    unfold fX4_formOne_9 at h
    try dsimp only at h
    refine lv_iload hx hb dX4_formOne_9 (lv_at hl 4 rfl) ?_
    refine lv_aload_n hx hb dX4_formOne_11 rfl (lv_at hl 0 rfl) ?_
    refine G_get (ci := 4) (j := 4) (C := RX4) (T := TX4) (N := 9) (v := .ref (ad 110)) hx hb hg inlX4 hown hK hY (hL 109 (by decide)) gk_109 (by decide) rfl (by decide) tX4_4 (hg _ gw_111) rfl dX4_formOne_12 ?_
    refine G_get (ci := 8) (j := 1) (C := RX8) (T := TX8) (N := 2) (v := .int (σ.1 110 1)) hx hb hg inlX8 hown hK hY (hL 110 (by decide)) gk_110 (by decide) rfl (by decide) tX8_1 (hg _ gw_231) rfl dX4_formOne_15 ?_
    refine lv_icmp_ge (tgt := 138) hx hb dX4_formOne_18 (by decide) (fun z_1 => ?_) (fun z_1 => ?_)
    ·
      rw [if_pos z_1] at h
      exact wX4_formOne_138 hx hb hr hml hown hg hlocks hK hA hL hY (lv_sub hl [2] rfl) h
    ·
      rw [if_neg z_1] at h
      refine lv_iload hx hb dX4_formOne_21 (lv_at hl 3 rfl) ?_
      refine lv_aload_n hx hb dX4_formOne_23 rfl (lv_at hl 0 rfl) ?_
      refine G_get (ci := 4) (j := 0) (C := RX4) (T := TX4) (N := 9) (v := .int (σ.1 109 0)) hx hb hg inlX4 hown hK hY (hL 109 (by decide)) gk_109 (by decide) rfl (by decide) tX4_0 (hg _ gw_108) rfl dX4_formOne_24 ?_
      refine lv_icmp_ge (tgt := 138) hx hb dX4_formOne_27 (by decide) (fun z_2 => ?_) (fun z_2 => ?_)
      ·
        rw [if_pos z_2] at h
        exact wX4_formOne_138 hx hb hr hml hown hg hlocks hK hA hL hY (lv_sub hl [2] rfl) h
      ·
        rw [if_neg z_2] at h
        refine lv_aload_n hx hb dX4_formOne_30 rfl (lv_at hl 0 rfl) ?_
        refine G_get (ci := 4) (j := 4) (C := RX4) (T := TX4) (N := 9) (v := .ref (ad 110)) hx hb hg inlX4 hown hK hY (hL 109 (by decide)) gk_109 (by decide) rfl (by decide) tX4_4 (hg _ gw_111) rfl dX4_formOne_31 ?_
        refine lv_iload hx hb dX4_formOne_34 (lv_at hl 4 rfl) ?_
        obtain ⟨r_3, e_4, h⟩ := g_bind h
        refine G_ai hY hA (va_runV (As := [.int x7]) (rest := []) ⟨hx, hb, hml, hown, hg⟩ (kX8_whole l D y aS H.size L hL ad N σ 110 x7 _ gk_110 e_4) (cwV 1 hg ggV_RX4_77_X8_whole rfl rfl rfl (by decide +kernel) ⟨Nat.le_of_ble_eq_true rfl, Nat.le_of_ble_eq_true rfl⟩) (G_pV (q := (RX8, TX8, 2)) hK hY (hL 110 (by decide)) gk_110 (by decide) rfl) rfl rfl hl.1 rfl (lv_room (Nat.le_of_ble_eq_true rfl)) dX4_formOne_36 ⟨Nat.le_of_ble_eq_true rfl, Nat.le_of_ble_eq_true rfl⟩) ?_
        clear hY
        rintro _ H locs rfl hY
        refine lv_istore (lv' := [(8, .int r_3), (0, .ref (ad 109)), (1, .ref (ad 1)), (4, .long x4), (6, .int x6), (7, .int x7)]) hx hb dX4_formOne_39 hl (by decide) rfl ?_
        clear hl
        intro ls hl
        refine lv_aload_n hx hb dX4_formOne_41 rfl (lv_at hl 2 rfl) ?_
        refine lv_iload hx hb dX4_formOne_42 (lv_at hl 0 rfl) ?_
        obtain ⟨r_5, e_6, h⟩ := g_bind h
        refine G_ar hY hA (va_runV (As := [.int r_3]) (rest := []) ⟨hx, hb, hml, hown, hg⟩ (kX2_at l D y aS H.size L hL ad N σ r_3 _ e_6) (cwV 1 hg ggV_RX4_56_X2_at rfl rfl rfl (by decide +kernel) ⟨Nat.le_of_ble_eq_true rfl, Nat.le_of_ble_eq_true rfl⟩) (G_pV (q := (RX2, TX2, 5)) hK hY (hL 1 (by decide)) gk_1 (by decide) rfl) rfl rfl hl.1 rfl (lv_room (Nat.le_of_ble_eq_true rfl)) dX4_formOne_44 ⟨Nat.le_of_ble_eq_true rfl, Nat.le_of_ble_eq_true rfl⟩) ?_
        clear hY
        rintro H locs k_7 hY
        refine lv_astore (lv' := [(9, .ref (ad r_5)), (8, .int r_3), (0, .ref (ad 109)), (1, .ref (ad 1)), (4, .long x4), (6, .int x6), (7, .int x7)]) hx hb dX4_formOne_47 hl (by decide) rfl ?_
        clear hl
        intro ls hl
        refine lv_aload_n hx hb dX4_formOne_49 rfl (lv_at hl 2 rfl) ?_
        refine G_get (ci := 4) (j := 8) (C := RX4) (T := TX4) (N := 9) (v := .long (σ.2.1 109 8)) hx hb hg inlX4 hown hK hY (hL 109 (by decide)) gk_109 (by decide) rfl (by decide) tX4_8 (hg _ gw_266) rfl dX4_formOne_50 ?_
        refine lv_iload hx hb dX4_formOne_53 (lv_at hl 1 rfl) ?_
        refine lv_lushr (v := (((σ.2.1 109 8).toUInt64 >>> (r_3.toInt64.toUInt64 &&& Int64.toUInt64 63)).toInt64)) hx hb dX4_formOne_55 rfl ?_
        refine lv_lconst (v := 1) hx hb dX4_formOne_56 (by decide) ?_
        refine lv_land hx hb dX4_formOne_57 ?_
        refine lv_lconst (v := 0) hx hb dX4_formOne_58 (by decide) ?_
        refine W.lcmp hx hb dX4_formOne_59 ?_
        refine lv_if_ne (tgt := 67) hx hb dX4_formOne_60 (by decide) (fun z_8 => ?_) (fun z_8 => ?_)
        ·
          rw [if_neg z_8] at h
          refine lv_iconst (v := 0) hx hb dX4_formOne_67 (by decide) ?_
          exact wX4_formOne_68 hx hb hr hml hown hg hlocks hK hA hL hrec9 k_7 hY (lv_sub hl [2, 3, 4, 5, 6, 1, 0] rfl) h
        ·
          rw [if_pos z_8] at h
          refine lv_iconst (v := 1) hx hb dX4_formOne_63 (by decide) ?_
          refine lv_goto (tgt := 68) hx hb dX4_formOne_64 (by decide) ?_
          exact wX4_formOne_68 hx hb hr hml hown hg hlocks hK hA hL hrec9 k_7 hY (lv_sub hl [2, 3, 4, 5, 6, 1, 0] rfl) h
end
def fX4_formOne (N : Nat) (σ : gS) (x2 : Int64) : Option (Int64 × gS) := lp (fX4_formOne_9 N) N (σ, x2, 0, 0)
set_option maxRecDepth 100000 in
set_option maxHeartbeats 4000000 in
theorem kX4_formOne (l : Launch) (D : va_G) (y : Nat → ClassId) (aS : Nat → Nat) (sz : Nat) (L : List Nat) (hL : ∀ k, k < 179 → k ∈ L) (ad : Nat → Nat) (N : Nat) (σ : gS) (x2 : Int64) (res : (Int64 × gS)) (h : fX4_formOne N σ x2 = some res) : Met l yX4_formOne (Cond.code yX4_formOne cX4_formOne 11 (some .long) :: wsL_law) ({ frames := 1, cells := 0, slots := 0, locals := 22 } : Room) (va_Pc [.ref (ad 109), .ref (ad 1), .long x2] (gI D y aS (GW L y ad σ) sz)) (va_Ql (fun (r : Int64) (_ : Unit) => r = res.1) (fun _ => gO D (va_A (GW L y ad σ) sz) (GW L y ad res.2)) (va_A (GW L y ad σ) sz)) 0 0 (va_A (GW L y ad σ) sz) := by
  refine g_of (by decide) (Nat.le_of_ble_eq_true rfl) ?_
  intro p e s m below meth c ls A hx hb hr hml hown hg hlocks hin hsz hK hP hD hS hA hAe hl
  rw [← hAe]
  replace hown : s.vm.findClass RX4 = some m.cls := hown
  have hY : gY D y A s L ad σ s.heap [] := ⟨hP, hD, hS⟩
  clear hP hD hS
  replace hl : lv_has ls 11 [(0, .ref (ad 109)), (1, .ref (ad 1)), (2, .long x2)] := hl
  unfold fX4_formOne at h
  refine lv_lload_n hx hb dX4_formOne_0 rfl (lv_at hl 2 rfl) ?_
  refine lv_lstore (lv' := [(4, .long x2), (0, .ref (ad 109)), (1, .ref (ad 1)), (2, .long x2)]) hx hb dX4_formOne_1 hl (by decide) rfl ?_
  clear hl
  intro ls hl
  refine lv_iconst (v := 0) hx hb dX4_formOne_3 (by decide) ?_
  refine lv_istore (lv' := [(6, .int 0), (4, .long x2), (0, .ref (ad 109)), (1, .ref (ad 1)), (2, .long x2)]) hx hb dX4_formOne_4 hl (by decide) rfl ?_
  clear hl
  intro ls hl
  refine lv_iconst (v := 0) hx hb dX4_formOne_6 (by decide) ?_
  refine lv_istore (lv' := [(7, .int 0), (6, .int 0), (4, .long x2), (0, .ref (ad 109)), (1, .ref (ad 1)), (2, .long x2)]) hx hb dX4_formOne_7 hl (by decide) rfl ?_
  clear hl
  intro ls hl
  exact wX4_formOne_9 hx hb hr hml hown hg hlocks hK hA hL N _ _ _ hY (lv_sub hl [3, 4, 2, 1, 0] rfl) h
theorem ggV_RX4_73_X4_formOne : GoodIn wsL_law (wsV RX4 73 RX4 yX4_formOne (Cond.code yX4_formOne cX4_formOne 11 (some .long) :: wsL_law)) := g_gi (fun _ h => h) gW_good (List.forall_mem_cons.mpr ⟨⟨gw_267, rfl⟩, List.forall_mem_cons.mpr ⟨⟨gw_268, rfl⟩, List.forall_mem_cons.mpr ⟨⟨gw_269, rfl⟩, List.forall_mem_cons.mpr ⟨⟨gw_27, rfl⟩, fun _ h => nomatch h⟩⟩⟩⟩) ⟨gw_270, rfl⟩
section
variable {p : Program} {l : Launch} {e : Env} {s : State} {m : MethodId} {args : Array Value} {below : List Frame} {meth : Method} {c : Code} {D : va_G} {y : Nat → ClassId} {aS : Nat → Nat} {A : Nat → Prop} {L : List Nat} {ad : Nat → Nat} {N : Nat} {res : gS}
def fX4_form_115 (N : Nat) (σ : gS) : Option gS := some σ
set_option maxRecDepth 100000 in
set_option maxHeartbeats 4000000 in
theorem wX4_form_115 {σ : gS} (hx : p.tables.exec = Jvm.exec) (hb : c.code = cX4_form) (hr : meth.sig.returnType = none) (hml : c.maxLocals = 8) (hown : s.vm.findClass RX4 = some m.cls) (hg : ∀ w ∈ wsL_law, w.before args s = true) (hlocks : meth.locks = false) (hK : gK D y aS s) (hA : ∀ q, s.heap.size ≤ q → A q) (hL : ∀ k, k < 179 → k ∈ L) {H : Heap} {locs : List Loc} {ls : Array Slot} (hY : gY D y A s L ad σ H locs) (hl : lv_has ls 8 []) (h : fX4_form_115 N σ = some res) : W p l e ({ frames := 2, cells := 0, slots := 0, locals := 52 } : Room) s m args below meth c H locs 0 0 (MQ below (va_Qv (fun (_ : Unit) => True) (fun _ => gO D A (GW L y ad res)) A) args s 0 0 A) (F0 m 115 ls []) := by
  unfold fX4_form_115 at h
  cases h
  exact g_vret hx hb hr hlocks () hY.1 hY.2.1 hY.2.2 trivial (Nat.le_of_ble_eq_true rfl) (Nat.le_of_ble_eq_true rfl) dX4_form_115
def fX4_form_39 (N : Nat) (rec39 : (gS × Int64 × Int32) → Option gS) (xx : gS × Int64 × Int32) : Option gS := match xx with
  | (σ, x4, x6) => if (σ.1 109 1) ≤ x6 then (fX4_form_115 N σ) else (if 4 ≤ x6 then (fX4_form_115 N σ) else ((fX4_formOne N σ x4).bind fun r_3 => if (r_3.2.1 112 1) = (σ.1 112 1) then (some r_3.2) else ((fX8_add N r_3.2 114 ((r_3.2.1 112 1).toInt64)).bind fun r_6 => (fX8_add N r_6 116 r_3.1).bind fun r_8 => rec39 (r_8, r_3.1, (x6 + 1)))))
set_option maxRecDepth 100000 in
set_option maxHeartbeats 4000000 in
theorem wX4_form_39 (hx : p.tables.exec = Jvm.exec) (hb : c.code = cX4_form) (hr : meth.sig.returnType = none) (hml : c.maxLocals = 8) (hown : s.vm.findClass RX4 = some m.cls) (hg : ∀ w ∈ wsL_law, w.before args s = true) (hlocks : meth.locks = false) (hK : gK D y aS s) (hA : ∀ q, s.heap.size ≤ q → A q) (hL : ∀ k, k < 179 → k ∈ L) : ∀ (n : Nat) {σ : gS} {x4 : Int64} {x6 : Int32} (H : Heap) (locs : List Loc) (ls : Array Slot), gY D y A s L ad σ H locs → lv_has ls 8 [(0, .ref (ad 109)), (1, .ref (ad 1)), (4, .long x4), (6, .int x6)] → lp (fX4_form_39 N) n (σ, x4, x6) = some res → W p l e ({ frames := 2, cells := 0, slots := 0, locals := 52 } : Room) s m args below meth c H locs 0 0 (MQ below (va_Qv (fun (_ : Unit) => True) (fun _ => gO D A (GW L y ad res)) A) args s 0 0 A) (F0 m 39 ls []) := by
  intro n
  induction n with
  | zero => intro σ x4 x6 H locs ls hY hl h; exact nomatch (show none = some res from h)
  | succ n hrec39 =>
    intro σ x4 x6 H locs ls hY hl h
    replace h : fX4_form_39 N (lp (fX4_form_39 N) n) (σ, x4, x6) = some res := h
    generalize lp (fX4_form_39 N) n = rec39 at h hrec39
    unfold fX4_form_39 at h
    try dsimp only at h
    refine lv_iload hx hb dX4_form_39 (lv_at hl 3 rfl) ?_
    refine lv_aload_n hx hb dX4_form_41 rfl (lv_at hl 0 rfl) ?_
    refine G_get (ci := 4) (j := 1) (C := RX4) (T := TX4) (N := 9) (v := .int (σ.1 109 1)) hx hb hg inlX4 hown hK hY (hL 109 (by decide)) gk_109 (by decide) rfl (by decide) tX4_1 (hg _ gw_109) rfl dX4_form_42 ?_
    refine lv_icmp_ge (tgt := 115) hx hb dX4_form_45 (by decide) (fun z_1 => ?_) (fun z_1 => ?_)
    ·
      rw [if_pos z_1] at h
      exact wX4_form_115 hx hb hr hml hown hg hlocks hK hA hL hY (lv_sub hl [] rfl) h
    ·
      rw [if_neg z_1] at h
      refine lv_iload hx hb dX4_form_48 (lv_at hl 3 rfl) ?_
      refine lv_iconst (v := 4) hx hb dX4_form_50 (by decide) ?_
      refine lv_icmp_ge (tgt := 115) hx hb dX4_form_51 (by decide) (fun z_2 => ?_) (fun z_2 => ?_)
      ·
        rw [if_pos z_2] at h
        exact wX4_form_115 hx hb hr hml hown hg hlocks hK hA hL hY (lv_sub hl [] rfl) h
      ·
        rw [if_neg z_2] at h
        refine lv_aload_n hx hb dX4_form_54 rfl (lv_at hl 0 rfl) ?_
        refine G_get (ci := 4) (j := 5) (C := RX4) (T := TX4) (N := 9) (v := .ref (ad 112)) hx hb hg inlX4 hown hK hY (hL 109 (by decide)) gk_109 (by decide) rfl (by decide) tX4_5 (hg _ gw_112) rfl dX4_form_55 ?_
        refine G_get (ci := 8) (j := 1) (C := RX8) (T := TX8) (N := 2) (v := .int (σ.1 112 1)) hx hb hg inlX8 hown hK hY (hL 112 (by decide)) gk_112 (by decide) rfl (by decide) tX8_1 (hg _ gw_231) rfl dX4_form_58 ?_
        refine lv_istore (lv' := [(7, .int (σ.1 112 1)), (0, .ref (ad 109)), (1, .ref (ad 1)), (4, .long x4), (6, .int x6)]) hx hb dX4_form_61 hl (by decide) rfl ?_
        clear hl
        intro ls hl
        refine lv_aload_n hx hb dX4_form_63 rfl (lv_at hl 1 rfl) ?_
        refine lv_aload_n hx hb dX4_form_64 rfl (lv_at hl 2 rfl) ?_
        refine lv_lload hx hb dX4_form_65 (lv_at hl 3 rfl) ?_
        obtain ⟨r_3, e_4, h⟩ := g_bind h
        refine G_al hY hA (va_runV (As := [.ref (ad 1), .long x4]) (rest := []) ⟨hx, hb, hml, hown, hg⟩ (kX4_formOne l D y aS H.size L hL ad N σ x4 _ e_4) (cwV 2 hg ggV_RX4_73_X4_formOne rfl rfl rfl (by decide +kernel) ⟨Nat.le_of_ble_eq_true rfl, Nat.le_of_ble_eq_true rfl⟩) (G_pV (q := (RX4, TX4, 9)) hK hY (hL 109 (by decide)) gk_109 (by decide) rfl) rfl rfl hl.1 rfl (lv_room (Nat.le_of_ble_eq_true rfl)) dX4_form_67 ⟨Nat.le_of_ble_eq_true rfl, Nat.le_of_ble_eq_true rfl⟩) ?_
        clear hY
        rintro _ H locs rfl hY
        refine lv_lstore (lv' := [(4, .long r_3.1), (7, .int (σ.1 112 1)), (0, .ref (ad 109)), (1, .ref (ad 1)), (6, .int x6)]) hx hb dX4_form_70 hl (by decide) rfl ?_
        clear hl
        intro ls hl
        refine lv_aload_n hx hb dX4_form_72 rfl (lv_at hl 2 rfl) ?_
        refine G_get (ci := 4) (j := 5) (C := RX4) (T := TX4) (N := 9) (v := .ref (ad 112)) hx hb hg inlX4 hown hK hY (hL 109 (by decide)) gk_109 (by decide) rfl (by decide) tX4_5 (hg _ gw_112) rfl dX4_form_73 ?_
        refine G_get (ci := 8) (j := 1) (C := RX8) (T := TX8) (N := 2) (v := .int (r_3.2.1 112 1)) hx hb hg inlX8 hown hK hY (hL 112 (by decide)) gk_112 (by decide) rfl (by decide) tX8_1 (hg _ gw_231) rfl dX4_form_76 ?_
        refine lv_iload hx hb dX4_form_79 (lv_at hl 1 rfl) ?_
        refine lv_icmp_ne (tgt := 85) hx hb dX4_form_81 (by decide) (fun z_5 => ?_) (fun z_5 => ?_)
        ·
          rw [if_neg z_5] at h
          refine lv_aload_n hx hb dX4_form_85 rfl (lv_at hl 2 rfl) ?_
          refine G_get (ci := 4) (j := 6) (C := RX4) (T := TX4) (N := 9) (v := .ref (ad 114)) hx hb hg inlX4 hown hK hY (hL 109 (by decide)) gk_109 (by decide) rfl (by decide) tX4_6 (hg _ gw_113) rfl dX4_form_86 ?_
          refine lv_aload_n hx hb dX4_form_89 rfl (lv_at hl 2 rfl) ?_
          refine G_get (ci := 4) (j := 5) (C := RX4) (T := TX4) (N := 9) (v := .ref (ad 112)) hx hb hg inlX4 hown hK hY (hL 109 (by decide)) gk_109 (by decide) rfl (by decide) tX4_5 (hg _ gw_112) rfl dX4_form_90 ?_
          refine G_get (ci := 8) (j := 1) (C := RX8) (T := TX8) (N := 2) (v := .int (r_3.2.1 112 1)) hx hb hg inlX8 hown hK hY (hL 112 (by decide)) gk_112 (by decide) rfl (by decide) tX8_1 (hg _ gw_231) rfl dX4_form_93 ?_
          refine lv_i2l (v := ((r_3.2.1 112 1).toInt64)) hx hb dX4_form_96 rfl ?_
          obtain ⟨r_6, e_7, h⟩ := g_bind h
          refine G_av hY hA (va_runV (As := [.long ((r_3.2.1 112 1).toInt64)]) (rest := []) ⟨hx, hb, hml, hown, hg⟩ (kX8_add l D y aS H.size L hL ad N r_3.2 114 ((r_3.2.1 112 1).toInt64) _ gk_114 e_7) (cwV 1 hg ggV_RX4_49_X8_add rfl rfl rfl (by decide +kernel) ⟨Nat.le_of_ble_eq_true rfl, Nat.le_of_ble_eq_true rfl⟩) (G_pV (q := (RX8, TX8, 2)) hK hY (hL 114 (by decide)) gk_114 (by decide) rfl) rfl rfl hl.1 rfl (lv_room (Nat.le_of_ble_eq_true rfl)) dX4_form_97 ⟨Nat.le_of_ble_eq_true rfl, Nat.le_of_ble_eq_true rfl⟩) ?_
          clear hY
          rintro H locs hY
          refine lv_aload_n hx hb dX4_form_100 rfl (lv_at hl 2 rfl) ?_
          refine G_get (ci := 4) (j := 7) (C := RX4) (T := TX4) (N := 9) (v := .ref (ad 116)) hx hb hg inlX4 hown hK hY (hL 109 (by decide)) gk_109 (by decide) rfl (by decide) tX4_7 (hg _ gw_114) rfl dX4_form_101 ?_
          refine lv_lload hx hb dX4_form_104 (lv_at hl 0 rfl) ?_
          obtain ⟨r_8, e_9, h⟩ := g_bind h
          refine G_av hY hA (va_runV (As := [.long r_3.1]) (rest := []) ⟨hx, hb, hml, hown, hg⟩ (kX8_add l D y aS H.size L hL ad N r_6 116 r_3.1 _ gk_116 e_9) (cwV 1 hg ggV_RX4_49_X8_add rfl rfl rfl (by decide +kernel) ⟨Nat.le_of_ble_eq_true rfl, Nat.le_of_ble_eq_true rfl⟩) (G_pV (q := (RX8, TX8, 2)) hK hY (hL 116 (by decide)) gk_116 (by decide) rfl) rfl rfl hl.1 rfl (lv_room (Nat.le_of_ble_eq_true rfl)) dX4_form_106 ⟨Nat.le_of_ble_eq_true rfl, Nat.le_of_ble_eq_true rfl⟩) ?_
          clear hY
          rintro H locs hY
          refine lv_iinc (v := (x6 + 1)) (lv' := [(6, .int (x6 + 1)), (4, .long r_3.1), (7, .int (σ.1 112 1)), (0, .ref (ad 109)), (1, .ref (ad 1))]) hx hb dX4_form_109 hl (k := 4) rfl rfl (by decide) rfl ?_
          clear hl
          intro ls hl
          refine lv_goto (tgt := 39) hx hb dX4_form_112 (by decide) ?_
          exact hrec39 _ _ _ hY (lv_sub hl [3, 4, 1, 0] rfl) h
        ·
          rw [if_pos z_5] at h
          cases h
          exact g_vret hx hb hr hlocks () hY.1 hY.2.1 hY.2.2 trivial (Nat.le_of_ble_eq_true rfl) (Nat.le_of_ble_eq_true rfl) dX4_form_84
end
def fX4_form (N : Nat) (σ : gS) (x2 : Int64) : Option gS := (fX2_onesThatAre N (sI (sI (sI σ 112 1 0) 114 1 0) 116 1 0) (2 : Int32)).bind fun r_1 => lp (fX4_form_39 N) N ((sJ (sI (sI (sI σ 112 1 0) 114 1 0) 116 1 0) 109 8 r_1), x2, 0)
set_option maxRecDepth 100000 in
set_option maxHeartbeats 4000000 in
theorem kX4_form (l : Launch) (D : va_G) (y : Nat → ClassId) (aS : Nat → Nat) (sz : Nat) (L : List Nat) (hL : ∀ k, k < 179 → k ∈ L) (ad : Nat → Nat) (N : Nat) (σ : gS) (x2 : Int64) (res : gS) (h : fX4_form N σ x2 = some res) : Met l yX4_form (Cond.code yX4_form cX4_form 8 none :: wsL_law) ({ frames := 2, cells := 0, slots := 0, locals := 52 } : Room) (va_Pc [.ref (ad 109), .ref (ad 1), .long x2] (gI D y aS (GW L y ad σ) sz)) (va_Qv (fun (_ : Unit) => True) (fun _ => gO D (va_A (GW L y ad σ) sz) (GW L y ad res)) (va_A (GW L y ad σ) sz)) 0 0 (va_A (GW L y ad σ) sz) := by
  refine g_of (by decide) (Nat.le_of_ble_eq_true rfl) ?_
  intro p e s m below meth c ls A hx hb hr hml hown hg hlocks hin hsz hK hP hD hS hA hAe hl
  rw [← hAe]
  replace hown : s.vm.findClass RX4 = some m.cls := hown
  have hY : gY D y A s L ad σ s.heap [] := ⟨hP, hD, hS⟩
  clear hP hD hS
  replace hl : lv_has ls 8 [(0, .ref (ad 109)), (1, .ref (ad 1)), (2, .long x2)] := hl
  unfold fX4_form at h
  refine lv_aload_n hx hb dX4_form_0 rfl (lv_at hl 0 rfl) ?_
  refine G_get (ci := 4) (j := 5) (C := RX4) (T := TX4) (N := 9) (v := .ref (ad 112)) hx hb hg inlX4 hown hK hY (hL 109 (by decide)) gk_109 (by decide) rfl (by decide) tX4_5 (hg _ gw_112) rfl dX4_form_1 ?_
  refine lv_iconst (v := 0) hx hb dX4_form_4 (by decide) ?_
  refine G_putI (ci := 8) (j := 1) (C := RX8) (T := TX8) (N := 2) (v := 0) (ty := .int) hx hb hg inlX8 tyX8 tyX8_ok nmX8 hown hK hY (hL 112 (by decide)) gk_112 (by decide) rfl (by decide) tX8_1 (hg _ gw_231) (by decide +kernel) rfl rfl (fun _ _ => rfl) (fun _ _ => Nat.le_of_ble_eq_true rfl) dX4_form_5 ?_
  clear hY
  intro H locs hY
  refine lv_aload_n hx hb dX4_form_8 rfl (lv_at hl 0 rfl) ?_
  refine G_get (ci := 4) (j := 6) (C := RX4) (T := TX4) (N := 9) (v := .ref (ad 114)) hx hb hg inlX4 hown hK hY (hL 109 (by decide)) gk_109 (by decide) rfl (by decide) tX4_6 (hg _ gw_113) rfl dX4_form_9 ?_
  refine lv_iconst (v := 0) hx hb dX4_form_12 (by decide) ?_
  refine G_putI (ci := 8) (j := 1) (C := RX8) (T := TX8) (N := 2) (v := 0) (ty := .int) hx hb hg inlX8 tyX8 tyX8_ok nmX8 hown hK hY (hL 114 (by decide)) gk_114 (by decide) rfl (by decide) tX8_1 (hg _ gw_231) (by decide +kernel) rfl rfl (fun _ _ => rfl) (fun _ _ => Nat.le_of_ble_eq_true rfl) dX4_form_13 ?_
  clear hY
  intro H locs hY
  refine lv_aload_n hx hb dX4_form_16 rfl (lv_at hl 0 rfl) ?_
  refine G_get (ci := 4) (j := 7) (C := RX4) (T := TX4) (N := 9) (v := .ref (ad 116)) hx hb hg inlX4 hown hK hY (hL 109 (by decide)) gk_109 (by decide) rfl (by decide) tX4_7 (hg _ gw_114) rfl dX4_form_17 ?_
  refine lv_iconst (v := 0) hx hb dX4_form_20 (by decide) ?_
  refine G_putI (ci := 8) (j := 1) (C := RX8) (T := TX8) (N := 2) (v := 0) (ty := .int) hx hb hg inlX8 tyX8 tyX8_ok nmX8 hown hK hY (hL 116 (by decide)) gk_116 (by decide) rfl (by decide) tX8_1 (hg _ gw_231) (by decide +kernel) rfl rfl (fun _ _ => rfl) (fun _ _ => Nat.le_of_ble_eq_true rfl) dX4_form_21 ?_
  clear hY
  intro H locs hY
  refine lv_aload_n hx hb dX4_form_24 rfl (lv_at hl 0 rfl) ?_
  refine lv_aload_n hx hb dX4_form_25 rfl (lv_at hl 1 rfl) ?_
  refine lv_iconst (v := 2) hx hb dX4_form_26 (by decide) ?_
  obtain ⟨r_1, e_2, h⟩ := g_bind h
  refine G_al hY hA (va_runV (As := [.int 2]) (rest := [.ref (ad 109)]) ⟨hx, hb, hml, hown, hg⟩ (kX2_onesThatAre l D y aS H.size L hL ad N (sI (sI (sI σ 112 1 0) 114 1 0) 116 1 0) (2 : Int32) _ e_2) (cwV 1 hg ggV_RX4_39_X2_onesThatAre rfl rfl rfl (by decide +kernel) ⟨Nat.le_of_ble_eq_true rfl, Nat.le_of_ble_eq_true rfl⟩) (G_pV (q := (RX2, TX2, 5)) hK hY (hL 1 (by decide)) gk_1 (by decide) rfl) rfl rfl hl.1 rfl (lv_room (Nat.le_of_ble_eq_true rfl)) dX4_form_27 ⟨Nat.le_of_ble_eq_true rfl, Nat.le_of_ble_eq_true rfl⟩) ?_
  clear hY
  rintro _ H locs rfl hY
  refine G_putJ (ci := 4) (j := 8) (C := RX4) (T := TX4) (N := 9) (v := r_1) (ty := .long) hx hb hg inlX4 tyX4 tyX4_ok nmX4 hown hK hY (hL 109 (by decide)) gk_109 (by decide) rfl (by decide) tX4_8 (hg _ gw_266) (by decide +kernel) rfl rfl (fun _ _ => rfl) (fun _ _ => Nat.le_of_ble_eq_true rfl) dX4_form_30 ?_
  clear hY
  intro H locs hY
  refine lv_lload_n hx hb dX4_form_33 rfl (lv_at hl 2 rfl) ?_
  refine lv_lstore (lv' := [(4, .long x2), (0, .ref (ad 109)), (1, .ref (ad 1)), (2, .long x2)]) hx hb dX4_form_34 hl (by decide) rfl ?_
  clear hl
  intro ls hl
  refine lv_iconst (v := 0) hx hb dX4_form_36 (by decide) ?_
  refine lv_istore (lv' := [(6, .int 0), (4, .long x2), (0, .ref (ad 109)), (1, .ref (ad 1)), (2, .long x2)]) hx hb dX4_form_37 hl (by decide) rfl ?_
  clear hl
  intro ls hl
  exact wX4_form_39 hx hb hr hml hown hg hlocks hK hA hL N _ _ _ hY (lv_sub hl [2, 3, 1, 0] rfl) h
section
variable {p : Program} {l : Launch} {e : Env} {s : State} {m : MethodId} {args : Array Value} {below : List Frame} {meth : Method} {c : Code} {D : va_G} {y : Nat → ClassId} {aS : Nat → Nat} {A : Nat → Prop} {L : List Nat} {ad : Nat → Nat} {N : Nat} {res : Int32}
def fX4_endOf_27 (N : Nat) (σ : gS) (xs0 : Int32) : Option Int32 := some xs0
set_option maxRecDepth 100000 in
set_option maxHeartbeats 4000000 in
theorem wX4_endOf_27 {σ : gS} {xs0 : Int32} (hx : p.tables.exec = Jvm.exec) (hb : c.code = cX4_endOf) (hr : meth.sig.returnType = (some .int)) (hml : c.maxLocals = 2) (hown : s.vm.findClass RX4 = some m.cls) (hg : ∀ w ∈ wsL_law, w.before args s = true) (hlocks : meth.locks = false) (hK : gK D y aS s) (hA : ∀ q, s.heap.size ≤ q → A q) (hL : ∀ k, k < 179 → k ∈ L) {H : Heap} {locs : List Loc} {ls : Array Slot} (hY : gY D y A s L ad σ H locs) (hl : lv_has ls 2 []) (h : fX4_endOf_27 N σ xs0 = some res) : W p l e ({ frames := 1, cells := 0, slots := 0, locals := 21 } : Room) s m args below meth c H locs 0 0 (MQ below (va_Qi (fun (r : Int32) (_ : Unit) => r = res) (fun _ => gO D A (GW L y ad σ)) A) args s 0 0 A) (F0 m 27 ls [.int xs0]) := by
  unfold fX4_endOf_27 at h
  cases h
  exact g_iret hx hb hr hlocks () hY.1 hY.2.1 hY.2.2 rfl rfl (Nat.le_of_ble_eq_true rfl) (Nat.le_of_ble_eq_true rfl) dX4_endOf_27
def fX4_endOf_26 (N : Nat) (σ : gS) : Option Int32 := fX4_endOf_27 N σ 0
set_option maxRecDepth 100000 in
set_option maxHeartbeats 4000000 in
theorem wX4_endOf_26 {σ : gS} (hx : p.tables.exec = Jvm.exec) (hb : c.code = cX4_endOf) (hr : meth.sig.returnType = (some .int)) (hml : c.maxLocals = 2) (hown : s.vm.findClass RX4 = some m.cls) (hg : ∀ w ∈ wsL_law, w.before args s = true) (hlocks : meth.locks = false) (hK : gK D y aS s) (hA : ∀ q, s.heap.size ≤ q → A q) (hL : ∀ k, k < 179 → k ∈ L) {H : Heap} {locs : List Loc} {ls : Array Slot} (hY : gY D y A s L ad σ H locs) (hl : lv_has ls 2 []) (h : fX4_endOf_26 N σ = some res) : W p l e ({ frames := 1, cells := 0, slots := 0, locals := 21 } : Room) s m args below meth c H locs 0 0 (MQ below (va_Qi (fun (r : Int32) (_ : Unit) => r = res) (fun _ => gO D A (GW L y ad σ)) A) args s 0 0 A) (F0 m 26 ls []) := by
  unfold fX4_endOf_26 at h
  refine lv_iconst (v := 0) hx hb dX4_endOf_26 (by decide) ?_
  exact wX4_endOf_27 hx hb hr hml hown hg hlocks hK hA hL hY (lv_sub hl [] rfl) h
end
def fX4_endOf (N : Nat) (σ : gS) (x1 : Int32) : Option Int32 := if x1 < 0 then (fX4_endOf_26 N σ) else (if (σ.1 114 1) ≤ x1 then (fX4_endOf_26 N σ) else ((fX8_whole N σ 114 x1).bind fun r_3 => fX4_endOf_27 N σ r_3))
set_option maxRecDepth 100000 in
set_option maxHeartbeats 4000000 in
theorem kX4_endOf (l : Launch) (D : va_G) (y : Nat → ClassId) (aS : Nat → Nat) (sz : Nat) (L : List Nat) (hL : ∀ k, k < 179 → k ∈ L) (ad : Nat → Nat) (N : Nat) (σ : gS) (x1 : Int32) (res : Int32) (h : fX4_endOf N σ x1 = some res) : Met l yX4_endOf (Cond.code yX4_endOf cX4_endOf 2 (some .int) :: wsL_law) ({ frames := 1, cells := 0, slots := 0, locals := 21 } : Room) (va_Pc [.ref (ad 109), .int x1] (gI D y aS (GW L y ad σ) sz)) (va_Qi (fun (r : Int32) (_ : Unit) => r = res) (fun _ => gO D (va_A (GW L y ad σ) sz) (GW L y ad σ)) (va_A (GW L y ad σ) sz)) 0 0 (va_A (GW L y ad σ) sz) := by
  refine g_of (by decide) (Nat.le_of_ble_eq_true rfl) ?_
  intro p e s m below meth c ls A hx hb hr hml hown hg hlocks hin hsz hK hP hD hS hA hAe hl
  rw [← hAe]
  replace hown : s.vm.findClass RX4 = some m.cls := hown
  have hY : gY D y A s L ad σ s.heap [] := ⟨hP, hD, hS⟩
  clear hP hD hS
  replace hl : lv_has ls 2 [(0, .ref (ad 109)), (1, .int x1)] := hl
  unfold fX4_endOf at h
  refine lv_iload_n hx hb dX4_endOf_0 rfl (lv_at hl 1 rfl) ?_
  refine lv_if_lt (tgt := 26) hx hb dX4_endOf_1 (by decide) (fun z_1 => ?_) (fun z_1 => ?_)
  ·
    rw [if_pos z_1] at h
    exact wX4_endOf_26 hx hb hr hml hown hg hlocks hK hA hL hY (lv_sub hl [] rfl) h
  ·
    rw [if_neg z_1] at h
    refine lv_iload_n hx hb dX4_endOf_4 rfl (lv_at hl 1 rfl) ?_
    refine lv_aload_n hx hb dX4_endOf_5 rfl (lv_at hl 0 rfl) ?_
    refine G_get (ci := 4) (j := 6) (C := RX4) (T := TX4) (N := 9) (v := .ref (ad 114)) hx hb hg inlX4 hown hK hY (hL 109 (by decide)) gk_109 (by decide) rfl (by decide) tX4_6 (hg _ gw_113) rfl dX4_endOf_6 ?_
    refine G_get (ci := 8) (j := 1) (C := RX8) (T := TX8) (N := 2) (v := .int (σ.1 114 1)) hx hb hg inlX8 hown hK hY (hL 114 (by decide)) gk_114 (by decide) rfl (by decide) tX8_1 (hg _ gw_231) rfl dX4_endOf_9 ?_
    refine lv_icmp_ge (tgt := 26) hx hb dX4_endOf_12 (by decide) (fun z_2 => ?_) (fun z_2 => ?_)
    ·
      rw [if_pos z_2] at h
      exact wX4_endOf_26 hx hb hr hml hown hg hlocks hK hA hL hY (lv_sub hl [] rfl) h
    ·
      rw [if_neg z_2] at h
      refine lv_aload_n hx hb dX4_endOf_15 rfl (lv_at hl 0 rfl) ?_
      refine G_get (ci := 4) (j := 6) (C := RX4) (T := TX4) (N := 9) (v := .ref (ad 114)) hx hb hg inlX4 hown hK hY (hL 109 (by decide)) gk_109 (by decide) rfl (by decide) tX4_6 (hg _ gw_113) rfl dX4_endOf_16 ?_
      refine lv_iload_n hx hb dX4_endOf_19 rfl (lv_at hl 1 rfl) ?_
      obtain ⟨r_3, e_4, h⟩ := g_bind h
      refine G_ai hY hA (va_runV (As := [.int x1]) (rest := []) ⟨hx, hb, hml, hown, hg⟩ (kX8_whole l D y aS s.heap.size L hL ad N σ 114 x1 _ gk_114 e_4) (cwV 1 hg ggV_RX4_77_X8_whole rfl rfl rfl (by decide +kernel) ⟨Nat.le_of_ble_eq_true rfl, Nat.le_of_ble_eq_true rfl⟩) (G_pV (q := (RX8, TX8, 2)) hK hY (hL 114 (by decide)) gk_114 (by decide) rfl) rfl rfl hl.1 rfl (lv_room (Nat.le_of_ble_eq_true rfl)) dX4_endOf_20 ⟨Nat.le_of_ble_eq_true rfl, Nat.le_of_ble_eq_true rfl⟩) ?_
      clear hY
      rintro _ H locs rfl hY
      refine lv_goto (tgt := 27) hx hb dX4_endOf_23 (by decide) ?_
      exact wX4_endOf_27 hx hb hr hml hown hg hlocks hK hA hL hY (lv_sub hl [] rfl) h
theorem ggV_RX4_92_X8_placeOf : GoodIn wsL_law (wsV RX4 92 RX8 yX8_placeOf (Cond.code yX8_placeOf cX8_placeOf 4 (some .int) :: wsL_law)) := g_gi (fun _ h => h) gW_good (List.forall_mem_cons.mpr ⟨⟨gw_478, rfl⟩, List.forall_mem_cons.mpr ⟨⟨gw_410, rfl⟩, List.forall_mem_cons.mpr ⟨⟨gw_411, rfl⟩, List.forall_mem_cons.mpr ⟨⟨gw_48, rfl⟩, fun _ h => nomatch h⟩⟩⟩⟩) ⟨gw_412, rfl⟩
section
variable {p : Program} {l : Launch} {e : Env} {s : State} {m : MethodId} {args : Array Value} {below : List Frame} {meth : Method} {c : Code} {D : va_G} {y : Nat → ClassId} {aS : Nat → Nat} {A : Nat → Prop} {L : List Nat} {ad : Nat → Nat} {N : Nat} {res : Int32}
def fX4_batchWith_48 (N : Nat) (σ : gS) : Option Int32 := some (-1)
set_option maxRecDepth 100000 in
set_option maxHeartbeats 4000000 in
theorem wX4_batchWith_48 {σ : gS} (hx : p.tables.exec = Jvm.exec) (hb : c.code = cX4_batchWith) (hr : meth.sig.returnType = (some .int)) (hml : c.maxLocals = 4) (hown : s.vm.findClass RX4 = some m.cls) (hg : ∀ w ∈ wsL_law, w.before args s = true) (hlocks : meth.locks = false) (hK : gK D y aS s) (hA : ∀ q, s.heap.size ≤ q → A q) (hL : ∀ k, k < 179 → k ∈ L) {H : Heap} {locs : List Loc} {ls : Array Slot} (hY : gY D y A s L ad σ H locs) (hl : lv_has ls 4 []) (h : fX4_batchWith_48 N σ = some res) : W p l e ({ frames := 1, cells := 0, slots := 0, locals := 23 } : Room) s m args below meth c H locs 0 0 (MQ below (va_Qi (fun (r : Int32) (_ : Unit) => r = res) (fun _ => gO D A (GW L y ad σ)) A) args s 0 0 A) (F0 m 48 ls []) := by
  unfold fX4_batchWith_48 at h
  refine lv_iconst (v := (-1)) hx hb dX4_batchWith_48 (by decide) ?_
  cases h
  exact g_iret hx hb hr hlocks () hY.1 hY.2.1 hY.2.2 rfl rfl (Nat.le_of_ble_eq_true rfl) (Nat.le_of_ble_eq_true rfl) dX4_batchWith_49
def fX4_batchWith_12 (N : Nat) (σ : gS) (x2 : Int32) (rec12 : Int32 → Option Int32) (x3 : Int32) : Option Int32 := if (σ.1 114 1) ≤ x3 then (fX4_batchWith_48 N σ) else (if x2 = (-1) then (fX4_batchWith_48 N σ) else ((fX8_whole N σ 114 x3).bind fun r_3 => if r_3 ≤ x2 then (rec12 (x3 + 1)) else (some x3)))
set_option maxRecDepth 100000 in
set_option maxHeartbeats 4000000 in
theorem wX4_batchWith_12 {σ : gS} {x2 : Int32} (hx : p.tables.exec = Jvm.exec) (hb : c.code = cX4_batchWith) (hr : meth.sig.returnType = (some .int)) (hml : c.maxLocals = 4) (hown : s.vm.findClass RX4 = some m.cls) (hg : ∀ w ∈ wsL_law, w.before args s = true) (hlocks : meth.locks = false) (hK : gK D y aS s) (hA : ∀ q, s.heap.size ≤ q → A q) (hL : ∀ k, k < 179 → k ∈ L) : ∀ (n : Nat) {x3 : Int32} (H : Heap) (locs : List Loc) (ls : Array Slot), gY D y A s L ad σ H locs → lv_has ls 4 [(0, .ref (ad 109)), (2, .int x2), (3, .int x3)] → lp (fX4_batchWith_12 N σ x2) n x3 = some res → W p l e ({ frames := 1, cells := 0, slots := 0, locals := 23 } : Room) s m args below meth c H locs 0 0 (MQ below (va_Qi (fun (r : Int32) (_ : Unit) => r = res) (fun _ => gO D A (GW L y ad σ)) A) args s 0 0 A) (F0 m 12 ls []) := by
  intro n
  induction n with
  | zero => intro x3 H locs ls hY hl h; exact nomatch (show none = some res from h)
  | succ n hrec12 =>
    intro x3 H locs ls hY hl h
    replace h : fX4_batchWith_12 N σ x2 (lp (fX4_batchWith_12 N σ x2) n) x3 = some res := h
    generalize lp (fX4_batchWith_12 N σ x2) n = rec12 at h hrec12
    unfold fX4_batchWith_12 at h
    try dsimp only at h
    refine lv_iload_n hx hb dX4_batchWith_12 rfl (lv_at hl 2 rfl) ?_
    refine lv_aload_n hx hb dX4_batchWith_13 rfl (lv_at hl 0 rfl) ?_
    refine G_get (ci := 4) (j := 6) (C := RX4) (T := TX4) (N := 9) (v := .ref (ad 114)) hx hb hg inlX4 hown hK hY (hL 109 (by decide)) gk_109 (by decide) rfl (by decide) tX4_6 (hg _ gw_113) rfl dX4_batchWith_14 ?_
    refine G_get (ci := 8) (j := 1) (C := RX8) (T := TX8) (N := 2) (v := .int (σ.1 114 1)) hx hb hg inlX8 hown hK hY (hL 114 (by decide)) gk_114 (by decide) rfl (by decide) tX8_1 (hg _ gw_231) rfl dX4_batchWith_17 ?_
    refine lv_icmp_ge (tgt := 48) hx hb dX4_batchWith_20 (by decide) (fun z_1 => ?_) (fun z_1 => ?_)
    ·
      rw [if_pos z_1] at h
      exact wX4_batchWith_48 hx hb hr hml hown hg hlocks hK hA hL hY (lv_sub hl [] rfl) h
    ·
      rw [if_neg z_1] at h
      refine lv_iload_n hx hb dX4_batchWith_23 rfl (lv_at hl 1 rfl) ?_
      refine lv_iconst (v := (-1)) hx hb dX4_batchWith_24 (by decide) ?_
      refine lv_icmp_eq (tgt := 48) hx hb dX4_batchWith_25 (by decide) (fun z_2 => ?_) (fun z_2 => ?_)
      ·
        rw [if_pos z_2] at h
        exact wX4_batchWith_48 hx hb hr hml hown hg hlocks hK hA hL hY (lv_sub hl [] rfl) h
      ·
        rw [if_neg z_2] at h
        refine lv_iload_n hx hb dX4_batchWith_28 rfl (lv_at hl 1 rfl) ?_
        refine lv_aload_n hx hb dX4_batchWith_29 rfl (lv_at hl 0 rfl) ?_
        refine G_get (ci := 4) (j := 6) (C := RX4) (T := TX4) (N := 9) (v := .ref (ad 114)) hx hb hg inlX4 hown hK hY (hL 109 (by decide)) gk_109 (by decide) rfl (by decide) tX4_6 (hg _ gw_113) rfl dX4_batchWith_30 ?_
        refine lv_iload_n hx hb dX4_batchWith_33 rfl (lv_at hl 2 rfl) ?_
        obtain ⟨r_3, e_4, h⟩ := g_bind h
        refine G_ai hY hA (va_runV (As := [.int x3]) (rest := [.int x2]) ⟨hx, hb, hml, hown, hg⟩ (kX8_whole l D y aS H.size L hL ad N σ 114 x3 _ gk_114 e_4) (cwV 1 hg ggV_RX4_77_X8_whole rfl rfl rfl (by decide +kernel) ⟨Nat.le_of_ble_eq_true rfl, Nat.le_of_ble_eq_true rfl⟩) (G_pV (q := (RX8, TX8, 2)) hK hY (hL 114 (by decide)) gk_114 (by decide) rfl) rfl rfl hl.1 rfl (lv_room (Nat.le_of_ble_eq_true rfl)) dX4_batchWith_34 ⟨Nat.le_of_ble_eq_true rfl, Nat.le_of_ble_eq_true rfl⟩) ?_
        clear hY
        rintro _ H locs rfl hY
        refine lv_icmp_ge (tgt := 42) hx hb dX4_batchWith_37 (by decide) (fun z_5 => ?_) (fun z_5 => ?_)
        ·
          rw [if_pos z_5] at h
          refine lv_iinc (v := (x3 + 1)) (lv' := [(3, .int (x3 + 1)), (0, .ref (ad 109)), (2, .int x2)]) hx hb dX4_batchWith_42 hl (k := 2) rfl rfl (by decide) rfl ?_
          clear hl
          intro ls hl
          refine lv_goto (tgt := 12) hx hb dX4_batchWith_45 (by decide) ?_
          exact hrec12 _ _ _ hY (lv_sub hl [1, 2, 0] rfl) h
        ·
          rw [if_neg z_5] at h
          refine lv_iload_n hx hb dX4_batchWith_40 rfl (lv_at hl 2 rfl) ?_
          cases h
          exact g_iret hx hb hr hlocks () hY.1 hY.2.1 hY.2.2 rfl rfl (Nat.le_of_ble_eq_true rfl) (Nat.le_of_ble_eq_true rfl) dX4_batchWith_41
end
def fX4_batchWith (N : Nat) (σ : gS) (x1 : Int32) : Option Int32 := (fX8_placeOf N σ 112 (x1.toInt64)).bind fun r_1 => lp (fX4_batchWith_12 N σ r_1) N 0
set_option maxRecDepth 100000 in
set_option maxHeartbeats 4000000 in
theorem kX4_batchWith (l : Launch) (D : va_G) (y : Nat → ClassId) (aS : Nat → Nat) (sz : Nat) (L : List Nat) (hL : ∀ k, k < 179 → k ∈ L) (ad : Nat → Nat) (N : Nat) (σ : gS) (x1 : Int32) (res : Int32) (h : fX4_batchWith N σ x1 = some res) : Met l yX4_batchWith (Cond.code yX4_batchWith cX4_batchWith 4 (some .int) :: wsL_law) ({ frames := 1, cells := 0, slots := 0, locals := 23 } : Room) (va_Pc [.ref (ad 109), .int x1] (gI D y aS (GW L y ad σ) sz)) (va_Qi (fun (r : Int32) (_ : Unit) => r = res) (fun _ => gO D (va_A (GW L y ad σ) sz) (GW L y ad σ)) (va_A (GW L y ad σ) sz)) 0 0 (va_A (GW L y ad σ) sz) := by
  refine g_of (by decide) (Nat.le_of_ble_eq_true rfl) ?_
  intro p e s m below meth c ls A hx hb hr hml hown hg hlocks hin hsz hK hP hD hS hA hAe hl
  rw [← hAe]
  replace hown : s.vm.findClass RX4 = some m.cls := hown
  have hY : gY D y A s L ad σ s.heap [] := ⟨hP, hD, hS⟩
  clear hP hD hS
  replace hl : lv_has ls 4 [(0, .ref (ad 109)), (1, .int x1)] := hl
  unfold fX4_batchWith at h
  refine lv_aload_n hx hb dX4_batchWith_0 rfl (lv_at hl 0 rfl) ?_
  refine G_get (ci := 4) (j := 5) (C := RX4) (T := TX4) (N := 9) (v := .ref (ad 112)) hx hb hg inlX4 hown hK hY (hL 109 (by decide)) gk_109 (by decide) rfl (by decide) tX4_5 (hg _ gw_112) rfl dX4_batchWith_1 ?_
  refine lv_iload_n hx hb dX4_batchWith_4 rfl (lv_at hl 1 rfl) ?_
  refine lv_i2l (v := (x1.toInt64)) hx hb dX4_batchWith_5 rfl ?_
  obtain ⟨r_1, e_2, h⟩ := g_bind h
  refine G_ai hY hA (va_runV (As := [.long (x1.toInt64)]) (rest := []) ⟨hx, hb, hml, hown, hg⟩ (kX8_placeOf l D y aS s.heap.size L hL ad N σ 112 (x1.toInt64) _ gk_112 e_2) (cwV 1 hg ggV_RX4_92_X8_placeOf rfl rfl rfl (by decide +kernel) ⟨Nat.le_of_ble_eq_true rfl, Nat.le_of_ble_eq_true rfl⟩) (G_pV (q := (RX8, TX8, 2)) hK hY (hL 112 (by decide)) gk_112 (by decide) rfl) rfl rfl hl.1 rfl (lv_room (Nat.le_of_ble_eq_true rfl)) dX4_batchWith_6 ⟨Nat.le_of_ble_eq_true rfl, Nat.le_of_ble_eq_true rfl⟩) ?_
  clear hY
  rintro _ H locs rfl hY
  refine lv_istore_n (lv' := [(2, .int r_1), (0, .ref (ad 109)), (1, .int x1)]) hx hb dX4_batchWith_9 rfl hl (by decide) rfl ?_
  clear hl
  intro ls hl
  refine lv_iconst (v := 0) hx hb dX4_batchWith_10 (by decide) ?_
  refine lv_istore_n (lv' := [(3, .int 0), (2, .int r_1), (0, .ref (ad 109)), (1, .int x1)]) hx hb dX4_batchWith_11 rfl hl (by decide) rfl ?_
  clear hl
  intro ls hl
  exact wX4_batchWith_12 hx hb hr hml hown hg hlocks hK hA hL N _ _ _ hY (lv_sub hl [2, 1, 0] rfl) h
section
variable {p : Program} {l : Launch} {e : Env} {s : State} {m : MethodId} {args : Array Value} {below : List Frame} {meth : Method} {c : Code} {D : va_G} {y : Nat → ClassId} {aS : Nat → Nat} {A : Nat → Prop} {L : List Nat} {ad : Nat → Nat} {N : Nat} {res : Nat}
def fX7_at_26 (N : Nat) (σ : gS) : Option Nat := some 67
set_option maxRecDepth 100000 in
set_option maxHeartbeats 4000000 in
theorem wX7_at_26 {σ : gS} (hx : p.tables.exec = Jvm.exec) (hb : c.code = cX7_at) (hr : meth.sig.returnType = (some (.object "Greentrunk$Check"))) (hml : c.maxLocals = 3) (hown : s.vm.findClass RX7 = some m.cls) (hg : ∀ w ∈ wsL_law, w.before args s = true) (hlocks : meth.locks = false) (hK : gK D y aS s) (hA : ∀ q, s.heap.size ≤ q → A q) (hL : ∀ k, k < 179 → k ∈ L) {H : Heap} {locs : List Loc} {ls : Array Slot} (hY : gY D y A s L ad σ H locs) (hl : lv_has ls 3 [(0, .ref (ad 65))]) (h : fX7_at_26 N σ = some res) : W p l e ({ frames := 0, cells := 0, slots := 0, locals := 0 } : Room) s m args below meth c H locs 0 0 (MQ below (va_Qr (fun (_ : Unit) => gcl res = 3) (fun u b t => b = (fun _ : Unit => ad res) u ∧ gO D A (GW L y ad σ) t) A) args s 0 0 A) (F0 m 26 ls []) := by
  unfold fX7_at_26 at h
  refine lv_aload_n hx hb dX7_at_26 rfl (lv_at hl 0 rfl) ?_
  refine G_get (ci := 7) (j := 1) (C := RX7) (T := TX7) (N := 6) (v := .ref (ad 67)) hx hb hg inlX7 hown hK hY (hL 65 (by decide)) gk_65 (by decide) rfl (by decide) tX7_1 (hg _ gw_82) rfl dX7_at_27 ?_
  cases h
  exact g_aret hx hb hr hlocks () hY.1 hY.2.1 hY.2.2 rfl gk_67 (Nat.le_of_ble_eq_true rfl) (Nat.le_of_ble_eq_true rfl) dX7_at_30
end
def fX7_at (N : Nat) (σ : gS) (x1 : Int32) : Option Nat := if x1 < 0 then (fX7_at_26 N σ) else (if 10 ≤ x1 then (fX7_at_26 N σ) else (if x1 < 0 ∨ 10 ≤ x1.toNatClampNeg then none else (some (76 + 3 * x1.toNatClampNeg))))
set_option maxRecDepth 100000 in
set_option maxHeartbeats 4000000 in
theorem kX7_at (l : Launch) (D : va_G) (y : Nat → ClassId) (aS : Nat → Nat) (sz : Nat) (L : List Nat) (hL : ∀ k, k < 179 → k ∈ L) (ad : Nat → Nat) (N : Nat) (σ : gS) (x1 : Int32) (res : Nat) (h : fX7_at N σ x1 = some res) : Met l yX7_at (Cond.code yX7_at cX7_at 3 (some (.object "Greentrunk$Check")) :: wsL_law) ({ frames := 0, cells := 0, slots := 0, locals := 0 } : Room) (va_Pc [.ref (ad 65), .int x1] (gI D y aS (GW L y ad σ) sz)) (va_Qr (fun (_ : Unit) => gcl res = 3) (fun u b t => b = (fun _ : Unit => ad res) u ∧ gO D (va_A (GW L y ad σ) sz) (GW L y ad σ) t) (va_A (GW L y ad σ) sz)) 0 0 (va_A (GW L y ad σ) sz) := by
  refine g_of (by decide) (Nat.le_of_ble_eq_true rfl) ?_
  intro p e s m below meth c ls A hx hb hr hml hown hg hlocks hin hsz hK hP hD hS hA hAe hl
  rw [← hAe]
  replace hown : s.vm.findClass RX7 = some m.cls := hown
  have hY : gY D y A s L ad σ s.heap [] := ⟨hP, hD, hS⟩
  clear hP hD hS
  replace hl : lv_has ls 3 [(0, .ref (ad 65)), (1, .int x1)] := hl
  unfold fX7_at at h
  refine lv_iload_n hx hb dX7_at_0 rfl (lv_at hl 1 rfl) ?_
  refine lv_if_lt (tgt := 26) hx hb dX7_at_1 (by decide) (fun z_1 => ?_) (fun z_1 => ?_)
  ·
    rw [if_pos z_1] at h
    exact wX7_at_26 hx hb hr hml hown hg hlocks hK hA hL hY (lv_sub hl [0] rfl) h
  ·
    rw [if_neg z_1] at h
    refine lv_iload_n hx hb dX7_at_4 rfl (lv_at hl 1 rfl) ?_
    refine lv_aload_n hx hb dX7_at_5 rfl (lv_at hl 0 rfl) ?_
    refine G_get (ci := 7) (j := 0) (C := RX7) (T := TX7) (N := 6) (v := .ref (ad 66)) hx hb hg inlX7 hown hK hY (hL 65 (by decide)) gk_65 (by decide) rfl (by decide) tX7_0 (hg _ gw_79) rfl dX7_at_6 ?_
    refine G_alen24 hx hb hK hY (hL 66 (by decide)) gk_66 dX7_at_9 ?_
    refine lv_icmp_ge (tgt := 26) hx hb dX7_at_10 (by decide) (fun z_2 => ?_) (fun z_2 => ?_)
    ·
      rw [if_pos z_2] at h
      exact wX7_at_26 hx hb hr hml hown hg hlocks hK hA hL hY (lv_sub hl [0] rfl) h
    ·
      rw [if_neg z_2] at h
      refine lv_aload_n hx hb dX7_at_13 rfl (lv_at hl 0 rfl) ?_
      refine G_get (ci := 7) (j := 0) (C := RX7) (T := TX7) (N := 6) (v := .ref (ad 66)) hx hb hg inlX7 hown hK hY (hL 65 (by decide)) gk_65 (by decide) rfl (by decide) tX7_0 (hg _ gw_79) rfl dX7_at_14 ?_
      refine lv_iload_n hx hb dX7_at_17 rfl (lv_at hl 1 rfl) ?_
      obtain ⟨z_3, h⟩ := g_guard h
      refine G_aald24 (j := x1.toNatClampNeg) hx hb hK hY (hL 66 (by decide)) gk_66 z_3 rfl dX7_at_18 ?_
      refine lv_astore_n (lv' := [(2, .ref (ad (76 + 3 * x1.toNatClampNeg))), (0, .ref (ad 65)), (1, .int x1)]) hx hb dX7_at_19 rfl hl (by decide) rfl ?_
      clear hl
      intro ls hl
      refine lv_aload_n hx hb dX7_at_20 rfl (lv_at hl 0 rfl) ?_
      refine lv_ifnull hx hb dX7_at_21 ?_
      refine lv_aload_n hx hb dX7_at_24 rfl (lv_at hl 0 rfl) ?_
      cases h
      exact g_aret hx hb hr hlocks () hY.1 hY.2.1 hY.2.2 rfl (gc_24 z_3 rfl) (Nat.le_of_ble_eq_true rfl) (Nat.le_of_ble_eq_true rfl) dX7_at_25
theorem ggV_RX7_41_X7_at : GoodIn wsL_law (wsV RX7 41 RX7 yX7_at (Cond.code yX7_at cX7_at 3 (some (.object "Greentrunk$Check")) :: wsL_law)) := g_gi (fun _ h => h) gW_good (List.forall_mem_cons.mpr ⟨⟨gw_209, rfl⟩, List.forall_mem_cons.mpr ⟨⟨gw_210, rfl⟩, List.forall_mem_cons.mpr ⟨⟨gw_211, rfl⟩, List.forall_mem_cons.mpr ⟨⟨gw_19, rfl⟩, fun _ h => nomatch h⟩⟩⟩⟩) ⟨gw_212, rfl⟩
theorem ggI_RX7_48_X11_maskOf : GoodIn wsL_law ([] ++ (Cond.code yX11_maskOf cX11_maskOf 4 (some .long) :: wsL_law)) := g_gi (fun _ h => h) gW_good (fun _ h => nomatch h) ⟨gw_439, rfl⟩
section
variable {p : Program} {l : Launch} {e : Env} {s : State} {m : MethodId} {args : Array Value} {below : List Frame} {meth : Method} {c : Code} {D : va_G} {y : Nat → ClassId} {aS : Nat → Nat} {A : Nat → Prop} {L : List Nat} {ad : Nat → Nat} {N : Nat} {res : (Int32 × gS)}
end
def fX7_addCheck (N : Nat) (σ : gS) (x1 : Int32) (x2 : Int32) (x3 : Int32) : Option (Int32 × gS) := (fX7_at N σ (σ.1 65 5)).bind fun r_1 => (fX11_maskOf N (sI σ r_1 2 x1) x1).bind fun r_4 => some (((sI (sI (sJ (sI σ r_1 2 x1) r_1 3 r_4) r_1 4 x2) r_1 5 x3).1 65 5), (sI (sI (sI (sJ (sI σ r_1 2 x1) r_1 3 r_4) r_1 4 x2) r_1 5 x3) 65 5 (((sI (sI (sJ (sI σ r_1 2 x1) r_1 3 r_4) r_1 4 x2) r_1 5 x3).1 65 5) + 1)))
set_option maxRecDepth 100000 in
set_option maxHeartbeats 4000000 in
theorem kX7_addCheck (l : Launch) (D : va_G) (y : Nat → ClassId) (aS : Nat → Nat) (sz : Nat) (L : List Nat) (hL : ∀ k, k < 179 → k ∈ L) (ad : Nat → Nat) (N : Nat) (σ : gS) (x1 : Int32) (x2 : Int32) (x3 : Int32) (res : (Int32 × gS)) (h : fX7_addCheck N σ x1 x2 x3 = some res) : Met l yX7_addCheck (Cond.code yX7_addCheck cX7_addCheck 5 (some .int) :: wsL_law) ({ frames := 2, cells := 0, slots := 0, locals := 44 } : Room) (va_Pc [.ref (ad 65), .int x1, .int x2, .int x3] (gI D y aS (GW L y ad σ) sz)) (va_Qi (fun (r : Int32) (_ : Unit) => r = res.1) (fun _ => gO D (va_A (GW L y ad σ) sz) (GW L y ad res.2)) (va_A (GW L y ad σ) sz)) 0 0 (va_A (GW L y ad σ) sz) := by
  refine g_of (by decide) (Nat.le_of_ble_eq_true rfl) ?_
  intro p e s m below meth c ls A hx hb hr hml hown hg hlocks hin hsz hK hP hD hS hA hAe hl
  rw [← hAe]
  replace hown : s.vm.findClass RX7 = some m.cls := hown
  have hY : gY D y A s L ad σ s.heap [] := ⟨hP, hD, hS⟩
  clear hP hD hS
  replace hl : lv_has ls 5 [(0, .ref (ad 65)), (1, .int x1), (2, .int x2), (3, .int x3)] := hl
  unfold fX7_addCheck at h
  refine lv_aload_n hx hb dX7_addCheck_0 rfl (lv_at hl 0 rfl) ?_
  refine lv_aload_n hx hb dX7_addCheck_1 rfl (lv_at hl 0 rfl) ?_
  refine G_get (ci := 7) (j := 5) (C := RX7) (T := TX7) (N := 6) (v := .int (σ.1 65 5)) hx hb hg inlX7 hown hK hY (hL 65 (by decide)) gk_65 (by decide) rfl (by decide) tX7_5 (hg _ gw_205) rfl dX7_addCheck_2 ?_
  obtain ⟨r_1, e_2, h⟩ := g_bind h
  refine G_ar hY hA (va_runV (As := [.int (σ.1 65 5)]) (rest := []) ⟨hx, hb, hml, hown, hg⟩ (kX7_at l D y aS s.heap.size L hL ad N σ (σ.1 65 5) _ e_2) (cwV 1 hg ggV_RX7_41_X7_at rfl rfl rfl (by decide +kernel) ⟨Nat.le_of_ble_eq_true rfl, Nat.le_of_ble_eq_true rfl⟩) (G_pV (q := (RX7, TX7, 6)) hK hY (hL 65 (by decide)) gk_65 (by decide) rfl) rfl rfl hl.1 rfl (lv_room (Nat.le_of_ble_eq_true rfl)) dX7_addCheck_5 ⟨Nat.le_of_ble_eq_true rfl, Nat.le_of_ble_eq_true rfl⟩) ?_
  clear hY
  rintro H locs k_3 hY
  refine lv_astore (lv' := [(4, .ref (ad r_1)), (0, .ref (ad 65)), (1, .int x1), (2, .int x2), (3, .int x3)]) hx hb dX7_addCheck_8 hl (by decide) rfl ?_
  clear hl
  intro ls hl
  refine lv_aload hx hb dX7_addCheck_10 (lv_at hl 0 rfl) ?_
  refine lv_iload_n hx hb dX7_addCheck_12 rfl (lv_at hl 2 rfl) ?_
  refine G_putI (ci := 3) (j := 2) (C := RX3) (T := TX3) (N := 10) (v := x1) (ty := .int) hx hb hg inlX3 tyX3 tyX3_ok nmX3 hown hK hY (hL _ (gcl_lt k_3 (by decide))) k_3 (by decide) rfl (by decide) tX3_2 (hg _ gw_206) (by decide +kernel) rfl rfl (fun _ _ => rfl) (fun _ _ => Nat.le_of_ble_eq_true rfl) dX7_addCheck_13 ?_
  clear hY
  intro H locs hY
  refine lv_aload hx hb dX7_addCheck_16 (lv_at hl 0 rfl) ?_
  refine lv_iload_n hx hb dX7_addCheck_18 rfl (lv_at hl 2 rfl) ?_
  obtain ⟨r_4, e_5, h⟩ := g_bind h
  refine G_al hY hA (va_runSN (As := [.int x1]) (rest := [.ref (ad r_1)]) ⟨hx, hb, hml, hown, hg⟩ (kX11_maskOf l D y aS H.size L hL ad N (sI σ r_1 2 x1) x1 _ e_5) ⟨va_cnB 1 hg ggI_RX7_48_X11_maskOf rfl rfl rfl (hK.2.1 _ (List.mem_of_getElem? (i := 18) rfl)) (hg _ gw_2) (by decide +kernel) ⟨Nat.le_of_ble_eq_true rfl, Nat.le_of_ble_eq_true rfl⟩, (hg _ gw_438), trivial⟩ (G_pS hK hY) rfl rfl hl.1 rfl (lv_room (Nat.le_of_ble_eq_true rfl)) dX7_addCheck_19 ⟨Nat.le_of_ble_eq_true rfl, Nat.le_of_ble_eq_true rfl⟩) ?_
  clear hY
  rintro _ H locs rfl hY
  refine G_putJ (ci := 3) (j := 3) (C := RX3) (T := TX3) (N := 10) (v := r_4) (ty := .long) hx hb hg inlX3 tyX3 tyX3_ok nmX3 hown hK hY (hL _ (gcl_lt k_3 (by decide))) k_3 (by decide) rfl (by decide) tX3_3 (hg _ gw_635) (by decide +kernel) rfl rfl (fun _ _ => rfl) (fun _ _ => Nat.le_of_ble_eq_true rfl) dX7_addCheck_22 ?_
  clear hY
  intro H locs hY
  refine lv_aload hx hb dX7_addCheck_25 (lv_at hl 0 rfl) ?_
  refine lv_iload_n hx hb dX7_addCheck_27 rfl (lv_at hl 3 rfl) ?_
  refine G_putI (ci := 3) (j := 4) (C := RX3) (T := TX3) (N := 10) (v := x2) (ty := .int) hx hb hg inlX3 tyX3 tyX3_ok nmX3 hown hK hY (hL _ (gcl_lt k_3 (by decide))) k_3 (by decide) rfl (by decide) tX3_4 (hg _ gw_636) (by decide +kernel) rfl rfl (fun _ _ => rfl) (fun _ _ => Nat.le_of_ble_eq_true rfl) dX7_addCheck_28 ?_
  clear hY
  intro H locs hY
  refine lv_aload hx hb dX7_addCheck_31 (lv_at hl 0 rfl) ?_
  refine lv_iload_n hx hb dX7_addCheck_33 rfl (lv_at hl 4 rfl) ?_
  refine G_putI (ci := 3) (j := 5) (C := RX3) (T := TX3) (N := 10) (v := x3) (ty := .int) hx hb hg inlX3 tyX3 tyX3_ok nmX3 hown hK hY (hL _ (gcl_lt k_3 (by decide))) k_3 (by decide) rfl (by decide) tX3_5 (hg _ gw_637) (by decide +kernel) rfl rfl (fun _ _ => rfl) (fun _ _ => Nat.le_of_ble_eq_true rfl) dX7_addCheck_34 ?_
  clear hY
  intro H locs hY
  refine lv_aload_n hx hb dX7_addCheck_37 rfl (lv_at hl 1 rfl) ?_
  refine lv_dup hx hb dX7_addCheck_38 rfl ?_
  refine G_get (ci := 7) (j := 5) (C := RX7) (T := TX7) (N := 6) (v := .int ((sI (sI (sJ (sI σ r_1 2 x1) r_1 3 r_4) r_1 4 x2) r_1 5 x3).1 65 5)) hx hb hg inlX7 hown hK hY (hL 65 (by decide)) gk_65 (by decide) rfl (by decide) tX7_5 (hg _ gw_205) rfl dX7_addCheck_39 ?_
  refine lv_dup_x1 hx hb dX7_addCheck_42 rfl rfl ?_
  refine lv_iconst (v := 1) hx hb dX7_addCheck_43 (by decide) ?_
  refine lv_iadd hx hb dX7_addCheck_44 ?_
  refine G_putI (ci := 7) (j := 5) (C := RX7) (T := TX7) (N := 6) (v := (((sI (sI (sJ (sI σ r_1 2 x1) r_1 3 r_4) r_1 4 x2) r_1 5 x3).1 65 5) + 1)) (ty := .int) hx hb hg inlX7 tyX7 tyX7_ok nmX7 hown hK hY (hL 65 (by decide)) gk_65 (by decide) rfl (by decide) tX7_5 (hg _ gw_205) (by decide +kernel) rfl rfl (fun _ _ => rfl) (fun _ _ => Nat.le_of_ble_eq_true rfl) dX7_addCheck_45 ?_
  clear hY
  intro H locs hY
  cases h
  exact g_iret hx hb hr hlocks () hY.1 hY.2.1 hY.2.2 rfl rfl (Nat.le_of_ble_eq_true rfl) (Nat.le_of_ble_eq_true rfl) dX7_addCheck_48
theorem ggV_RX7_62_X8_add : GoodIn wsL_law (wsV RX7 62 RX8 yX8_add (Cond.code yX8_add cX8_add 3 none :: wsL_law)) := g_gi (fun _ h => h) gW_good (List.forall_mem_cons.mpr ⟨⟨gw_670, rfl⟩, List.forall_mem_cons.mpr ⟨⟨gw_151, rfl⟩, List.forall_mem_cons.mpr ⟨⟨gw_152, rfl⟩, List.forall_mem_cons.mpr ⟨⟨gw_48, rfl⟩, fun _ h => nomatch h⟩⟩⟩⟩) ⟨gw_153, rfl⟩
section
variable {p : Program} {l : Launch} {e : Env} {s : State} {m : MethodId} {args : Array Value} {below : List Frame} {meth : Method} {c : Code} {D : va_G} {y : Nat → ClassId} {aS : Nat → Nat} {A : Nat → Prop} {L : List Nat} {ad : Nat → Nat} {N : Nat} {res : (Int32 × gS)}
end
def fX7_addLine (N : Nat) (σ : gS) (x1 : Int32) (x2 : Int32) (x3 : Int32) : Option (Int32 × gS) := (fX8_add N σ 70 (x1.toInt64)).bind fun r_1 => (fX8_add N r_1 72 (x2.toInt64)).bind fun r_3 => (fX8_add N r_3 74 (x3.toInt64)).bind fun r_5 => some ((r_5.1 70 1), r_5)
set_option maxRecDepth 100000 in
set_option maxHeartbeats 4000000 in
theorem kX7_addLine (l : Launch) (D : va_G) (y : Nat → ClassId) (aS : Nat → Nat) (sz : Nat) (L : List Nat) (hL : ∀ k, k < 179 → k ∈ L) (ad : Nat → Nat) (N : Nat) (σ : gS) (x1 : Int32) (x2 : Int32) (x3 : Int32) (res : (Int32 × gS)) (h : fX7_addLine N σ x1 x2 x3 = some res) : Met l yX7_addLine (Cond.code yX7_addLine cX7_addLine 4 (some .int) :: wsL_law) ({ frames := 1, cells := 0, slots := 0, locals := 22 } : Room) (va_Pc [.ref (ad 65), .int x1, .int x2, .int x3] (gI D y aS (GW L y ad σ) sz)) (va_Qi (fun (r : Int32) (_ : Unit) => r = res.1) (fun _ => gO D (va_A (GW L y ad σ) sz) (GW L y ad res.2)) (va_A (GW L y ad σ) sz)) 0 0 (va_A (GW L y ad σ) sz) := by
  refine g_of (by decide) (Nat.le_of_ble_eq_true rfl) ?_
  intro p e s m below meth c ls A hx hb hr hml hown hg hlocks hin hsz hK hP hD hS hA hAe hl
  rw [← hAe]
  replace hown : s.vm.findClass RX7 = some m.cls := hown
  have hY : gY D y A s L ad σ s.heap [] := ⟨hP, hD, hS⟩
  clear hP hD hS
  replace hl : lv_has ls 4 [(0, .ref (ad 65)), (1, .int x1), (2, .int x2), (3, .int x3)] := hl
  unfold fX7_addLine at h
  refine lv_aload_n hx hb dX7_addLine_0 rfl (lv_at hl 0 rfl) ?_
  refine G_get (ci := 7) (j := 2) (C := RX7) (T := TX7) (N := 6) (v := .ref (ad 70)) hx hb hg inlX7 hown hK hY (hL 65 (by decide)) gk_65 (by decide) rfl (by decide) tX7_2 (hg _ gw_84) rfl dX7_addLine_1 ?_
  refine lv_iload_n hx hb dX7_addLine_4 rfl (lv_at hl 1 rfl) ?_
  refine lv_i2l (v := (x1.toInt64)) hx hb dX7_addLine_5 rfl ?_
  obtain ⟨r_1, e_2, h⟩ := g_bind h
  refine G_av hY hA (va_runV (As := [.long (x1.toInt64)]) (rest := []) ⟨hx, hb, hml, hown, hg⟩ (kX8_add l D y aS s.heap.size L hL ad N σ 70 (x1.toInt64) _ gk_70 e_2) (cwV 1 hg ggV_RX7_62_X8_add rfl rfl rfl (by decide +kernel) ⟨Nat.le_of_ble_eq_true rfl, Nat.le_of_ble_eq_true rfl⟩) (G_pV (q := (RX8, TX8, 2)) hK hY (hL 70 (by decide)) gk_70 (by decide) rfl) rfl rfl hl.1 rfl (lv_room (Nat.le_of_ble_eq_true rfl)) dX7_addLine_6 ⟨Nat.le_of_ble_eq_true rfl, Nat.le_of_ble_eq_true rfl⟩) ?_
  clear hY
  rintro H locs hY
  refine lv_aload_n hx hb dX7_addLine_9 rfl (lv_at hl 0 rfl) ?_
  refine G_get (ci := 7) (j := 3) (C := RX7) (T := TX7) (N := 6) (v := .ref (ad 72)) hx hb hg inlX7 hown hK hY (hL 65 (by decide)) gk_65 (by decide) rfl (by decide) tX7_3 (hg _ gw_85) rfl dX7_addLine_10 ?_
  refine lv_iload_n hx hb dX7_addLine_13 rfl (lv_at hl 2 rfl) ?_
  refine lv_i2l (v := (x2.toInt64)) hx hb dX7_addLine_14 rfl ?_
  obtain ⟨r_3, e_4, h⟩ := g_bind h
  refine G_av hY hA (va_runV (As := [.long (x2.toInt64)]) (rest := []) ⟨hx, hb, hml, hown, hg⟩ (kX8_add l D y aS H.size L hL ad N r_1 72 (x2.toInt64) _ gk_72 e_4) (cwV 1 hg ggV_RX7_62_X8_add rfl rfl rfl (by decide +kernel) ⟨Nat.le_of_ble_eq_true rfl, Nat.le_of_ble_eq_true rfl⟩) (G_pV (q := (RX8, TX8, 2)) hK hY (hL 72 (by decide)) gk_72 (by decide) rfl) rfl rfl hl.1 rfl (lv_room (Nat.le_of_ble_eq_true rfl)) dX7_addLine_15 ⟨Nat.le_of_ble_eq_true rfl, Nat.le_of_ble_eq_true rfl⟩) ?_
  clear hY
  rintro H locs hY
  refine lv_aload_n hx hb dX7_addLine_18 rfl (lv_at hl 0 rfl) ?_
  refine G_get (ci := 7) (j := 4) (C := RX7) (T := TX7) (N := 6) (v := .ref (ad 74)) hx hb hg inlX7 hown hK hY (hL 65 (by decide)) gk_65 (by decide) rfl (by decide) tX7_4 (hg _ gw_86) rfl dX7_addLine_19 ?_
  refine lv_iload_n hx hb dX7_addLine_22 rfl (lv_at hl 3 rfl) ?_
  refine lv_i2l (v := (x3.toInt64)) hx hb dX7_addLine_23 rfl ?_
  obtain ⟨r_5, e_6, h⟩ := g_bind h
  refine G_av hY hA (va_runV (As := [.long (x3.toInt64)]) (rest := []) ⟨hx, hb, hml, hown, hg⟩ (kX8_add l D y aS H.size L hL ad N r_3 74 (x3.toInt64) _ gk_74 e_6) (cwV 1 hg ggV_RX7_62_X8_add rfl rfl rfl (by decide +kernel) ⟨Nat.le_of_ble_eq_true rfl, Nat.le_of_ble_eq_true rfl⟩) (G_pV (q := (RX8, TX8, 2)) hK hY (hL 74 (by decide)) gk_74 (by decide) rfl) rfl rfl hl.1 rfl (lv_room (Nat.le_of_ble_eq_true rfl)) dX7_addLine_24 ⟨Nat.le_of_ble_eq_true rfl, Nat.le_of_ble_eq_true rfl⟩) ?_
  clear hY
  rintro H locs hY
  refine lv_aload_n hx hb dX7_addLine_27 rfl (lv_at hl 0 rfl) ?_
  refine G_get (ci := 7) (j := 2) (C := RX7) (T := TX7) (N := 6) (v := .ref (ad 70)) hx hb hg inlX7 hown hK hY (hL 65 (by decide)) gk_65 (by decide) rfl (by decide) tX7_2 (hg _ gw_84) rfl dX7_addLine_28 ?_
  refine G_get (ci := 8) (j := 1) (C := RX8) (T := TX8) (N := 2) (v := .int (r_5.1 70 1)) hx hb hg inlX8 hown hK hY (hL 70 (by decide)) gk_70 (by decide) rfl (by decide) tX8_1 (hg _ gw_208) rfl dX7_addLine_31 ?_
  cases h
  exact g_iret hx hb hr hlocks () hY.1 hY.2.1 hY.2.2 rfl rfl (Nat.le_of_ble_eq_true rfl) (Nat.le_of_ble_eq_true rfl) dX7_addLine_34
theorem ggV_RX7_70_X8_whole : GoodIn wsL_law (wsV RX7 70 RX8 yX8_whole (Cond.code yX8_whole cX8_whole 2 (some .int) :: wsL_law)) := g_gi (fun _ h => h) gW_good (List.forall_mem_cons.mpr ⟨⟨gw_213, rfl⟩, List.forall_mem_cons.mpr ⟨⟨gw_214, rfl⟩, List.forall_mem_cons.mpr ⟨⟨gw_215, rfl⟩, List.forall_mem_cons.mpr ⟨⟨gw_48, rfl⟩, fun _ h => nomatch h⟩⟩⟩⟩) ⟨gw_216, rfl⟩
theorem ggV_RX7_82_X1_team : GoodIn wsL_law (wsV RX7 82 RX1 yX1_team (Cond.code yX1_team cX1_team 1 (some .int) :: wsL_law)) := g_gi (fun _ h => h) gW_good (List.forall_mem_cons.mpr ⟨⟨gw_222, rfl⟩, List.forall_mem_cons.mpr ⟨⟨gw_223, rfl⟩, List.forall_mem_cons.mpr ⟨⟨gw_224, rfl⟩, List.forall_mem_cons.mpr ⟨⟨gw_63, rfl⟩, fun _ h => nomatch h⟩⟩⟩⟩) ⟨gw_225, rfl⟩
theorem ggI_RX7_78_X11_hasBit : GoodIn wsL_law ([] ++ (Cond.code yX11_hasBit cX11_hasBit 2 (some .boolean) :: wsL_law)) := g_gi (fun _ h => h) gW_good (fun _ h => nomatch h) ⟨gw_221, rfl⟩
section
variable {p : Program} {l : Launch} {e : Env} {s : State} {m : MethodId} {args : Array Value} {below : List Frame} {meth : Method} {c : Code} {D : va_G} {y : Nat → ClassId} {aS : Nat → Nat} {A : Nat → Prop} {L : List Nat} {ad : Nat → Nat} {N : Nat} {res : Int32}
def fX7_holds_31 (N : Nat) (σ : gS) (xs0 : Int32) : Option Int32 := if ¬ (xs0 = 0 ∨ xs0 = 1) then none else (some xs0)
set_option maxRecDepth 100000 in
set_option maxHeartbeats 4000000 in
theorem wX7_holds_31 {σ : gS} {xs0 : Int32} (hx : p.tables.exec = Jvm.exec) (hb : c.code = cX7_holds) (hr : meth.sig.returnType = (some .boolean)) (hml : c.maxLocals = 3) (hown : s.vm.findClass RX7 = some m.cls) (hg : ∀ w ∈ wsL_law, w.before args s = true) (hlocks : meth.locks = false) (hK : gK D y aS s) (hA : ∀ q, s.heap.size ≤ q → A q) (hL : ∀ k, k < 179 → k ∈ L) {H : Heap} {locs : List Loc} {ls : Array Slot} (hY : gY D y A s L ad σ H locs) (hl : lv_has ls 3 []) (h : fX7_holds_31 N σ xs0 = some res) : W p l e ({ frames := 1, cells := 0, slots := 0, locals := 21 } : Room) s m args below meth c H locs 0 0 (MQ below (va_Qi (fun (r : Int32) (_ : Unit) => r = res) (fun _ => gO D A (GW L y ad σ)) A) args s 0 0 A) (F0 m 31 ls [.int xs0]) := by
  unfold fX7_holds_31 at h
  obtain ⟨z_1, h⟩ := g_guard h
  cases h
  exact g_iret hx hb hr hlocks () hY.1 hY.2.1 hY.2.2 (g_nz (Classical.not_not.mp z_1)) rfl (Nat.le_of_ble_eq_true rfl) (Nat.le_of_ble_eq_true rfl) dX7_holds_31
def fX7_holds_26 (N : Nat) (σ : gS) : Option Int32 := fX7_holds_31 N σ 1
set_option maxRecDepth 100000 in
set_option maxHeartbeats 4000000 in
theorem wX7_holds_26 {σ : gS} (hx : p.tables.exec = Jvm.exec) (hb : c.code = cX7_holds) (hr : meth.sig.returnType = (some .boolean)) (hml : c.maxLocals = 3) (hown : s.vm.findClass RX7 = some m.cls) (hg : ∀ w ∈ wsL_law, w.before args s = true) (hlocks : meth.locks = false) (hK : gK D y aS s) (hA : ∀ q, s.heap.size ≤ q → A q) (hL : ∀ k, k < 179 → k ∈ L) {H : Heap} {locs : List Loc} {ls : Array Slot} (hY : gY D y A s L ad σ H locs) (hl : lv_has ls 3 []) (h : fX7_holds_26 N σ = some res) : W p l e ({ frames := 1, cells := 0, slots := 0, locals := 21 } : Room) s m args below meth c H locs 0 0 (MQ below (va_Qi (fun (r : Int32) (_ : Unit) => r = res) (fun _ => gO D A (GW L y ad σ)) A) args s 0 0 A) (F0 m 26 ls []) := by
  unfold fX7_holds_26 at h
  refine lv_iconst (v := 1) hx hb dX7_holds_26 (by decide) ?_
  refine lv_goto (tgt := 31) hx hb dX7_holds_27 (by decide) ?_
  exact wX7_holds_31 hx hb hr hml hown hg hlocks hK hA hL hY (lv_sub hl [] rfl) h
end
def fX7_holds (N : Nat) (σ : gS) (x0 : Int32) (x1 : Int32) (r2 : Nat) : Option Int32 := if x0 = 1 then ((fX11_hasBit N σ (σ.1 r2 5) x1).bind fun r_6 => if ¬ (r_6 = 0 ∨ r_6 = 1) then none else (some r_6)) else (if x0 = 0 then (fX7_holds_26 N σ) else ((fX1_team N σ r2).bind fun r_3 => if r_3 = x1 then (fX7_holds_26 N σ) else (fX7_holds_31 N σ 0)))
set_option maxRecDepth 100000 in
set_option maxHeartbeats 4000000 in
theorem kX7_holds (l : Launch) (D : va_G) (y : Nat → ClassId) (aS : Nat → Nat) (sz : Nat) (L : List Nat) (hL : ∀ k, k < 179 → k ∈ L) (ad : Nat → Nat) (N : Nat) (σ : gS) (x0 : Int32) (x1 : Int32) (r2 : Nat) (res : Int32) (hr2 : gcl r2 = 1) (h : fX7_holds N σ x0 x1 r2 = some res) : Met l yX7_holds (Cond.code yX7_holds cX7_holds 3 (some .boolean) :: wsL_law) ({ frames := 1, cells := 0, slots := 0, locals := 21 } : Room) (va_Pc [.int x0, .int x1, .ref (ad r2)] (gI D y aS (GW L y ad σ) sz)) (va_Qi (fun (r : Int32) (_ : Unit) => r = res) (fun _ => gO D (va_A (GW L y ad σ) sz) (GW L y ad σ)) (va_A (GW L y ad σ) sz)) 0 0 (va_A (GW L y ad σ) sz) := by
  refine g_of (by decide) (Nat.le_of_ble_eq_true rfl) ?_
  intro p e s m below meth c ls A hx hb hr hml hown hg hlocks hin hsz hK hP hD hS hA hAe hl
  rw [← hAe]
  replace hown : s.vm.findClass RX7 = some m.cls := hown
  have hY : gY D y A s L ad σ s.heap [] := ⟨hP, hD, hS⟩
  clear hP hD hS
  replace hl : lv_has ls 3 [(0, .int x0), (1, .int x1), (2, .ref (ad r2))] := hl
  unfold fX7_holds at h
  refine lv_iload_n hx hb dX7_holds_0 rfl (lv_at hl 0 rfl) ?_
  refine lv_iconst (v := 1) hx hb dX7_holds_1 (by decide) ?_
  refine lv_icmp_ne (tgt := 14) hx hb dX7_holds_2 (by decide) (fun z_1 => ?_) (fun z_1 => ?_)
  ·
    rw [if_neg z_1] at h
    refine lv_iload_n hx hb dX7_holds_14 rfl (lv_at hl 0 rfl) ?_
    refine lv_if_eq (tgt := 26) hx hb dX7_holds_15 (by decide) (fun z_2 => ?_) (fun z_2 => ?_)
    ·
      rw [if_pos z_2] at h
      exact wX7_holds_26 hx hb hr hml hown hg hlocks hK hA hL hY (lv_sub hl [] rfl) h
    ·
      rw [if_neg z_2] at h
      refine lv_aload_n hx hb dX7_holds_18 rfl (lv_at hl 2 rfl) ?_
      obtain ⟨r_3, e_4, h⟩ := g_bind h
      refine G_ai hY hA (va_runV (As := []) (rest := []) ⟨hx, hb, hml, hown, hg⟩ (kX1_team l D y aS s.heap.size L hL ad N σ r2 _ hr2 e_4) (cwV 0 hg ggV_RX7_82_X1_team rfl rfl rfl (by decide +kernel) ⟨Nat.le_of_ble_eq_true rfl, Nat.le_of_ble_eq_true rfl⟩) (G_pV (q := (RX1, TX1, 14)) hK hY (hL _ (gcl_lt hr2 (by decide))) hr2 (by decide) rfl) rfl rfl hl.1 rfl (lv_room (Nat.le_of_ble_eq_true rfl)) dX7_holds_19 ⟨Nat.le_of_ble_eq_true rfl, Nat.le_of_ble_eq_true rfl⟩) ?_
      clear hY
      rintro _ H locs rfl hY
      refine lv_iload_n hx hb dX7_holds_22 rfl (lv_at hl 1 rfl) ?_
      refine lv_icmp_ne (tgt := 30) hx hb dX7_holds_23 (by decide) (fun z_5 => ?_) (fun z_5 => ?_)
      ·
        rw [if_neg z_5] at h
        refine lv_iconst (v := 0) hx hb dX7_holds_30 (by decide) ?_
        exact wX7_holds_31 hx hb hr hml hown hg hlocks hK hA hL hY (lv_sub hl [] rfl) h
      ·
        rw [if_pos z_5] at h
        exact wX7_holds_26 hx hb hr hml hown hg hlocks hK hA hL hY (lv_sub hl [] rfl) h
  ·
    rw [if_pos z_1] at h
    refine lv_aload_n hx hb dX7_holds_5 rfl (lv_at hl 2 rfl) ?_
    refine G_get (ci := 1) (j := 5) (C := RX1) (T := TX1) (N := 14) (v := .int (σ.1 r2 5)) hx hb hg inlX1 hown hK hY (hL _ (gcl_lt hr2 (by decide))) hr2 (by decide) rfl (by decide) tX1_5 (hg _ gw_207) rfl dX7_holds_6 ?_
    refine lv_iload_n hx hb dX7_holds_9 rfl (lv_at hl 1 rfl) ?_
    obtain ⟨r_6, e_7, h⟩ := g_bind h
    refine G_ai hY hA (va_runSN (As := [.int (σ.1 r2 5), .int x1]) (rest := []) ⟨hx, hb, hml, hown, hg⟩ (kX11_hasBit l D y aS s.heap.size L hL ad N σ (σ.1 r2 5) x1 _ e_7) ⟨va_cnB 2 hg ggI_RX7_78_X11_hasBit rfl rfl rfl (hK.2.1 _ (List.mem_of_getElem? (i := 5) rfl)) (hg _ gw_2) (by decide +kernel) ⟨Nat.le_of_ble_eq_true rfl, Nat.le_of_ble_eq_true rfl⟩, (hg _ gw_220), trivial⟩ (G_pS hK hY) rfl rfl hl.1 rfl (lv_room (Nat.le_of_ble_eq_true rfl)) dX7_holds_10 ⟨Nat.le_of_ble_eq_true rfl, Nat.le_of_ble_eq_true rfl⟩) ?_
    clear hY
    rintro _ H locs rfl hY
    obtain ⟨z_8, h⟩ := g_guard h
    cases h
    exact g_iret hx hb hr hlocks () hY.1 hY.2.1 hY.2.2 (g_nz (Classical.not_not.mp z_8)) rfl (Nat.le_of_ble_eq_true rfl) (Nat.le_of_ble_eq_true rfl) dX7_holds_13
theorem ggS_RX7_74_X7_holds : GoodIn wsL_law (va_wsS RX7 74 yX7_holds (Cond.code yX7_holds cX7_holds 3 (some .boolean) :: wsL_law)) := g_gi (fun _ h => h) gW_good (List.forall_mem_cons.mpr ⟨⟨gw_217, rfl⟩, List.forall_mem_cons.mpr ⟨⟨gw_218, rfl⟩, List.forall_mem_cons.mpr ⟨⟨gw_19, rfl⟩, fun _ h => nomatch h⟩⟩⟩) ⟨gw_219, rfl⟩
section
variable {p : Program} {l : Launch} {e : Env} {s : State} {m : MethodId} {args : Array Value} {below : List Frame} {meth : Method} {c : Code} {D : va_G} {y : Nat → ClassId} {aS : Nat → Nat} {A : Nat → Prop} {L : List Nat} {ad : Nat → Nat} {N : Nat} {res : Int32}
def fX7_requiredBy_89 (N : Nat) (rec42 : (Int32 × Int32) → Option Int32) (σ : gS) (r1 : Nat) (x2 : Int32) (x3 : Int32) : Option Int32 := rec42 (x2, (x3 + 1))
set_option maxRecDepth 100000 in
set_option maxHeartbeats 4000000 in
theorem wX7_requiredBy_89 {rec42 : (Int32 × Int32) → Option Int32} {σ : gS} {r1 : Nat} {x2 : Int32} {x3 : Int32} (hx : p.tables.exec = Jvm.exec) (hb : c.code = cX7_requiredBy) (hr : meth.sig.returnType = (some .int)) (hml : c.maxLocals = 4) (hown : s.vm.findClass RX7 = some m.cls) (hg : ∀ w ∈ wsL_law, w.before args s = true) (hlocks : meth.locks = false) (hK : gK D y aS s) (hA : ∀ q, s.heap.size ≤ q → A q) (hL : ∀ k, k < 179 → k ∈ L) (hrec42 : ∀ {x2n9 : Int32} {x3n9 : Int32} (H : Heap) (locs : List Loc) (ls : Array Slot), gY D y A s L ad σ H locs → lv_has ls 4 [(0, .ref (ad 65)), (1, .ref (ad r1)), (2, .int x2n9), (3, .int x3n9)] → rec42 (x2n9, x3n9) = some res → W p l e ({ frames := 2, cells := 0, slots := 0, locals := 43 } : Room) s m args below meth c H locs 0 0 (MQ below (va_Qi (fun (r : Int32) (_ : Unit) => r = res) (fun _ => gO D A (GW L y ad σ)) A) args s 0 0 A) (F0 m 42 ls [])) (hr1 : gcl r1 = 1) {H : Heap} {locs : List Loc} {ls : Array Slot} (hY : gY D y A s L ad σ H locs) (hl : lv_has ls 4 [(0, .ref (ad 65)), (1, .ref (ad r1)), (2, .int x2), (3, .int x3)]) (h : fX7_requiredBy_89 N rec42 σ r1 x2 x3 = some res) : W p l e ({ frames := 2, cells := 0, slots := 0, locals := 43 } : Room) s m args below meth c H locs 0 0 (MQ below (va_Qi (fun (r : Int32) (_ : Unit) => r = res) (fun _ => gO D A (GW L y ad σ)) A) args s 0 0 A) (F0 m 89 ls []) := by
  unfold fX7_requiredBy_89 at h
  refine lv_iinc (v := (x3 + 1)) (lv' := [(3, .int (x3 + 1)), (0, .ref (ad 65)), (1, .ref (ad r1)), (2, .int x2)]) hx hb dX7_requiredBy_89 hl (k := 3) rfl rfl (by decide) rfl ?_
  clear hl
  intro ls hl
  refine lv_goto (tgt := 42) hx hb dX7_requiredBy_92 (by decide) ?_
  exact hrec42 _ _ _ hY (lv_sub hl [1, 2, 3, 0] rfl) h
def fX7_requiredBy_42 (N : Nat) (σ : gS) (r1 : Nat) (rec42 : (Int32 × Int32) → Option Int32) (xx : Int32 × Int32) : Option Int32 := match xx with
  | (x2, x3) => if (σ.1 70 1) ≤ x3 then (some x2) else ((fX8_whole N σ 72 x3).bind fun r_2 => (fX8_whole N σ 74 x3).bind fun r_4 => (fX7_holds N σ r_2 r_4 r1).bind fun r_6 => if r_6 = 0 then (fX7_requiredBy_89 N rec42 σ r1 x2 x3) else ((fX8_whole N σ 70 x3).bind fun r_9 => fX7_requiredBy_89 N rec42 σ r1 (x2 ||| ((1 : Int32) <<< (r_9 &&& 31))) x3))
set_option maxRecDepth 100000 in
set_option maxHeartbeats 4000000 in
theorem wX7_requiredBy_42 {σ : gS} {r1 : Nat} (hx : p.tables.exec = Jvm.exec) (hb : c.code = cX7_requiredBy) (hr : meth.sig.returnType = (some .int)) (hml : c.maxLocals = 4) (hown : s.vm.findClass RX7 = some m.cls) (hg : ∀ w ∈ wsL_law, w.before args s = true) (hlocks : meth.locks = false) (hK : gK D y aS s) (hA : ∀ q, s.heap.size ≤ q → A q) (hL : ∀ k, k < 179 → k ∈ L) (hr1 : gcl r1 = 1) : ∀ (n : Nat) {x2 : Int32} {x3 : Int32} (H : Heap) (locs : List Loc) (ls : Array Slot), gY D y A s L ad σ H locs → lv_has ls 4 [(0, .ref (ad 65)), (1, .ref (ad r1)), (2, .int x2), (3, .int x3)] → lp (fX7_requiredBy_42 N σ r1) n (x2, x3) = some res → W p l e ({ frames := 2, cells := 0, slots := 0, locals := 43 } : Room) s m args below meth c H locs 0 0 (MQ below (va_Qi (fun (r : Int32) (_ : Unit) => r = res) (fun _ => gO D A (GW L y ad σ)) A) args s 0 0 A) (F0 m 42 ls []) := by
  intro n
  induction n with
  | zero => intro x2 x3 H locs ls hY hl h; exact nomatch (show none = some res from h)
  | succ n hrec42 =>
    intro x2 x3 H locs ls hY hl h
    replace h : fX7_requiredBy_42 N σ r1 (lp (fX7_requiredBy_42 N σ r1) n) (x2, x3) = some res := h
    generalize lp (fX7_requiredBy_42 N σ r1) n = rec42 at h hrec42
    unfold fX7_requiredBy_42 at h
    try dsimp only at h
    refine lv_iload_n hx hb dX7_requiredBy_42 rfl (lv_at hl 3 rfl) ?_
    refine lv_aload_n hx hb dX7_requiredBy_43 rfl (lv_at hl 0 rfl) ?_
    refine G_get (ci := 7) (j := 2) (C := RX7) (T := TX7) (N := 6) (v := .ref (ad 70)) hx hb hg inlX7 hown hK hY (hL 65 (by decide)) gk_65 (by decide) rfl (by decide) tX7_2 (hg _ gw_84) rfl dX7_requiredBy_44 ?_
    refine G_get (ci := 8) (j := 1) (C := RX8) (T := TX8) (N := 2) (v := .int (σ.1 70 1)) hx hb hg inlX8 hown hK hY (hL 70 (by decide)) gk_70 (by decide) rfl (by decide) tX8_1 (hg _ gw_208) rfl dX7_requiredBy_47 ?_
    refine lv_icmp_ge (tgt := 95) hx hb dX7_requiredBy_50 (by decide) (fun z_1 => ?_) (fun z_1 => ?_)
    ·
      rw [if_pos z_1] at h
      refine lv_iload_n hx hb dX7_requiredBy_95 rfl (lv_at hl 2 rfl) ?_
      cases h
      exact g_iret hx hb hr hlocks () hY.1 hY.2.1 hY.2.2 rfl rfl (Nat.le_of_ble_eq_true rfl) (Nat.le_of_ble_eq_true rfl) dX7_requiredBy_96
    ·
      rw [if_neg z_1] at h
      refine lv_aload_n hx hb dX7_requiredBy_53 rfl (lv_at hl 0 rfl) ?_
      refine G_get (ci := 7) (j := 3) (C := RX7) (T := TX7) (N := 6) (v := .ref (ad 72)) hx hb hg inlX7 hown hK hY (hL 65 (by decide)) gk_65 (by decide) rfl (by decide) tX7_3 (hg _ gw_85) rfl dX7_requiredBy_54 ?_
      refine lv_iload_n hx hb dX7_requiredBy_57 rfl (lv_at hl 3 rfl) ?_
      obtain ⟨r_2, e_3, h⟩ := g_bind h
      refine G_ai hY hA (va_runV (As := [.int x3]) (rest := []) ⟨hx, hb, hml, hown, hg⟩ (kX8_whole l D y aS H.size L hL ad N σ 72 x3 _ gk_72 e_3) (cwV 1 hg ggV_RX7_70_X8_whole rfl rfl rfl (by decide +kernel) ⟨Nat.le_of_ble_eq_true rfl, Nat.le_of_ble_eq_true rfl⟩) (G_pV (q := (RX8, TX8, 2)) hK hY (hL 72 (by decide)) gk_72 (by decide) rfl) rfl rfl hl.1 rfl (lv_room (Nat.le_of_ble_eq_true rfl)) dX7_requiredBy_58 ⟨Nat.le_of_ble_eq_true rfl, Nat.le_of_ble_eq_true rfl⟩) ?_
      clear hY
      rintro _ H locs rfl hY
      refine lv_aload_n hx hb dX7_requiredBy_61 rfl (lv_at hl 0 rfl) ?_
      refine G_get (ci := 7) (j := 4) (C := RX7) (T := TX7) (N := 6) (v := .ref (ad 74)) hx hb hg inlX7 hown hK hY (hL 65 (by decide)) gk_65 (by decide) rfl (by decide) tX7_4 (hg _ gw_86) rfl dX7_requiredBy_62 ?_
      refine lv_iload_n hx hb dX7_requiredBy_65 rfl (lv_at hl 3 rfl) ?_
      obtain ⟨r_4, e_5, h⟩ := g_bind h
      refine G_ai hY hA (va_runV (As := [.int x3]) (rest := [.int r_2]) ⟨hx, hb, hml, hown, hg⟩ (kX8_whole l D y aS H.size L hL ad N σ 74 x3 _ gk_74 e_5) (cwV 1 hg ggV_RX7_70_X8_whole rfl rfl rfl (by decide +kernel) ⟨Nat.le_of_ble_eq_true rfl, Nat.le_of_ble_eq_true rfl⟩) (G_pV (q := (RX8, TX8, 2)) hK hY (hL 74 (by decide)) gk_74 (by decide) rfl) rfl rfl hl.1 rfl (lv_room (Nat.le_of_ble_eq_true rfl)) dX7_requiredBy_66 ⟨Nat.le_of_ble_eq_true rfl, Nat.le_of_ble_eq_true rfl⟩) ?_
      clear hY
      rintro _ H locs rfl hY
      refine lv_aload_n hx hb dX7_requiredBy_69 rfl (lv_at hl 1 rfl) ?_
      obtain ⟨r_6, e_7, h⟩ := g_bind h
      refine G_ai hY hA (va_runS (As := [.int r_2, .int r_4, .ref (ad r1)]) (rest := []) ⟨hx, hb, hml, hown, hg⟩ (kX7_holds l D y aS H.size L hL ad N σ r_2 r_4 r1 _ hr1 e_7) (va_cwS 3 hg ggS_RX7_74_X7_holds rfl rfl rfl (by decide +kernel) ⟨Nat.le_of_ble_eq_true rfl, Nat.le_of_ble_eq_true rfl⟩) (G_pS hK hY) rfl rfl hl.1 rfl (lv_room (Nat.le_of_ble_eq_true rfl)) dX7_requiredBy_70 ⟨Nat.le_of_ble_eq_true rfl, Nat.le_of_ble_eq_true rfl⟩) ?_
      clear hY
      rintro _ H locs rfl hY
      refine lv_if_eq (tgt := 89) hx hb dX7_requiredBy_73 (by decide) (fun z_8 => ?_) (fun z_8 => ?_)
      ·
        rw [if_pos z_8] at h
        exact wX7_requiredBy_89 hx hb hr hml hown hg hlocks hK hA hL hrec42 hr1 hY (lv_sub hl [0, 1, 2, 3] rfl) h
      ·
        rw [if_neg z_8] at h
        refine lv_iload_n hx hb dX7_requiredBy_76 rfl (lv_at hl 2 rfl) ?_
        refine lv_iconst (v := 1) hx hb dX7_requiredBy_77 (by decide) ?_
        refine lv_aload_n hx hb dX7_requiredBy_78 rfl (lv_at hl 0 rfl) ?_
        refine G_get (ci := 7) (j := 2) (C := RX7) (T := TX7) (N := 6) (v := .ref (ad 70)) hx hb hg inlX7 hown hK hY (hL 65 (by decide)) gk_65 (by decide) rfl (by decide) tX7_2 (hg _ gw_84) rfl dX7_requiredBy_79 ?_
        refine lv_iload_n hx hb dX7_requiredBy_82 rfl (lv_at hl 3 rfl) ?_
        obtain ⟨r_9, e_10, h⟩ := g_bind h
        refine G_ai hY hA (va_runV (As := [.int x3]) (rest := [.int 1, .int x2]) ⟨hx, hb, hml, hown, hg⟩ (kX8_whole l D y aS H.size L hL ad N σ 70 x3 _ gk_70 e_10) (cwV 1 hg ggV_RX7_70_X8_whole rfl rfl rfl (by decide +kernel) ⟨Nat.le_of_ble_eq_true rfl, Nat.le_of_ble_eq_true rfl⟩) (G_pV (q := (RX8, TX8, 2)) hK hY (hL 70 (by decide)) gk_70 (by decide) rfl) rfl rfl hl.1 rfl (lv_room (Nat.le_of_ble_eq_true rfl)) dX7_requiredBy_83 ⟨Nat.le_of_ble_eq_true rfl, Nat.le_of_ble_eq_true rfl⟩) ?_
        clear hY
        rintro _ H locs rfl hY
        refine lv_ishl hx hb dX7_requiredBy_86 ?_
        refine lv_ior hx hb dX7_requiredBy_87 ?_
        refine lv_istore_n (lv' := [(2, .int (x2 ||| ((1 : Int32) <<< (r_9 &&& 31)))), (0, .ref (ad 65)), (1, .ref (ad r1)), (3, .int x3)]) hx hb dX7_requiredBy_88 rfl hl (by decide) rfl ?_
        clear hl
        intro ls hl
        exact wX7_requiredBy_89 hx hb hr hml hown hg hlocks hK hA hL hrec42 hr1 hY (lv_sub hl [1, 2, 0, 3] rfl) h
def fX7_requiredBy_34 (N : Nat) (rec4 : (Int32 × Int32) → Option Int32) (σ : gS) (r1 : Nat) (x2 : Int32) (x3 : Int32) : Option Int32 := rec4 (x2, (x3 + 1))
set_option maxRecDepth 100000 in
set_option maxHeartbeats 4000000 in
theorem wX7_requiredBy_34 {rec4 : (Int32 × Int32) → Option Int32} {σ : gS} {r1 : Nat} {x2 : Int32} {x3 : Int32} (hx : p.tables.exec = Jvm.exec) (hb : c.code = cX7_requiredBy) (hr : meth.sig.returnType = (some .int)) (hml : c.maxLocals = 4) (hown : s.vm.findClass RX7 = some m.cls) (hg : ∀ w ∈ wsL_law, w.before args s = true) (hlocks : meth.locks = false) (hK : gK D y aS s) (hA : ∀ q, s.heap.size ≤ q → A q) (hL : ∀ k, k < 179 → k ∈ L) (hrec4 : ∀ {x2n9 : Int32} {x3n9 : Int32} (H : Heap) (locs : List Loc) (ls : Array Slot), gY D y A s L ad σ H locs → lv_has ls 4 [(0, .ref (ad 65)), (1, .ref (ad r1)), (2, .int x2n9), (3, .int x3n9)] → rec4 (x2n9, x3n9) = some res → W p l e ({ frames := 2, cells := 0, slots := 0, locals := 43 } : Room) s m args below meth c H locs 0 0 (MQ below (va_Qi (fun (r : Int32) (_ : Unit) => r = res) (fun _ => gO D A (GW L y ad σ)) A) args s 0 0 A) (F0 m 4 ls [])) (hr1 : gcl r1 = 1) {H : Heap} {locs : List Loc} {ls : Array Slot} (hY : gY D y A s L ad σ H locs) (hl : lv_has ls 4 [(0, .ref (ad 65)), (1, .ref (ad r1)), (2, .int x2), (3, .int x3)]) (h : fX7_requiredBy_34 N rec4 σ r1 x2 x3 = some res) : W p l e ({ frames := 2, cells := 0, slots := 0, locals := 43 } : Room) s m args below meth c H locs 0 0 (MQ below (va_Qi (fun (r : Int32) (_ : Unit) => r = res) (fun _ => gO D A (GW L y ad σ)) A) args s 0 0 A) (F0 m 34 ls []) := by
  unfold fX7_requiredBy_34 at h
  refine lv_iinc (v := (x3 + 1)) (lv' := [(3, .int (x3 + 1)), (0, .ref (ad 65)), (1, .ref (ad r1)), (2, .int x2)]) hx hb dX7_requiredBy_34 hl (k := 3) rfl rfl (by decide) rfl ?_
  clear hl
  intro ls hl
  refine lv_goto (tgt := 4) hx hb dX7_requiredBy_37 (by decide) ?_
  exact hrec4 _ _ _ hY (lv_sub hl [1, 2, 3, 0] rfl) h
def fX7_requiredBy_4 (N : Nat) (σ : gS) (r1 : Nat) (rec4 : (Int32 × Int32) → Option Int32) (xx : Int32 × Int32) : Option Int32 := match xx with
  | (x2, x3) => if (σ.1 65 5) ≤ x3 then (lp (fX7_requiredBy_42 N σ r1) N (x2, 0)) else ((fX7_at N σ x3).bind fun r_2 => if ((σ.1 r_2 2) &&& (σ.1 r1 5)) = 0 then (fX7_requiredBy_34 N rec4 σ r1 x2 x3) else (fX7_requiredBy_34 N rec4 σ r1 (x2 ||| ((1 : Int32) <<< (x3 &&& 31))) x3))
set_option maxRecDepth 100000 in
set_option maxHeartbeats 4000000 in
theorem wX7_requiredBy_4 {σ : gS} {r1 : Nat} (hx : p.tables.exec = Jvm.exec) (hb : c.code = cX7_requiredBy) (hr : meth.sig.returnType = (some .int)) (hml : c.maxLocals = 4) (hown : s.vm.findClass RX7 = some m.cls) (hg : ∀ w ∈ wsL_law, w.before args s = true) (hlocks : meth.locks = false) (hK : gK D y aS s) (hA : ∀ q, s.heap.size ≤ q → A q) (hL : ∀ k, k < 179 → k ∈ L) (hr1 : gcl r1 = 1) : ∀ (n : Nat) {x2 : Int32} {x3 : Int32} (H : Heap) (locs : List Loc) (ls : Array Slot), gY D y A s L ad σ H locs → lv_has ls 4 [(0, .ref (ad 65)), (1, .ref (ad r1)), (2, .int x2), (3, .int x3)] → lp (fX7_requiredBy_4 N σ r1) n (x2, x3) = some res → W p l e ({ frames := 2, cells := 0, slots := 0, locals := 43 } : Room) s m args below meth c H locs 0 0 (MQ below (va_Qi (fun (r : Int32) (_ : Unit) => r = res) (fun _ => gO D A (GW L y ad σ)) A) args s 0 0 A) (F0 m 4 ls []) := by
  intro n
  induction n with
  | zero => intro x2 x3 H locs ls hY hl h; exact nomatch (show none = some res from h)
  | succ n hrec4 =>
    intro x2 x3 H locs ls hY hl h
    replace h : fX7_requiredBy_4 N σ r1 (lp (fX7_requiredBy_4 N σ r1) n) (x2, x3) = some res := h
    generalize lp (fX7_requiredBy_4 N σ r1) n = rec4 at h hrec4
    unfold fX7_requiredBy_4 at h
    try dsimp only at h
    refine lv_iload_n hx hb dX7_requiredBy_4 rfl (lv_at hl 3 rfl) ?_
    refine lv_aload_n hx hb dX7_requiredBy_5 rfl (lv_at hl 0 rfl) ?_
    refine G_get (ci := 7) (j := 5) (C := RX7) (T := TX7) (N := 6) (v := .int (σ.1 65 5)) hx hb hg inlX7 hown hK hY (hL 65 (by decide)) gk_65 (by decide) rfl (by decide) tX7_5 (hg _ gw_205) rfl dX7_requiredBy_6 ?_
    refine lv_icmp_ge (tgt := 40) hx hb dX7_requiredBy_9 (by decide) (fun z_1 => ?_) (fun z_1 => ?_)
    ·
      rw [if_pos z_1] at h
      refine lv_iconst (v := 0) hx hb dX7_requiredBy_40 (by decide) ?_
      refine lv_istore_n (lv' := [(3, .int 0), (0, .ref (ad 65)), (1, .ref (ad r1)), (2, .int x2)]) hx hb dX7_requiredBy_41 rfl hl (by decide) rfl ?_
      clear hl
      intro ls hl
      exact wX7_requiredBy_42 hx hb hr hml hown hg hlocks hK hA hL hr1 N _ _ _ hY (lv_sub hl [1, 2, 3, 0] rfl) h
    ·
      rw [if_neg z_1] at h
      refine lv_aload_n hx hb dX7_requiredBy_12 rfl (lv_at hl 0 rfl) ?_
      refine lv_iload_n hx hb dX7_requiredBy_13 rfl (lv_at hl 3 rfl) ?_
      obtain ⟨r_2, e_3, h⟩ := g_bind h
      refine G_ar hY hA (va_runV (As := [.int x3]) (rest := []) ⟨hx, hb, hml, hown, hg⟩ (kX7_at l D y aS H.size L hL ad N σ x3 _ e_3) (cwV 1 hg ggV_RX7_41_X7_at rfl rfl rfl (by decide +kernel) ⟨Nat.le_of_ble_eq_true rfl, Nat.le_of_ble_eq_true rfl⟩) (G_pV (q := (RX7, TX7, 6)) hK hY (hL 65 (by decide)) gk_65 (by decide) rfl) rfl rfl hl.1 rfl (lv_room (Nat.le_of_ble_eq_true rfl)) dX7_requiredBy_14 ⟨Nat.le_of_ble_eq_true rfl, Nat.le_of_ble_eq_true rfl⟩) ?_
      clear hY
      rintro H locs k_4 hY
      refine G_get (ci := 3) (j := 2) (C := RX3) (T := TX3) (N := 10) (v := .int (σ.1 r_2 2)) hx hb hg inlX3 hown hK hY (hL _ (gcl_lt k_4 (by decide))) k_4 (by decide) rfl (by decide) tX3_2 (hg _ gw_206) rfl dX7_requiredBy_17 ?_
      refine lv_aload_n hx hb dX7_requiredBy_20 rfl (lv_at hl 1 rfl) ?_
      refine G_get (ci := 1) (j := 5) (C := RX1) (T := TX1) (N := 14) (v := .int (σ.1 r1 5)) hx hb hg inlX1 hown hK hY (hL _ (gcl_lt hr1 (by decide))) hr1 (by decide) rfl (by decide) tX1_5 (hg _ gw_207) rfl dX7_requiredBy_21 ?_
      refine lv_iand hx hb dX7_requiredBy_24 ?_
      refine lv_if_eq (tgt := 34) hx hb dX7_requiredBy_25 (by decide) (fun z_5 => ?_) (fun z_5 => ?_)
      ·
        rw [if_pos z_5] at h
        exact wX7_requiredBy_34 hx hb hr hml hown hg hlocks hK hA hL hrec4 hr1 hY (lv_sub hl [0, 1, 2, 3] rfl) h
      ·
        rw [if_neg z_5] at h
        refine lv_iload_n hx hb dX7_requiredBy_28 rfl (lv_at hl 2 rfl) ?_
        refine lv_iconst (v := 1) hx hb dX7_requiredBy_29 (by decide) ?_
        refine lv_iload_n hx hb dX7_requiredBy_30 rfl (lv_at hl 3 rfl) ?_
        refine lv_ishl hx hb dX7_requiredBy_31 ?_
        refine lv_ior hx hb dX7_requiredBy_32 ?_
        refine lv_istore_n (lv' := [(2, .int (x2 ||| ((1 : Int32) <<< (x3 &&& 31)))), (0, .ref (ad 65)), (1, .ref (ad r1)), (3, .int x3)]) hx hb dX7_requiredBy_33 rfl hl (by decide) rfl ?_
        clear hl
        intro ls hl
        exact wX7_requiredBy_34 hx hb hr hml hown hg hlocks hK hA hL hrec4 hr1 hY (lv_sub hl [1, 2, 0, 3] rfl) h
end
def fX7_requiredBy (N : Nat) (σ : gS) (r1 : Nat) : Option Int32 := lp (fX7_requiredBy_4 N σ r1) N (0, 0)
set_option maxRecDepth 100000 in
set_option maxHeartbeats 4000000 in
theorem kX7_requiredBy (l : Launch) (D : va_G) (y : Nat → ClassId) (aS : Nat → Nat) (sz : Nat) (L : List Nat) (hL : ∀ k, k < 179 → k ∈ L) (ad : Nat → Nat) (N : Nat) (σ : gS) (r1 : Nat) (res : Int32) (hr1 : gcl r1 = 1) (h : fX7_requiredBy N σ r1 = some res) : Met l yX7_requiredBy (Cond.code yX7_requiredBy cX7_requiredBy 4 (some .int) :: wsL_law) ({ frames := 2, cells := 0, slots := 0, locals := 43 } : Room) (va_Pc [.ref (ad 65), .ref (ad r1)] (gI D y aS (GW L y ad σ) sz)) (va_Qi (fun (r : Int32) (_ : Unit) => r = res) (fun _ => gO D (va_A (GW L y ad σ) sz) (GW L y ad σ)) (va_A (GW L y ad σ) sz)) 0 0 (va_A (GW L y ad σ) sz) := by
  refine g_of (by decide) (Nat.le_of_ble_eq_true rfl) ?_
  intro p e s m below meth c ls A hx hb hr hml hown hg hlocks hin hsz hK hP hD hS hA hAe hl
  rw [← hAe]
  replace hown : s.vm.findClass RX7 = some m.cls := hown
  have hY : gY D y A s L ad σ s.heap [] := ⟨hP, hD, hS⟩
  clear hP hD hS
  replace hl : lv_has ls 4 [(0, .ref (ad 65)), (1, .ref (ad r1))] := hl
  unfold fX7_requiredBy at h
  refine lv_iconst (v := 0) hx hb dX7_requiredBy_0 (by decide) ?_
  refine lv_istore_n (lv' := [(2, .int 0), (0, .ref (ad 65)), (1, .ref (ad r1))]) hx hb dX7_requiredBy_1 rfl hl (by decide) rfl ?_
  clear hl
  intro ls hl
  refine lv_iconst (v := 0) hx hb dX7_requiredBy_2 (by decide) ?_
  refine lv_istore_n (lv' := [(3, .int 0), (2, .int 0), (0, .ref (ad 65)), (1, .ref (ad r1))]) hx hb dX7_requiredBy_3 rfl hl (by decide) rfl ?_
  clear hl
  intro ls hl
  exact wX7_requiredBy_4 hx hb hr hml hown hg hlocks hK hA hL hr1 N _ _ _ hY (lv_sub hl [2, 3, 1, 0] rfl) h
section
variable {p : Program} {l : Launch} {e : Env} {s : State} {m : MethodId} {args : Array Value} {below : List Frame} {meth : Method} {c : Code} {D : va_G} {y : Nat → ClassId} {aS : Nat → Nat} {A : Nat → Prop} {L : List Nat} {ad : Nat → Nat} {N : Nat} {res : gS}
end
def fX10_clear (N : Nat) (σ : gS) : Option gS := some (sI (sI (sI (sI σ 126 1 0) 128 1 0) 130 1 0) 132 1 0)
set_option maxRecDepth 100000 in
set_option maxHeartbeats 4000000 in
theorem kX10_clear (l : Launch) (D : va_G) (y : Nat → ClassId) (aS : Nat → Nat) (sz : Nat) (L : List Nat) (hL : ∀ k, k < 179 → k ∈ L) (ad : Nat → Nat) (N : Nat) (σ : gS) (res : gS) (h : fX10_clear N σ = some res) : Met l yX10_clear (Cond.code yX10_clear cX10_clear 1 none :: wsL_law) ({ frames := 0, cells := 0, slots := 0, locals := 0 } : Room) (va_Pc [.ref (ad 125)] (gI D y aS (GW L y ad σ) sz)) (va_Qv (fun (_ : Unit) => True) (fun _ => gO D (va_A (GW L y ad σ) sz) (GW L y ad res)) (va_A (GW L y ad σ) sz)) 0 0 (va_A (GW L y ad σ) sz) := by
  refine g_of (by decide) (Nat.le_of_ble_eq_true rfl) ?_
  intro p e s m below meth c ls A hx hb hr hml hown hg hlocks hin hsz hK hP hD hS hA hAe hl
  rw [← hAe]
  replace hown : s.vm.findClass RX10 = some m.cls := hown
  have hY : gY D y A s L ad σ s.heap [] := ⟨hP, hD, hS⟩
  clear hP hD hS
  replace hl : lv_has ls 1 [(0, .ref (ad 125))] := hl
  unfold fX10_clear at h
  refine lv_aload_n hx hb dX10_clear_0 rfl (lv_at hl 0 rfl) ?_
  refine G_get (ci := 10) (j := 0) (C := RX10) (T := TX10) (N := 4) (v := .ref (ad 126)) hx hb hg inlX10 hown hK hY (hL 125 (by decide)) gk_125 (by decide) rfl (by decide) tX10_0 (hg _ gw_128) rfl dX10_clear_1 ?_
  refine lv_iconst (v := 0) hx hb dX10_clear_4 (by decide) ?_
  refine G_putI (ci := 8) (j := 1) (C := RX8) (T := TX8) (N := 2) (v := 0) (ty := .int) hx hb hg inlX8 tyX8 tyX8_ok nmX8 hown hK hY (hL 126 (by decide)) gk_126 (by decide) rfl (by decide) tX8_1 (hg _ gw_829) (by decide +kernel) rfl rfl (fun _ _ => rfl) (fun _ _ => Nat.le_of_ble_eq_true rfl) dX10_clear_5 ?_
  clear hY
  intro H locs hY
  refine lv_aload_n hx hb dX10_clear_8 rfl (lv_at hl 0 rfl) ?_
  refine G_get (ci := 10) (j := 1) (C := RX10) (T := TX10) (N := 4) (v := .ref (ad 128)) hx hb hg inlX10 hown hK hY (hL 125 (by decide)) gk_125 (by decide) rfl (by decide) tX10_1 (hg _ gw_129) rfl dX10_clear_9 ?_
  refine lv_iconst (v := 0) hx hb dX10_clear_12 (by decide) ?_
  refine G_putI (ci := 8) (j := 1) (C := RX8) (T := TX8) (N := 2) (v := 0) (ty := .int) hx hb hg inlX8 tyX8 tyX8_ok nmX8 hown hK hY (hL 128 (by decide)) gk_128 (by decide) rfl (by decide) tX8_1 (hg _ gw_829) (by decide +kernel) rfl rfl (fun _ _ => rfl) (fun _ _ => Nat.le_of_ble_eq_true rfl) dX10_clear_13 ?_
  clear hY
  intro H locs hY
  refine lv_aload_n hx hb dX10_clear_16 rfl (lv_at hl 0 rfl) ?_
  refine G_get (ci := 10) (j := 2) (C := RX10) (T := TX10) (N := 4) (v := .ref (ad 130)) hx hb hg inlX10 hown hK hY (hL 125 (by decide)) gk_125 (by decide) rfl (by decide) tX10_2 (hg _ gw_130) rfl dX10_clear_17 ?_
  refine lv_iconst (v := 0) hx hb dX10_clear_20 (by decide) ?_
  refine G_putI (ci := 8) (j := 1) (C := RX8) (T := TX8) (N := 2) (v := 0) (ty := .int) hx hb hg inlX8 tyX8 tyX8_ok nmX8 hown hK hY (hL 130 (by decide)) gk_130 (by decide) rfl (by decide) tX8_1 (hg _ gw_829) (by decide +kernel) rfl rfl (fun _ _ => rfl) (fun _ _ => Nat.le_of_ble_eq_true rfl) dX10_clear_21 ?_
  clear hY
  intro H locs hY
  refine lv_aload_n hx hb dX10_clear_24 rfl (lv_at hl 0 rfl) ?_
  refine G_get (ci := 10) (j := 3) (C := RX10) (T := TX10) (N := 4) (v := .ref (ad 132)) hx hb hg inlX10 hown hK hY (hL 125 (by decide)) gk_125 (by decide) rfl (by decide) tX10_3 (hg _ gw_131) rfl dX10_clear_25 ?_
  refine lv_iconst (v := 0) hx hb dX10_clear_28 (by decide) ?_
  refine G_putI (ci := 8) (j := 1) (C := RX8) (T := TX8) (N := 2) (v := 0) (ty := .int) hx hb hg inlX8 tyX8 tyX8_ok nmX8 hown hK hY (hL 132 (by decide)) gk_132 (by decide) rfl (by decide) tX8_1 (hg _ gw_829) (by decide +kernel) rfl rfl (fun _ _ => rfl) (fun _ _ => Nat.le_of_ble_eq_true rfl) dX10_clear_29 ?_
  clear hY
  intro H locs hY
  cases h
  exact g_vret hx hb hr hlocks () hY.1 hY.2.1 hY.2.2 trivial (Nat.le_of_ble_eq_true rfl) (Nat.le_of_ble_eq_true rfl) dX10_clear_32
theorem ggV_RX10_41_X8_add : GoodIn wsL_law (wsV RX10 41 RX8 yX8_add (Cond.code yX8_add cX8_add 3 none :: wsL_law)) := g_gi (fun _ h => h) gW_good (List.forall_mem_cons.mpr ⟨⟨gw_850, rfl⟩, List.forall_mem_cons.mpr ⟨⟨gw_151, rfl⟩, List.forall_mem_cons.mpr ⟨⟨gw_152, rfl⟩, List.forall_mem_cons.mpr ⟨⟨gw_48, rfl⟩, fun _ h => nomatch h⟩⟩⟩⟩) ⟨gw_153, rfl⟩
theorem ggV_RX10_33_X8_whole : GoodIn wsL_law (wsV RX10 33 RX8 yX8_whole (Cond.code yX8_whole cX8_whole 2 (some .int) :: wsL_law)) := g_gi (fun _ h => h) gW_good (List.forall_mem_cons.mpr ⟨⟨gw_848, rfl⟩, List.forall_mem_cons.mpr ⟨⟨gw_214, rfl⟩, List.forall_mem_cons.mpr ⟨⟨gw_215, rfl⟩, List.forall_mem_cons.mpr ⟨⟨gw_48, rfl⟩, fun _ h => nomatch h⟩⟩⟩⟩) ⟨gw_216, rfl⟩
theorem ggV_RX10_37_X8_get : GoodIn wsL_law (wsV RX10 37 RX8 yX8_get (Cond.code yX8_get cX8_get 2 (some .long) :: wsL_law)) := g_gi (fun _ h => h) gW_good (List.forall_mem_cons.mpr ⟨⟨gw_849, rfl⟩, List.forall_mem_cons.mpr ⟨⟨gw_259, rfl⟩, List.forall_mem_cons.mpr ⟨⟨gw_260, rfl⟩, List.forall_mem_cons.mpr ⟨⟨gw_48, rfl⟩, fun _ h => nomatch h⟩⟩⟩⟩) ⟨gw_261, rfl⟩
section
variable {p : Program} {l : Launch} {e : Env} {s : State} {m : MethodId} {args : Array Value} {below : List Frame} {meth : Method} {c : Code} {D : va_G} {y : Nat → ClassId} {aS : Nat → Nat} {A : Nat → Prop} {L : List Nat} {ad : Nat → Nat} {N : Nat} {res : gS}
def fX10_add_43 (N : Nat) (rec3 : (gS × Int32) → Option gS) (σ : gS) (x1 : Int32) (x2 : Int64) (x4 : Int32) (x5 : Int32) (x6 : Int32) : Option gS := rec3 (σ, (x6 + 1))
set_option maxRecDepth 100000 in
set_option maxHeartbeats 4000000 in
theorem wX10_add_43 {rec3 : (gS × Int32) → Option gS} {σ : gS} {x1 : Int32} {x2 : Int64} {x4 : Int32} {x5 : Int32} {x6 : Int32} (hx : p.tables.exec = Jvm.exec) (hb : c.code = cX10_add) (hr : meth.sig.returnType = none) (hml : c.maxLocals = 7) (hown : s.vm.findClass RX10 = some m.cls) (hg : ∀ w ∈ wsL_law, w.before args s = true) (hlocks : meth.locks = false) (hK : gK D y aS s) (hA : ∀ q, s.heap.size ≤ q → A q) (hL : ∀ k, k < 179 → k ∈ L) (hrec3 : ∀ {σ9 : gS} {x6n9 : Int32} (H : Heap) (locs : List Loc) (ls : Array Slot), gY D y A s L ad σ9 H locs → lv_has ls 7 [(0, .ref (ad 125)), (1, .int x1), (2, .long x2), (4, .int x4), (5, .int x5), (6, .int x6n9)] → rec3 (σ9, x6n9) = some res → W p l e ({ frames := 1, cells := 0, slots := 0, locals := 22 } : Room) s m args below meth c H locs 0 0 (MQ below (va_Qv (fun (_ : Unit) => True) (fun _ => gO D A (GW L y ad res)) A) args s 0 0 A) (F0 m 3 ls [])) {H : Heap} {locs : List Loc} {ls : Array Slot} (hY : gY D y A s L ad σ H locs) (hl : lv_has ls 7 [(0, .ref (ad 125)), (1, .int x1), (2, .long x2), (4, .int x4), (5, .int x5), (6, .int x6)]) (h : fX10_add_43 N rec3 σ x1 x2 x4 x5 x6 = some res) : W p l e ({ frames := 1, cells := 0, slots := 0, locals := 22 } : Room) s m args below meth c H locs 0 0 (MQ below (va_Qv (fun (_ : Unit) => True) (fun _ => gO D A (GW L y ad res)) A) args s 0 0 A) (F0 m 43 ls []) := by
  unfold fX10_add_43 at h
  refine lv_iinc (v := (x6 + 1)) (lv' := [(6, .int (x6 + 1)), (0, .ref (ad 125)), (1, .int x1), (2, .long x2), (4, .int x4), (5, .int x5)]) hx hb dX10_add_43 hl (k := 5) rfl rfl (by decide) rfl ?_
  clear hl
  intro ls hl
  refine lv_goto (tgt := 3) hx hb dX10_add_46 (by decide) ?_
  exact hrec3 _ _ _ hY (lv_sub hl [1, 2, 3, 4, 5, 0] rfl) h
def fX10_add_3 (N : Nat) (x1 : Int32) (x2 : Int64) (x4 : Int32) (x5 : Int32) (rec3 : (gS × Int32) → Option gS) (xx : gS × Int32) : Option gS := match xx with
  | (σ, x6) => if (σ.1 126 1) ≤ x6 then ((fX8_add N σ 126 (x1.toInt64)).bind fun r_2 => (fX8_add N r_2 128 x2).bind fun r_4 => (fX8_add N r_4 130 (x4.toInt64)).bind fun r_6 => (fX8_add N r_6 132 (x5.toInt64)).bind fun r_8 => some r_8) else ((fX8_whole N σ 126 x6).bind fun r_10 => if r_10 = x1 then ((fX8_get N σ 128 x6).bind fun r_13 => if (lg_cmp r_13 x2) = 0 then (some σ) else (fX10_add_43 N rec3 σ x1 x2 x4 x5 x6)) else (fX10_add_43 N rec3 σ x1 x2 x4 x5 x6))
set_option maxRecDepth 100000 in
set_option maxHeartbeats 4000000 in
theorem wX10_add_3 {x1 : Int32} {x2 : Int64} {x4 : Int32} {x5 : Int32} (hx : p.tables.exec = Jvm.exec) (hb : c.code = cX10_add) (hr : meth.sig.returnType = none) (hml : c.maxLocals = 7) (hown : s.vm.findClass RX10 = some m.cls) (hg : ∀ w ∈ wsL_law, w.before args s = true) (hlocks : meth.locks = false) (hK : gK D y aS s) (hA : ∀ q, s.heap.size ≤ q → A q) (hL : ∀ k, k < 179 → k ∈ L) : ∀ (n : Nat) {σ : gS} {x6 : Int32} (H : Heap) (locs : List Loc) (ls : Array Slot), gY D y A s L ad σ H locs → lv_has ls 7 [(0, .ref (ad 125)), (1, .int x1), (2, .long x2), (4, .int x4), (5, .int x5), (6, .int x6)] → lp (fX10_add_3 N x1 x2 x4 x5) n (σ, x6) = some res → W p l e ({ frames := 1, cells := 0, slots := 0, locals := 22 } : Room) s m args below meth c H locs 0 0 (MQ below (va_Qv (fun (_ : Unit) => True) (fun _ => gO D A (GW L y ad res)) A) args s 0 0 A) (F0 m 3 ls []) := by
  intro n
  induction n with
  | zero => intro σ x6 H locs ls hY hl h; exact nomatch (show none = some res from h)
  | succ n hrec3 =>
    intro σ x6 H locs ls hY hl h
    replace h : fX10_add_3 N x1 x2 x4 x5 (lp (fX10_add_3 N x1 x2 x4 x5) n) (σ, x6) = some res := h
    generalize lp (fX10_add_3 N x1 x2 x4 x5) n = rec3 at h hrec3
    unfold fX10_add_3 at h
    try dsimp only at h
    refine lv_iload hx hb dX10_add_3 (lv_at hl 5 rfl) ?_
    refine lv_aload_n hx hb dX10_add_5 rfl (lv_at hl 0 rfl) ?_
    refine G_get (ci := 10) (j := 0) (C := RX10) (T := TX10) (N := 4) (v := .ref (ad 126)) hx hb hg inlX10 hown hK hY (hL 125 (by decide)) gk_125 (by decide) rfl (by decide) tX10_0 (hg _ gw_128) rfl dX10_add_6 ?_
    refine G_get (ci := 8) (j := 1) (C := RX8) (T := TX8) (N := 2) (v := .int (σ.1 126 1)) hx hb hg inlX8 hown hK hY (hL 126 (by decide)) gk_126 (by decide) rfl (by decide) tX8_1 (hg _ gw_829) rfl dX10_add_9 ?_
    refine lv_icmp_ge (tgt := 49) hx hb dX10_add_12 (by decide) (fun z_1 => ?_) (fun z_1 => ?_)
    ·
      rw [if_pos z_1] at h
      refine lv_aload_n hx hb dX10_add_49 rfl (lv_at hl 0 rfl) ?_
      refine G_get (ci := 10) (j := 0) (C := RX10) (T := TX10) (N := 4) (v := .ref (ad 126)) hx hb hg inlX10 hown hK hY (hL 125 (by decide)) gk_125 (by decide) rfl (by decide) tX10_0 (hg _ gw_128) rfl dX10_add_50 ?_
      refine lv_iload_n hx hb dX10_add_53 rfl (lv_at hl 1 rfl) ?_
      refine lv_i2l (v := (x1.toInt64)) hx hb dX10_add_54 rfl ?_
      obtain ⟨r_2, e_3, h⟩ := g_bind h
      refine G_av hY hA (va_runV (As := [.long (x1.toInt64)]) (rest := []) ⟨hx, hb, hml, hown, hg⟩ (kX8_add l D y aS H.size L hL ad N σ 126 (x1.toInt64) _ gk_126 e_3) (cwV 1 hg ggV_RX10_41_X8_add rfl rfl rfl (by decide +kernel) ⟨Nat.le_of_ble_eq_true rfl, Nat.le_of_ble_eq_true rfl⟩) (G_pV (q := (RX8, TX8, 2)) hK hY (hL 126 (by decide)) gk_126 (by decide) rfl) rfl rfl hl.1 rfl (lv_room (Nat.le_of_ble_eq_true rfl)) dX10_add_55 ⟨Nat.le_of_ble_eq_true rfl, Nat.le_of_ble_eq_true rfl⟩) ?_
      clear hY
      rintro H locs hY
      refine lv_aload_n hx hb dX10_add_58 rfl (lv_at hl 0 rfl) ?_
      refine G_get (ci := 10) (j := 1) (C := RX10) (T := TX10) (N := 4) (v := .ref (ad 128)) hx hb hg inlX10 hown hK hY (hL 125 (by decide)) gk_125 (by decide) rfl (by decide) tX10_1 (hg _ gw_129) rfl dX10_add_59 ?_
      refine lv_lload_n hx hb dX10_add_62 rfl (lv_at hl 2 rfl) ?_
      obtain ⟨r_4, e_5, h⟩ := g_bind h
      refine G_av hY hA (va_runV (As := [.long x2]) (rest := []) ⟨hx, hb, hml, hown, hg⟩ (kX8_add l D y aS H.size L hL ad N r_2 128 x2 _ gk_128 e_5) (cwV 1 hg ggV_RX10_41_X8_add rfl rfl rfl (by decide +kernel) ⟨Nat.le_of_ble_eq_true rfl, Nat.le_of_ble_eq_true rfl⟩) (G_pV (q := (RX8, TX8, 2)) hK hY (hL 128 (by decide)) gk_128 (by decide) rfl) rfl rfl hl.1 rfl (lv_room (Nat.le_of_ble_eq_true rfl)) dX10_add_63 ⟨Nat.le_of_ble_eq_true rfl, Nat.le_of_ble_eq_true rfl⟩) ?_
      clear hY
      rintro H locs hY
      refine lv_aload_n hx hb dX10_add_66 rfl (lv_at hl 0 rfl) ?_
      refine G_get (ci := 10) (j := 2) (C := RX10) (T := TX10) (N := 4) (v := .ref (ad 130)) hx hb hg inlX10 hown hK hY (hL 125 (by decide)) gk_125 (by decide) rfl (by decide) tX10_2 (hg _ gw_130) rfl dX10_add_67 ?_
      refine lv_iload hx hb dX10_add_70 (lv_at hl 3 rfl) ?_
      refine lv_i2l (v := (x4.toInt64)) hx hb dX10_add_72 rfl ?_
      obtain ⟨r_6, e_7, h⟩ := g_bind h
      refine G_av hY hA (va_runV (As := [.long (x4.toInt64)]) (rest := []) ⟨hx, hb, hml, hown, hg⟩ (kX8_add l D y aS H.size L hL ad N r_4 130 (x4.toInt64) _ gk_130 e_7) (cwV 1 hg ggV_RX10_41_X8_add rfl rfl rfl (by decide +kernel) ⟨Nat.le_of_ble_eq_true rfl, Nat.le_of_ble_eq_true rfl⟩) (G_pV (q := (RX8, TX8, 2)) hK hY (hL 130 (by decide)) gk_130 (by decide) rfl) rfl rfl hl.1 rfl (lv_room (Nat.le_of_ble_eq_true rfl)) dX10_add_73 ⟨Nat.le_of_ble_eq_true rfl, Nat.le_of_ble_eq_true rfl⟩) ?_
      clear hY
      rintro H locs hY
      refine lv_aload_n hx hb dX10_add_76 rfl (lv_at hl 0 rfl) ?_
      refine G_get (ci := 10) (j := 3) (C := RX10) (T := TX10) (N := 4) (v := .ref (ad 132)) hx hb hg inlX10 hown hK hY (hL 125 (by decide)) gk_125 (by decide) rfl (by decide) tX10_3 (hg _ gw_131) rfl dX10_add_77 ?_
      refine lv_iload hx hb dX10_add_80 (lv_at hl 4 rfl) ?_
      refine lv_i2l (v := (x5.toInt64)) hx hb dX10_add_82 rfl ?_
      obtain ⟨r_8, e_9, h⟩ := g_bind h
      refine G_av hY hA (va_runV (As := [.long (x5.toInt64)]) (rest := []) ⟨hx, hb, hml, hown, hg⟩ (kX8_add l D y aS H.size L hL ad N r_6 132 (x5.toInt64) _ gk_132 e_9) (cwV 1 hg ggV_RX10_41_X8_add rfl rfl rfl (by decide +kernel) ⟨Nat.le_of_ble_eq_true rfl, Nat.le_of_ble_eq_true rfl⟩) (G_pV (q := (RX8, TX8, 2)) hK hY (hL 132 (by decide)) gk_132 (by decide) rfl) rfl rfl hl.1 rfl (lv_room (Nat.le_of_ble_eq_true rfl)) dX10_add_83 ⟨Nat.le_of_ble_eq_true rfl, Nat.le_of_ble_eq_true rfl⟩) ?_
      clear hY
      rintro H locs hY
      cases h
      exact g_vret hx hb hr hlocks () hY.1 hY.2.1 hY.2.2 trivial (Nat.le_of_ble_eq_true rfl) (Nat.le_of_ble_eq_true rfl) dX10_add_86
    ·
      rw [if_neg z_1] at h
      refine lv_aload_n hx hb dX10_add_15 rfl (lv_at hl 0 rfl) ?_
      refine G_get (ci := 10) (j := 0) (C := RX10) (T := TX10) (N := 4) (v := .ref (ad 126)) hx hb hg inlX10 hown hK hY (hL 125 (by decide)) gk_125 (by decide) rfl (by decide) tX10_0 (hg _ gw_128) rfl dX10_add_16 ?_
      refine lv_iload hx hb dX10_add_19 (lv_at hl 5 rfl) ?_
      obtain ⟨r_10, e_11, h⟩ := g_bind h
      refine G_ai hY hA (va_runV (As := [.int x6]) (rest := []) ⟨hx, hb, hml, hown, hg⟩ (kX8_whole l D y aS H.size L hL ad N σ 126 x6 _ gk_126 e_11) (cwV 1 hg ggV_RX10_33_X8_whole rfl rfl rfl (by decide +kernel) ⟨Nat.le_of_ble_eq_true rfl, Nat.le_of_ble_eq_true rfl⟩) (G_pV (q := (RX8, TX8, 2)) hK hY (hL 126 (by decide)) gk_126 (by decide) rfl) rfl rfl hl.1 rfl (lv_room (Nat.le_of_ble_eq_true rfl)) dX10_add_21 ⟨Nat.le_of_ble_eq_true rfl, Nat.le_of_ble_eq_true rfl⟩) ?_
      clear hY
      rintro _ H locs rfl hY
      refine lv_iload_n hx hb dX10_add_24 rfl (lv_at hl 1 rfl) ?_
      refine lv_icmp_ne (tgt := 43) hx hb dX10_add_25 (by decide) (fun z_12 => ?_) (fun z_12 => ?_)
      ·
        rw [if_neg z_12] at h
        exact wX10_add_43 hx hb hr hml hown hg hlocks hK hA hL hrec3 hY (lv_sub hl [0, 1, 2, 3, 4, 5] rfl) h
      ·
        rw [if_pos z_12] at h
        refine lv_aload_n hx hb dX10_add_28 rfl (lv_at hl 0 rfl) ?_
        refine G_get (ci := 10) (j := 1) (C := RX10) (T := TX10) (N := 4) (v := .ref (ad 128)) hx hb hg inlX10 hown hK hY (hL 125 (by decide)) gk_125 (by decide) rfl (by decide) tX10_1 (hg _ gw_129) rfl dX10_add_29 ?_
        refine lv_iload hx hb dX10_add_32 (lv_at hl 5 rfl) ?_
        obtain ⟨r_13, e_14, h⟩ := g_bind h
        refine G_al hY hA (va_runV (As := [.int x6]) (rest := []) ⟨hx, hb, hml, hown, hg⟩ (kX8_get l D y aS H.size L hL ad N σ 128 x6 _ gk_128 e_14) (cwV 1 hg ggV_RX10_37_X8_get rfl rfl rfl (by decide +kernel) ⟨Nat.le_of_ble_eq_true rfl, Nat.le_of_ble_eq_true rfl⟩) (G_pV (q := (RX8, TX8, 2)) hK hY (hL 128 (by decide)) gk_128 (by decide) rfl) rfl rfl hl.1 rfl (lv_room (Nat.le_of_ble_eq_true rfl)) dX10_add_34 ⟨Nat.le_of_ble_eq_true rfl, Nat.le_of_ble_eq_true rfl⟩) ?_
        clear hY
        rintro _ H locs rfl hY
        refine lv_lload_n hx hb dX10_add_37 rfl (lv_at hl 2 rfl) ?_
        refine W.lcmp hx hb dX10_add_38 ?_
        refine lv_if_ne (tgt := 43) hx hb dX10_add_39 (by decide) (fun z_15 => ?_) (fun z_15 => ?_)
        ·
          rw [if_neg z_15] at h
          exact wX10_add_43 hx hb hr hml hown hg hlocks hK hA hL hrec3 hY (lv_sub hl [0, 1, 2, 3, 4, 5] rfl) h
        ·
          rw [if_pos z_15] at h
          cases h
          exact g_vret hx hb hr hlocks () hY.1 hY.2.1 hY.2.2 trivial (Nat.le_of_ble_eq_true rfl) (Nat.le_of_ble_eq_true rfl) dX10_add_42
end
def fX10_add (N : Nat) (σ : gS) (x1 : Int32) (x2 : Int64) (x4 : Int32) (x5 : Int32) : Option gS := lp (fX10_add_3 N x1 x2 x4 x5) N (σ, 0)
set_option maxRecDepth 100000 in
set_option maxHeartbeats 4000000 in
theorem kX10_add (l : Launch) (D : va_G) (y : Nat → ClassId) (aS : Nat → Nat) (sz : Nat) (L : List Nat) (hL : ∀ k, k < 179 → k ∈ L) (ad : Nat → Nat) (N : Nat) (σ : gS) (x1 : Int32) (x2 : Int64) (x4 : Int32) (x5 : Int32) (res : gS) (h : fX10_add N σ x1 x2 x4 x5 = some res) : Met l yX10_add (Cond.code yX10_add cX10_add 7 none :: wsL_law) ({ frames := 1, cells := 0, slots := 0, locals := 22 } : Room) (va_Pc [.ref (ad 125), .int x1, .long x2, .int x4, .int x5] (gI D y aS (GW L y ad σ) sz)) (va_Qv (fun (_ : Unit) => True) (fun _ => gO D (va_A (GW L y ad σ) sz) (GW L y ad res)) (va_A (GW L y ad σ) sz)) 0 0 (va_A (GW L y ad σ) sz) := by
  refine g_of (by decide) (Nat.le_of_ble_eq_true rfl) ?_
  intro p e s m below meth c ls A hx hb hr hml hown hg hlocks hin hsz hK hP hD hS hA hAe hl
  rw [← hAe]
  replace hown : s.vm.findClass RX10 = some m.cls := hown
  have hY : gY D y A s L ad σ s.heap [] := ⟨hP, hD, hS⟩
  clear hP hD hS
  replace hl : lv_has ls 7 [(0, .ref (ad 125)), (1, .int x1), (2, .long x2), (4, .int x4), (5, .int x5)] := hl
  unfold fX10_add at h
  refine lv_iconst (v := 0) hx hb dX10_add_0 (by decide) ?_
  refine lv_istore (lv' := [(6, .int 0), (0, .ref (ad 125)), (1, .int x1), (2, .long x2), (4, .int x4), (5, .int x5)]) hx hb dX10_add_1 hl (by decide) rfl ?_
  clear hl
  intro ls hl
  exact wX10_add_3 hx hb hr hml hown hg hlocks hK hA hL N _ _ _ hY (lv_sub hl [1, 2, 3, 4, 5, 0] rfl) h
section
variable {p : Program} {l : Launch} {e : Env} {s : State} {m : MethodId} {args : Array Value} {below : List Frame} {meth : Method} {c : Code} {D : va_G} {y : Nat → ClassId} {aS : Nat → Nat} {A : Nat → Prop} {L : List Nat} {ad : Nat → Nat} {N : Nat} {res : Int32}
def fX10_firstFor_44 (N : Nat) (rec2 : Int32 → Option Int32) (σ : gS) (x1 : Int32) (x2 : Int32) (x3 : Int32) : Option Int32 := rec2 (x3 + 1)
set_option maxRecDepth 100000 in
set_option maxHeartbeats 4000000 in
theorem wX10_firstFor_44 {rec2 : Int32 → Option Int32} {σ : gS} {x1 : Int32} {x2 : Int32} {x3 : Int32} (hx : p.tables.exec = Jvm.exec) (hb : c.code = cX10_firstFor) (hr : meth.sig.returnType = (some .int)) (hml : c.maxLocals = 4) (hown : s.vm.findClass RX10 = some m.cls) (hg : ∀ w ∈ wsL_law, w.before args s = true) (hlocks : meth.locks = false) (hK : gK D y aS s) (hA : ∀ q, s.heap.size ≤ q → A q) (hL : ∀ k, k < 179 → k ∈ L) (hrec2 : ∀ {x3n9 : Int32} (H : Heap) (locs : List Loc) (ls : Array Slot), gY D y A s L ad σ H locs → lv_has ls 4 [(0, .ref (ad 125)), (1, .int x1), (2, .int x2), (3, .int x3n9)] → rec2 x3n9 = some res → W p l e ({ frames := 1, cells := 0, slots := 0, locals := 21 } : Room) s m args below meth c H locs 0 0 (MQ below (va_Qi (fun (r : Int32) (_ : Unit) => r = res) (fun _ => gO D A (GW L y ad σ)) A) args s 0 0 A) (F0 m 2 ls [])) {H : Heap} {locs : List Loc} {ls : Array Slot} (hY : gY D y A s L ad σ H locs) (hl : lv_has ls 4 [(0, .ref (ad 125)), (1, .int x1), (2, .int x2), (3, .int x3)]) (h : fX10_firstFor_44 N rec2 σ x1 x2 x3 = some res) : W p l e ({ frames := 1, cells := 0, slots := 0, locals := 21 } : Room) s m args below meth c H locs 0 0 (MQ below (va_Qi (fun (r : Int32) (_ : Unit) => r = res) (fun _ => gO D A (GW L y ad σ)) A) args s 0 0 A) (F0 m 44 ls []) := by
  unfold fX10_firstFor_44 at h
  refine lv_iinc (v := (x3 + 1)) (lv' := [(3, .int (x3 + 1)), (0, .ref (ad 125)), (1, .int x1), (2, .int x2)]) hx hb dX10_firstFor_44 hl (k := 3) rfl rfl (by decide) rfl ?_
  clear hl
  intro ls hl
  refine lv_goto (tgt := 2) hx hb dX10_firstFor_47 (by decide) ?_
  exact hrec2 _ _ _ hY (lv_sub hl [1, 2, 3, 0] rfl) h
def fX10_firstFor_42 (N : Nat) (σ : gS) (x3 : Int32) : Option Int32 := some x3
set_option maxRecDepth 100000 in
set_option maxHeartbeats 4000000 in
theorem wX10_firstFor_42 {σ : gS} {x3 : Int32} (hx : p.tables.exec = Jvm.exec) (hb : c.code = cX10_firstFor) (hr : meth.sig.returnType = (some .int)) (hml : c.maxLocals = 4) (hown : s.vm.findClass RX10 = some m.cls) (hg : ∀ w ∈ wsL_law, w.before args s = true) (hlocks : meth.locks = false) (hK : gK D y aS s) (hA : ∀ q, s.heap.size ≤ q → A q) (hL : ∀ k, k < 179 → k ∈ L) {H : Heap} {locs : List Loc} {ls : Array Slot} (hY : gY D y A s L ad σ H locs) (hl : lv_has ls 4 [(3, .int x3)]) (h : fX10_firstFor_42 N σ x3 = some res) : W p l e ({ frames := 1, cells := 0, slots := 0, locals := 21 } : Room) s m args below meth c H locs 0 0 (MQ below (va_Qi (fun (r : Int32) (_ : Unit) => r = res) (fun _ => gO D A (GW L y ad σ)) A) args s 0 0 A) (F0 m 42 ls []) := by
  unfold fX10_firstFor_42 at h
  refine lv_iload_n hx hb dX10_firstFor_42 rfl (lv_at hl 0 rfl) ?_
  cases h
  exact g_iret hx hb hr hlocks () hY.1 hY.2.1 hY.2.2 rfl rfl (Nat.le_of_ble_eq_true rfl) (Nat.le_of_ble_eq_true rfl) dX10_firstFor_43
def fX10_firstFor_2 (N : Nat) (σ : gS) (x1 : Int32) (x2 : Int32) (rec2 : Int32 → Option Int32) (x3 : Int32) : Option Int32 := if (σ.1 132 1) ≤ x3 then (some (-1)) else ((fX8_whole N σ 132 x3).bind fun r_2 => if r_2 = x1 then (if x2 = (-1) then (fX10_firstFor_42 N σ x3) else ((fX8_whole N σ 130 x3).bind fun r_6 => if r_6 = x2 then (fX10_firstFor_42 N σ x3) else (fX10_firstFor_44 N rec2 σ x1 x2 x3))) else (fX10_firstFor_44 N rec2 σ x1 x2 x3))
set_option maxRecDepth 100000 in
set_option maxHeartbeats 4000000 in
theorem wX10_firstFor_2 {σ : gS} {x1 : Int32} {x2 : Int32} (hx : p.tables.exec = Jvm.exec) (hb : c.code = cX10_firstFor) (hr : meth.sig.returnType = (some .int)) (hml : c.maxLocals = 4) (hown : s.vm.findClass RX10 = some m.cls) (hg : ∀ w ∈ wsL_law, w.before args s = true) (hlocks : meth.locks = false) (hK : gK D y aS s) (hA : ∀ q, s.heap.size ≤ q → A q) (hL : ∀ k, k < 179 → k ∈ L) : ∀ (n : Nat) {x3 : Int32} (H : Heap) (locs : List Loc) (ls : Array Slot), gY D y A s L ad σ H locs → lv_has ls 4 [(0, .ref (ad 125)), (1, .int x1), (2, .int x2), (3, .int x3)] → lp (fX10_firstFor_2 N σ x1 x2) n x3 = some res → W p l e ({ frames := 1, cells := 0, slots := 0, locals := 21 } : Room) s m args below meth c H locs 0 0 (MQ below (va_Qi (fun (r : Int32) (_ : Unit) => r = res) (fun _ => gO D A (GW L y ad σ)) A) args s 0 0 A) (F0 m 2 ls []) := by
  intro n
  induction n with
  | zero => intro x3 H locs ls hY hl h; exact nomatch (show none = some res from h)
  | succ n hrec2 =>
    intro x3 H locs ls hY hl h
    replace h : fX10_firstFor_2 N σ x1 x2 (lp (fX10_firstFor_2 N σ x1 x2) n) x3 = some res := h
    generalize lp (fX10_firstFor_2 N σ x1 x2) n = rec2 at h hrec2
    unfold fX10_firstFor_2 at h
    try dsimp only at h
    refine lv_iload_n hx hb dX10_firstFor_2 rfl (lv_at hl 3 rfl) ?_
    refine lv_aload_n hx hb dX10_firstFor_3 rfl (lv_at hl 0 rfl) ?_
    refine G_get (ci := 10) (j := 3) (C := RX10) (T := TX10) (N := 4) (v := .ref (ad 132)) hx hb hg inlX10 hown hK hY (hL 125 (by decide)) gk_125 (by decide) rfl (by decide) tX10_3 (hg _ gw_131) rfl dX10_firstFor_4 ?_
    refine G_get (ci := 8) (j := 1) (C := RX8) (T := TX8) (N := 2) (v := .int (σ.1 132 1)) hx hb hg inlX8 hown hK hY (hL 132 (by decide)) gk_132 (by decide) rfl (by decide) tX8_1 (hg _ gw_829) rfl dX10_firstFor_7 ?_
    refine lv_icmp_ge (tgt := 50) hx hb dX10_firstFor_10 (by decide) (fun z_1 => ?_) (fun z_1 => ?_)
    ·
      rw [if_pos z_1] at h
      refine lv_iconst (v := (-1)) hx hb dX10_firstFor_50 (by decide) ?_
      cases h
      exact g_iret hx hb hr hlocks () hY.1 hY.2.1 hY.2.2 rfl rfl (Nat.le_of_ble_eq_true rfl) (Nat.le_of_ble_eq_true rfl) dX10_firstFor_51
    ·
      rw [if_neg z_1] at h
      refine lv_aload_n hx hb dX10_firstFor_13 rfl (lv_at hl 0 rfl) ?_
      refine G_get (ci := 10) (j := 3) (C := RX10) (T := TX10) (N := 4) (v := .ref (ad 132)) hx hb hg inlX10 hown hK hY (hL 125 (by decide)) gk_125 (by decide) rfl (by decide) tX10_3 (hg _ gw_131) rfl dX10_firstFor_14 ?_
      refine lv_iload_n hx hb dX10_firstFor_17 rfl (lv_at hl 3 rfl) ?_
      obtain ⟨r_2, e_3, h⟩ := g_bind h
      refine G_ai hY hA (va_runV (As := [.int x3]) (rest := []) ⟨hx, hb, hml, hown, hg⟩ (kX8_whole l D y aS H.size L hL ad N σ 132 x3 _ gk_132 e_3) (cwV 1 hg ggV_RX10_33_X8_whole rfl rfl rfl (by decide +kernel) ⟨Nat.le_of_ble_eq_true rfl, Nat.le_of_ble_eq_true rfl⟩) (G_pV (q := (RX8, TX8, 2)) hK hY (hL 132 (by decide)) gk_132 (by decide) rfl) rfl rfl hl.1 rfl (lv_room (Nat.le_of_ble_eq_true rfl)) dX10_firstFor_18 ⟨Nat.le_of_ble_eq_true rfl, Nat.le_of_ble_eq_true rfl⟩) ?_
      clear hY
      rintro _ H locs rfl hY
      refine lv_iload_n hx hb dX10_firstFor_21 rfl (lv_at hl 1 rfl) ?_
      refine lv_icmp_ne (tgt := 44) hx hb dX10_firstFor_22 (by decide) (fun z_4 => ?_) (fun z_4 => ?_)
      ·
        rw [if_neg z_4] at h
        exact wX10_firstFor_44 hx hb hr hml hown hg hlocks hK hA hL hrec2 hY (lv_sub hl [0, 1, 2, 3] rfl) h
      ·
        rw [if_pos z_4] at h
        refine lv_iload_n hx hb dX10_firstFor_25 rfl (lv_at hl 2 rfl) ?_
        refine lv_iconst (v := (-1)) hx hb dX10_firstFor_26 (by decide) ?_
        refine lv_icmp_eq (tgt := 42) hx hb dX10_firstFor_27 (by decide) (fun z_5 => ?_) (fun z_5 => ?_)
        ·
          rw [if_pos z_5] at h
          exact wX10_firstFor_42 hx hb hr hml hown hg hlocks hK hA hL hY (lv_sub hl [3] rfl) h
        ·
          rw [if_neg z_5] at h
          refine lv_aload_n hx hb dX10_firstFor_30 rfl (lv_at hl 0 rfl) ?_
          refine G_get (ci := 10) (j := 2) (C := RX10) (T := TX10) (N := 4) (v := .ref (ad 130)) hx hb hg inlX10 hown hK hY (hL 125 (by decide)) gk_125 (by decide) rfl (by decide) tX10_2 (hg _ gw_130) rfl dX10_firstFor_31 ?_
          refine lv_iload_n hx hb dX10_firstFor_34 rfl (lv_at hl 3 rfl) ?_
          obtain ⟨r_6, e_7, h⟩ := g_bind h
          refine G_ai hY hA (va_runV (As := [.int x3]) (rest := []) ⟨hx, hb, hml, hown, hg⟩ (kX8_whole l D y aS H.size L hL ad N σ 130 x3 _ gk_130 e_7) (cwV 1 hg ggV_RX10_33_X8_whole rfl rfl rfl (by decide +kernel) ⟨Nat.le_of_ble_eq_true rfl, Nat.le_of_ble_eq_true rfl⟩) (G_pV (q := (RX8, TX8, 2)) hK hY (hL 130 (by decide)) gk_130 (by decide) rfl) rfl rfl hl.1 rfl (lv_room (Nat.le_of_ble_eq_true rfl)) dX10_firstFor_35 ⟨Nat.le_of_ble_eq_true rfl, Nat.le_of_ble_eq_true rfl⟩) ?_
          clear hY
          rintro _ H locs rfl hY
          refine lv_iload_n hx hb dX10_firstFor_38 rfl (lv_at hl 2 rfl) ?_
          refine lv_icmp_ne (tgt := 44) hx hb dX10_firstFor_39 (by decide) (fun z_8 => ?_) (fun z_8 => ?_)
          ·
            rw [if_neg z_8] at h
            exact wX10_firstFor_44 hx hb hr hml hown hg hlocks hK hA hL hrec2 hY (lv_sub hl [0, 1, 2, 3] rfl) h
          ·
            rw [if_pos z_8] at h
            exact wX10_firstFor_42 hx hb hr hml hown hg hlocks hK hA hL hY (lv_sub hl [3] rfl) h
end
def fX10_firstFor (N : Nat) (σ : gS) (x1 : Int32) (x2 : Int32) : Option Int32 := lp (fX10_firstFor_2 N σ x1 x2) N 0
set_option maxRecDepth 100000 in
set_option maxHeartbeats 4000000 in
theorem kX10_firstFor (l : Launch) (D : va_G) (y : Nat → ClassId) (aS : Nat → Nat) (sz : Nat) (L : List Nat) (hL : ∀ k, k < 179 → k ∈ L) (ad : Nat → Nat) (N : Nat) (σ : gS) (x1 : Int32) (x2 : Int32) (res : Int32) (h : fX10_firstFor N σ x1 x2 = some res) : Met l yX10_firstFor (Cond.code yX10_firstFor cX10_firstFor 4 (some .int) :: wsL_law) ({ frames := 1, cells := 0, slots := 0, locals := 21 } : Room) (va_Pc [.ref (ad 125), .int x1, .int x2] (gI D y aS (GW L y ad σ) sz)) (va_Qi (fun (r : Int32) (_ : Unit) => r = res) (fun _ => gO D (va_A (GW L y ad σ) sz) (GW L y ad σ)) (va_A (GW L y ad σ) sz)) 0 0 (va_A (GW L y ad σ) sz) := by
  refine g_of (by decide) (Nat.le_of_ble_eq_true rfl) ?_
  intro p e s m below meth c ls A hx hb hr hml hown hg hlocks hin hsz hK hP hD hS hA hAe hl
  rw [← hAe]
  replace hown : s.vm.findClass RX10 = some m.cls := hown
  have hY : gY D y A s L ad σ s.heap [] := ⟨hP, hD, hS⟩
  clear hP hD hS
  replace hl : lv_has ls 4 [(0, .ref (ad 125)), (1, .int x1), (2, .int x2)] := hl
  unfold fX10_firstFor at h
  refine lv_iconst (v := 0) hx hb dX10_firstFor_0 (by decide) ?_
  refine lv_istore_n (lv' := [(3, .int 0), (0, .ref (ad 125)), (1, .int x1), (2, .int x2)]) hx hb dX10_firstFor_1 rfl hl (by decide) rfl ?_
  clear hl
  intro ls hl
  exact wX10_firstFor_2 hx hb hr hml hown hg hlocks hK hA hL N _ _ _ hY (lv_sub hl [1, 2, 3, 0] rfl) h
section
variable {p : Program} {l : Launch} {e : Env} {s : State} {m : MethodId} {args : Array Value} {below : List Frame} {meth : Method} {c : Code} {D : va_G} {y : Nat → ClassId} {aS : Nat → Nat} {A : Nat → Prop} {L : List Nat} {ad : Nat → Nat} {N : Nat} {res : Int64}
end
def fX9_keyOf (N : Nat) (σ : gS) (r0 : Nat) (x1 : Int64) : Option Int64 := some ((((((σ.1 r0 7).toInt64) <<< ((52 : Int32).toInt64 &&& 63))) ||| (((((σ.1 r0 0) + 1).toInt64) <<< ((48 : Int32).toInt64 &&& 63)))) ||| (x1 &&& (σ.2.1 r0 3)))
set_option maxRecDepth 100000 in
set_option maxHeartbeats 4000000 in
theorem kX9_keyOf (l : Launch) (D : va_G) (y : Nat → ClassId) (aS : Nat → Nat) (sz : Nat) (L : List Nat) (hL : ∀ k, k < 179 → k ∈ L) (ad : Nat → Nat) (N : Nat) (σ : gS) (r0 : Nat) (x1 : Int64) (res : Int64) (hr0 : gcl r0 = 3) (h : fX9_keyOf N σ r0 x1 = some res) : Met l yX9_keyOf (Cond.code yX9_keyOf cX9_keyOf 3 (some .long) :: wsL_law) ({ frames := 0, cells := 0, slots := 0, locals := 0 } : Room) (va_Pc [.ref (ad r0), .long x1] (gI D y aS (GW L y ad σ) sz)) (va_Ql (fun (r : Int64) (_ : Unit) => r = res) (fun _ => gO D (va_A (GW L y ad σ) sz) (GW L y ad σ)) (va_A (GW L y ad σ) sz)) 0 0 (va_A (GW L y ad σ) sz) := by
  refine g_of (by decide) (Nat.le_of_ble_eq_true rfl) ?_
  intro p e s m below meth c ls A hx hb hr hml hown hg hlocks hin hsz hK hP hD hS hA hAe hl
  rw [← hAe]
  replace hown : s.vm.findClass RX9 = some m.cls := hown
  have hY : gY D y A s L ad σ s.heap [] := ⟨hP, hD, hS⟩
  clear hP hD hS
  replace hl : lv_has ls 3 [(0, .ref (ad r0)), (1, .long x1)] := hl
  unfold fX9_keyOf at h
  refine lv_aload_n hx hb dX9_keyOf_0 rfl (lv_at hl 0 rfl) ?_
  refine G_get (ci := 3) (j := 7) (C := RX3) (T := TX3) (N := 10) (v := .int (σ.1 r0 7)) hx hb hg inlX3 hown hK hY (hL _ (gcl_lt hr0 (by decide))) hr0 (by decide) rfl (by decide) tX3_7 (hg _ gw_499) rfl dX9_keyOf_1 ?_
  refine lv_i2l (v := ((σ.1 r0 7).toInt64)) hx hb dX9_keyOf_4 rfl ?_
  refine lv_bipush (v := 52) hx hb dX9_keyOf_5 (by decide +kernel) ?_
  refine lv_lshl (v := ((((σ.1 r0 7).toInt64) <<< ((52 : Int32).toInt64 &&& 63)))) hx hb dX9_keyOf_7 rfl ?_
  refine lv_aload_n hx hb dX9_keyOf_8 rfl (lv_at hl 0 rfl) ?_
  refine G_get (ci := 3) (j := 0) (C := RX3) (T := TX3) (N := 10) (v := .int (σ.1 r0 0)) hx hb hg inlX3 hown hK hY (hL _ (gcl_lt hr0 (by decide))) hr0 (by decide) rfl (by decide) tX3_0 (hg _ gw_500) rfl dX9_keyOf_9 ?_
  refine lv_iconst (v := 1) hx hb dX9_keyOf_12 (by decide) ?_
  refine lv_iadd hx hb dX9_keyOf_13 ?_
  refine lv_i2l (v := (((σ.1 r0 0) + 1).toInt64)) hx hb dX9_keyOf_14 rfl ?_
  refine lv_bipush (v := 48) hx hb dX9_keyOf_15 (by decide +kernel) ?_
  refine lv_lshl (v := (((((σ.1 r0 0) + 1).toInt64) <<< ((48 : Int32).toInt64 &&& 63)))) hx hb dX9_keyOf_17 rfl ?_
  refine lv_lor hx hb dX9_keyOf_18 ?_
  refine lv_lload_n hx hb dX9_keyOf_19 rfl (lv_at hl 1 rfl) ?_
  refine lv_aload_n hx hb dX9_keyOf_20 rfl (lv_at hl 0 rfl) ?_
  refine G_get (ci := 3) (j := 3) (C := RX3) (T := TX3) (N := 10) (v := .long (σ.2.1 r0 3)) hx hb hg inlX3 hown hK hY (hL _ (gcl_lt hr0 (by decide))) hr0 (by decide) rfl (by decide) tX3_3 (hg _ gw_501) rfl dX9_keyOf_21 ?_
  refine lv_land hx hb dX9_keyOf_24 ?_
  refine lv_lor hx hb dX9_keyOf_25 ?_
  cases h
  exact g_lret hx hb hr hlocks () hY.1 hY.2.1 hY.2.2 rfl (Nat.le_of_ble_eq_true rfl) (Nat.le_of_ble_eq_true rfl) dX9_keyOf_26
section
variable {p : Program} {l : Launch} {e : Env} {s : State} {m : MethodId} {args : Array Value} {below : List Frame} {meth : Method} {c : Code} {D : va_G} {y : Nat → ClassId} {aS : Nat → Nat} {A : Nat → Prop} {L : List Nat} {ad : Nat → Nat} {N : Nat} {res : Int32}
def fX9_placeFor_55 (N : Nat) (rec13 : (Int32 × Int32) → Option Int32) (σ : gS) (r0 : Nat) (x1 : Int64) (x3 : Int32) (x4 : Int32) : Option Int32 := rec13 ((x3 + 1), (x4 + 1))
set_option maxRecDepth 100000 in
set_option maxHeartbeats 4000000 in
theorem wX9_placeFor_55 {rec13 : (Int32 × Int32) → Option Int32} {σ : gS} {r0 : Nat} {x1 : Int64} {x3 : Int32} {x4 : Int32} (hx : p.tables.exec = Jvm.exec) (hb : c.code = cX9_placeFor) (hr : meth.sig.returnType = (some .int)) (hml : c.maxLocals = 5) (hown : s.vm.findClass RX9 = some m.cls) (hg : ∀ w ∈ wsL_law, w.before args s = true) (hlocks : meth.locks = false) (hK : gK D y aS s) (hA : ∀ q, s.heap.size ≤ q → A q) (hL : ∀ k, k < 179 → k ∈ L) (hrec13 : ∀ {x3n9 : Int32} {x4n9 : Int32} (H : Heap) (locs : List Loc) (ls : Array Slot), gY D y A s L ad σ H locs → lv_has ls 5 [(0, .ref (ad r0)), (1, .long x1), (3, .int x3n9), (4, .int x4n9)] → rec13 (x3n9, x4n9) = some res → W p l e ({ frames := 0, cells := 0, slots := 0, locals := 0 } : Room) s m args below meth c H locs 0 0 (MQ below (va_Qi (fun (r : Int32) (_ : Unit) => r = res) (fun _ => gO D A (GW L y ad σ)) A) args s 0 0 A) (F0 m 13 ls [])) (hr0 : gcl r0 = 21) (mr0 : r0 ∈ L) {H : Heap} {locs : List Loc} {ls : Array Slot} (hY : gY D y A s L ad σ H locs) (hl : lv_has ls 5 [(0, .ref (ad r0)), (1, .long x1), (3, .int x3), (4, .int x4)]) (h : fX9_placeFor_55 N rec13 σ r0 x1 x3 x4 = some res) : W p l e ({ frames := 0, cells := 0, slots := 0, locals := 0 } : Room) s m args below meth c H locs 0 0 (MQ below (va_Qi (fun (r : Int32) (_ : Unit) => r = res) (fun _ => gO D A (GW L y ad σ)) A) args s 0 0 A) (F0 m 55 ls []) := by
  unfold fX9_placeFor_55 at h
  refine lv_iinc (v := (x3 + 1)) (lv' := [(3, .int (x3 + 1)), (0, .ref (ad r0)), (1, .long x1), (4, .int x4)]) hx hb dX9_placeFor_55 hl (k := 2) rfl rfl (by decide) rfl ?_
  clear hl
  intro ls hl
  refine lv_iinc (v := (x4 + 1)) (lv' := [(4, .int (x4 + 1)), (3, .int (x3 + 1)), (0, .ref (ad r0)), (1, .long x1)]) hx hb dX9_placeFor_58 hl (k := 3) rfl rfl (by decide) rfl ?_
  clear hl
  intro ls hl
  refine lv_goto (tgt := 13) hx hb dX9_placeFor_61 (by decide) ?_
  exact hrec13 _ _ _ hY (lv_sub hl [2, 3, 1, 0] rfl) h
def fX9_placeFor_53 (N : Nat) (σ : gS) (x3 : Int32) : Option Int32 := some x3
set_option maxRecDepth 100000 in
set_option maxHeartbeats 4000000 in
theorem wX9_placeFor_53 {σ : gS} {x3 : Int32} (hx : p.tables.exec = Jvm.exec) (hb : c.code = cX9_placeFor) (hr : meth.sig.returnType = (some .int)) (hml : c.maxLocals = 5) (hown : s.vm.findClass RX9 = some m.cls) (hg : ∀ w ∈ wsL_law, w.before args s = true) (hlocks : meth.locks = false) (hK : gK D y aS s) (hA : ∀ q, s.heap.size ≤ q → A q) (hL : ∀ k, k < 179 → k ∈ L) {H : Heap} {locs : List Loc} {ls : Array Slot} (hY : gY D y A s L ad σ H locs) (hl : lv_has ls 5 [(3, .int x3)]) (h : fX9_placeFor_53 N σ x3 = some res) : W p l e ({ frames := 0, cells := 0, slots := 0, locals := 0 } : Room) s m args below meth c H locs 0 0 (MQ below (va_Qi (fun (r : Int32) (_ : Unit) => r = res) (fun _ => gO D A (GW L y ad σ)) A) args s 0 0 A) (F0 m 53 ls []) := by
  unfold fX9_placeFor_53 at h
  refine lv_iload_n hx hb dX9_placeFor_53 rfl (lv_at hl 0 rfl) ?_
  cases h
  exact g_iret hx hb hr hlocks () hY.1 hY.2.1 hY.2.2 rfl rfl (Nat.le_of_ble_eq_true rfl) (Nat.le_of_ble_eq_true rfl) dX9_placeFor_54
def fX9_placeFor_13 (N : Nat) (σ : gS) (r0 : Nat) (x1 : Int64) (rec13 : (Int32 × Int32) → Option Int32) (xx : Int32 × Int32) : Option Int32 := match xx with
  | (x3, x4) => if (Int32.ofNat (gle σ.2.2 r0)) ≤ x4 then (some (-1)) else (if (x3 &&& ((Int32.ofNat (gle σ.2.2 r0)) - 1)) < 0 then (fX9_placeFor_55 N rec13 σ r0 x1 (x3 &&& ((Int32.ofNat (gle σ.2.2 r0)) - 1)) x4) else (if (Int32.ofNat (gle σ.2.2 r0)) ≤ (x3 &&& ((Int32.ofNat (gle σ.2.2 r0)) - 1)) then (fX9_placeFor_55 N rec13 σ r0 x1 (x3 &&& ((Int32.ofNat (gle σ.2.2 r0)) - 1)) x4) else (if (x3 &&& ((Int32.ofNat (gle σ.2.2 r0)) - 1)) < 0 ∨ gle σ.2.2 r0 ≤ (x3 &&& ((Int32.ofNat (gle σ.2.2 r0)) - 1)).toNatClampNeg then none else (if (lg_cmp (σ.2.1 r0 ((x3 &&& ((Int32.ofNat (gle σ.2.2 r0)) - 1)).toNatClampNeg)) x1) = 0 then (fX9_placeFor_53 N σ (x3 &&& ((Int32.ofNat (gle σ.2.2 r0)) - 1))) else (if (x3 &&& ((Int32.ofNat (gle σ.2.2 r0)) - 1)) < 0 ∨ gle σ.2.2 r0 ≤ (x3 &&& ((Int32.ofNat (gle σ.2.2 r0)) - 1)).toNatClampNeg then none else (if (lg_cmp (σ.2.1 r0 ((x3 &&& ((Int32.ofNat (gle σ.2.2 r0)) - 1)).toNatClampNeg)) 0) = 0 then (fX9_placeFor_53 N σ (x3 &&& ((Int32.ofNat (gle σ.2.2 r0)) - 1))) else (fX9_placeFor_55 N rec13 σ r0 x1 (x3 &&& ((Int32.ofNat (gle σ.2.2 r0)) - 1)) x4)))))))
set_option maxRecDepth 100000 in
set_option maxHeartbeats 4000000 in
theorem wX9_placeFor_13 {σ : gS} {r0 : Nat} {x1 : Int64} (hx : p.tables.exec = Jvm.exec) (hb : c.code = cX9_placeFor) (hr : meth.sig.returnType = (some .int)) (hml : c.maxLocals = 5) (hown : s.vm.findClass RX9 = some m.cls) (hg : ∀ w ∈ wsL_law, w.before args s = true) (hlocks : meth.locks = false) (hK : gK D y aS s) (hA : ∀ q, s.heap.size ≤ q → A q) (hL : ∀ k, k < 179 → k ∈ L) (hr0 : gcl r0 = 21) (mr0 : r0 ∈ L) : ∀ (n : Nat) {x3 : Int32} {x4 : Int32} (H : Heap) (locs : List Loc) (ls : Array Slot), gY D y A s L ad σ H locs → lv_has ls 5 [(0, .ref (ad r0)), (1, .long x1), (3, .int x3), (4, .int x4)] → lp (fX9_placeFor_13 N σ r0 x1) n (x3, x4) = some res → W p l e ({ frames := 0, cells := 0, slots := 0, locals := 0 } : Room) s m args below meth c H locs 0 0 (MQ below (va_Qi (fun (r : Int32) (_ : Unit) => r = res) (fun _ => gO D A (GW L y ad σ)) A) args s 0 0 A) (F0 m 13 ls []) := by
  intro n
  induction n with
  | zero => intro x3 x4 H locs ls hY hl h; exact nomatch (show none = some res from h)
  | succ n hrec13 =>
    intro x3 x4 H locs ls hY hl h
    replace h : fX9_placeFor_13 N σ r0 x1 (lp (fX9_placeFor_13 N σ r0 x1) n) (x3, x4) = some res := h
    generalize lp (fX9_placeFor_13 N σ r0 x1) n = rec13 at h hrec13
    unfold fX9_placeFor_13 at h
    try dsimp only at h
    refine lv_iload hx hb dX9_placeFor_13 (lv_at hl 3 rfl) ?_
    refine lv_aload_n hx hb dX9_placeFor_15 rfl (lv_at hl 0 rfl) ?_
    refine G_alenJ hx hb hK hY mr0 hr0 dX9_placeFor_16 ?_
    refine lv_icmp_ge (tgt := 64) hx hb dX9_placeFor_17 (by decide) (fun z_1 => ?_) (fun z_1 => ?_)
    ·
      rw [if_pos z_1] at h
      refine lv_iconst (v := (-1)) hx hb dX9_placeFor_64 (by decide) ?_
      cases h
      exact g_iret hx hb hr hlocks () hY.1 hY.2.1 hY.2.2 rfl rfl (Nat.le_of_ble_eq_true rfl) (Nat.le_of_ble_eq_true rfl) dX9_placeFor_65
    ·
      rw [if_neg z_1] at h
      refine lv_iload_n hx hb dX9_placeFor_20 rfl (lv_at hl 2 rfl) ?_
      refine lv_aload_n hx hb dX9_placeFor_21 rfl (lv_at hl 0 rfl) ?_
      refine G_alenJ hx hb hK hY mr0 hr0 dX9_placeFor_22 ?_
      refine lv_iconst (v := 1) hx hb dX9_placeFor_23 (by decide) ?_
      refine lv_isub hx hb dX9_placeFor_24 ?_
      refine lv_iand hx hb dX9_placeFor_25 ?_
      refine lv_istore_n (lv' := [(3, .int (x3 &&& ((Int32.ofNat (gle σ.2.2 r0)) - 1))), (0, .ref (ad r0)), (1, .long x1), (4, .int x4)]) hx hb dX9_placeFor_26 rfl hl (by decide) rfl ?_
      clear hl
      intro ls hl
      refine lv_iload_n hx hb dX9_placeFor_27 rfl (lv_at hl 0 rfl) ?_
      refine lv_if_lt (tgt := 55) hx hb dX9_placeFor_28 (by decide) (fun z_2 => ?_) (fun z_2 => ?_)
      ·
        rw [if_pos z_2] at h
        exact wX9_placeFor_55 hx hb hr hml hown hg hlocks hK hA hL hrec13 hr0 mr0 hY (lv_sub hl [1, 2, 0, 3] rfl) h
      ·
        rw [if_neg z_2] at h
        refine lv_iload_n hx hb dX9_placeFor_31 rfl (lv_at hl 0 rfl) ?_
        refine lv_aload_n hx hb dX9_placeFor_32 rfl (lv_at hl 1 rfl) ?_
        refine G_alenJ hx hb hK hY mr0 hr0 dX9_placeFor_33 ?_
        refine lv_icmp_ge (tgt := 55) hx hb dX9_placeFor_34 (by decide) (fun z_3 => ?_) (fun z_3 => ?_)
        ·
          rw [if_pos z_3] at h
          exact wX9_placeFor_55 hx hb hr hml hown hg hlocks hK hA hL hrec13 hr0 mr0 hY (lv_sub hl [1, 2, 0, 3] rfl) h
        ·
          rw [if_neg z_3] at h
          refine lv_aload_n hx hb dX9_placeFor_37 rfl (lv_at hl 1 rfl) ?_
          refine lv_iload_n hx hb dX9_placeFor_38 rfl (lv_at hl 0 rfl) ?_
          obtain ⟨z_4, h⟩ := g_guard h
          refine G_lald (j := (x3 &&& ((Int32.ofNat (gle σ.2.2 r0)) - 1)).toNatClampNeg) hx hb hK hY mr0 hr0 z_4 rfl dX9_placeFor_39 ?_
          refine lv_lload_n hx hb dX9_placeFor_40 rfl (lv_at hl 2 rfl) ?_
          refine W.lcmp hx hb dX9_placeFor_41 ?_
          refine lv_if_eq (tgt := 53) hx hb dX9_placeFor_42 (by decide) (fun z_5 => ?_) (fun z_5 => ?_)
          ·
            rw [if_pos z_5] at h
            exact wX9_placeFor_53 hx hb hr hml hown hg hlocks hK hA hL hY (lv_sub hl [0] rfl) h
          ·
            rw [if_neg z_5] at h
            refine lv_aload_n hx hb dX9_placeFor_45 rfl (lv_at hl 1 rfl) ?_
            refine lv_iload_n hx hb dX9_placeFor_46 rfl (lv_at hl 0 rfl) ?_
            obtain ⟨z_6, h⟩ := g_guard h
            refine G_lald (j := (x3 &&& ((Int32.ofNat (gle σ.2.2 r0)) - 1)).toNatClampNeg) hx hb hK hY mr0 hr0 z_6 rfl dX9_placeFor_47 ?_
            refine lv_lconst (v := 0) hx hb dX9_placeFor_48 (by decide) ?_
            refine W.lcmp hx hb dX9_placeFor_49 ?_
            refine lv_if_ne (tgt := 55) hx hb dX9_placeFor_50 (by decide) (fun z_7 => ?_) (fun z_7 => ?_)
            ·
              rw [if_neg z_7] at h
              exact wX9_placeFor_55 hx hb hr hml hown hg hlocks hK hA hL hrec13 hr0 mr0 hY (lv_sub hl [1, 2, 0, 3] rfl) h
            ·
              rw [if_pos z_7] at h
              exact wX9_placeFor_53 hx hb hr hml hown hg hlocks hK hA hL hY (lv_sub hl [0] rfl) h
end
def fX9_placeFor (N : Nat) (σ : gS) (r0 : Nat) (x1 : Int64) : Option Int32 := lp (fX9_placeFor_13 N σ r0 x1) N (((((x1 * (-7046029254386353131)).toUInt64 >>> ((33 : Int32).toInt64.toUInt64 &&& Int64.toUInt64 63)).toInt64).toInt32), 0)
set_option maxRecDepth 100000 in
set_option maxHeartbeats 4000000 in
theorem kX9_placeFor (l : Launch) (D : va_G) (y : Nat → ClassId) (aS : Nat → Nat) (sz : Nat) (L : List Nat) (hL : ∀ k, k < 179 → k ∈ L) (ad : Nat → Nat) (N : Nat) (σ : gS) (r0 : Nat) (x1 : Int64) (res : Int32) (hr0 : gcl r0 = 21) (mr0 : r0 ∈ L) (h : fX9_placeFor N σ r0 x1 = some res) : Met l yX9_placeFor (Cond.code yX9_placeFor cX9_placeFor 5 (some .int) :: wsL_law) ({ frames := 0, cells := 0, slots := 0, locals := 0 } : Room) (va_Pc [.ref (ad r0), .long x1] (gI D y aS (GW L y ad σ) sz)) (va_Qi (fun (r : Int32) (_ : Unit) => r = res) (fun _ => gO D (va_A (GW L y ad σ) sz) (GW L y ad σ)) (va_A (GW L y ad σ) sz)) 0 0 (va_A (GW L y ad σ) sz) := by
  refine g_of (by decide) (Nat.le_of_ble_eq_true rfl) ?_
  intro p e s m below meth c ls A hx hb hr hml hown hg hlocks hin hsz hK hP hD hS hA hAe hl
  rw [← hAe]
  replace hown : s.vm.findClass RX9 = some m.cls := hown
  have hY : gY D y A s L ad σ s.heap [] := ⟨hP, hD, hS⟩
  clear hP hD hS
  replace hl : lv_has ls 5 [(0, .ref (ad r0)), (1, .long x1)] := hl
  unfold fX9_placeFor at h
  refine lv_lload_n hx hb dX9_placeFor_0 rfl (lv_at hl 1 rfl) ?_
  refine lv_ldc2 (v := (-7046029254386353131)) hx hb hown (hg _ gw_505) dX9_placeFor_1 ?_
  refine lv_lmul hx hb dX9_placeFor_4 ?_
  refine lv_bipush (v := 33) hx hb dX9_placeFor_5 (by decide +kernel) ?_
  refine lv_lushr (v := (((x1 * (-7046029254386353131)).toUInt64 >>> ((33 : Int32).toInt64.toUInt64 &&& Int64.toUInt64 63)).toInt64)) hx hb dX9_placeFor_7 rfl ?_
  refine lv_l2i (v := ((((x1 * (-7046029254386353131)).toUInt64 >>> ((33 : Int32).toInt64.toUInt64 &&& Int64.toUInt64 63)).toInt64).toInt32)) hx hb dX9_placeFor_8 rfl ?_
  refine lv_istore_n (lv' := [(3, .int ((((x1 * (-7046029254386353131)).toUInt64 >>> ((33 : Int32).toInt64.toUInt64 &&& Int64.toUInt64 63)).toInt64).toInt32)), (0, .ref (ad r0)), (1, .long x1)]) hx hb dX9_placeFor_9 rfl hl (by decide) rfl ?_
  clear hl
  intro ls hl
  refine lv_iconst (v := 0) hx hb dX9_placeFor_10 (by decide) ?_
  refine lv_istore (lv' := [(4, .int 0), (3, .int ((((x1 * (-7046029254386353131)).toUInt64 >>> ((33 : Int32).toInt64.toUInt64 &&& Int64.toUInt64 63)).toInt64).toInt32)), (0, .ref (ad r0)), (1, .long x1)]) hx hb dX9_placeFor_11 hl (by decide) rfl ?_
  clear hl
  intro ls hl
  exact wX9_placeFor_13 hx hb hr hml hown hg hlocks hK hA hL hr0 mr0 N _ _ _ hY (lv_sub hl [2, 3, 1, 0] rfl) h
theorem ggS_RX9_23_X9_placeFor : GoodIn wsL_law (va_wsS RX9 23 yX9_placeFor (Cond.code yX9_placeFor cX9_placeFor 5 (some .int) :: wsL_law)) := g_gi (fun _ h => h) gW_good (List.forall_mem_cons.mpr ⟨⟨gw_502, rfl⟩, List.forall_mem_cons.mpr ⟨⟨gw_503, rfl⟩, List.forall_mem_cons.mpr ⟨⟨gw_23, rfl⟩, fun _ h => nomatch h⟩⟩⟩) ⟨gw_504, rfl⟩
section
variable {p : Program} {l : Launch} {e : Env} {s : State} {m : MethodId} {args : Array Value} {below : List Frame} {meth : Method} {c : Code} {D : va_G} {y : Nat → ClassId} {aS : Nat → Nat} {A : Nat → Prop} {L : List Nat} {ad : Nat → Nat} {N : Nat} {res : Int32}
def fX9_valueOf_32 (N : Nat) (σ : gS) (xs0 : Int32) : Option Int32 := some xs0
set_option maxRecDepth 100000 in
set_option maxHeartbeats 4000000 in
theorem wX9_valueOf_32 {σ : gS} {xs0 : Int32} (hx : p.tables.exec = Jvm.exec) (hb : c.code = cX9_valueOf) (hr : meth.sig.returnType = (some .int)) (hml : c.maxLocals = 4) (hown : s.vm.findClass RX9 = some m.cls) (hg : ∀ w ∈ wsL_law, w.before args s = true) (hlocks : meth.locks = false) (hK : gK D y aS s) (hA : ∀ q, s.heap.size ≤ q → A q) (hL : ∀ k, k < 179 → k ∈ L) {H : Heap} {locs : List Loc} {ls : Array Slot} (hY : gY D y A s L ad σ H locs) (hl : lv_has ls 4 []) (h : fX9_valueOf_32 N σ xs0 = some res) : W p l e ({ frames := 1, cells := 0, slots := 0, locals := 24 } : Room) s m args below meth c H locs 0 0 (MQ below (va_Qi (fun (r : Int32) (_ : Unit) => r = res) (fun _ => gO D A (GW L y ad σ)) A) args s 0 0 A) (F0 m 32 ls [.int xs0]) := by
  unfold fX9_valueOf_32 at h
  cases h
  exact g_iret hx hb hr hlocks () hY.1 hY.2.1 hY.2.2 rfl rfl (Nat.le_of_ble_eq_true rfl) (Nat.le_of_ble_eq_true rfl) dX9_valueOf_32
def fX9_valueOf_31 (N : Nat) (σ : gS) : Option Int32 := fX9_valueOf_32 N σ 0
set_option maxRecDepth 100000 in
set_option maxHeartbeats 4000000 in
theorem wX9_valueOf_31 {σ : gS} (hx : p.tables.exec = Jvm.exec) (hb : c.code = cX9_valueOf) (hr : meth.sig.returnType = (some .int)) (hml : c.maxLocals = 4) (hown : s.vm.findClass RX9 = some m.cls) (hg : ∀ w ∈ wsL_law, w.before args s = true) (hlocks : meth.locks = false) (hK : gK D y aS s) (hA : ∀ q, s.heap.size ≤ q → A q) (hL : ∀ k, k < 179 → k ∈ L) {H : Heap} {locs : List Loc} {ls : Array Slot} (hY : gY D y A s L ad σ H locs) (hl : lv_has ls 4 []) (h : fX9_valueOf_31 N σ = some res) : W p l e ({ frames := 1, cells := 0, slots := 0, locals := 24 } : Room) s m args below meth c H locs 0 0 (MQ below (va_Qi (fun (r : Int32) (_ : Unit) => r = res) (fun _ => gO D A (GW L y ad σ)) A) args s 0 0 A) (F0 m 31 ls []) := by
  unfold fX9_valueOf_31 at h
  refine lv_iconst (v := 0) hx hb dX9_valueOf_31 (by decide) ?_
  exact wX9_valueOf_32 hx hb hr hml hown hg hlocks hK hA hL hY (lv_sub hl [] rfl) h
end
def fX9_valueOf (N : Nat) (σ : gS) (x1 : Int64) : Option Int32 := (fX9_placeFor N σ 107 x1).bind fun r_1 => if r_1 < 0 then (fX9_valueOf_31 N σ) else (if (Int32.ofNat (gle σ.2.2 108)) ≤ r_1 then (fX9_valueOf_31 N σ) else (if r_1 < 0 ∨ gle σ.2.2 108 ≤ r_1.toNatClampNeg then none else (fX9_valueOf_32 N σ (σ.1 108 r_1.toNatClampNeg))))
set_option maxRecDepth 100000 in
set_option maxHeartbeats 4000000 in
theorem kX9_valueOf (l : Launch) (D : va_G) (y : Nat → ClassId) (aS : Nat → Nat) (sz : Nat) (L : List Nat) (hL : ∀ k, k < 179 → k ∈ L) (ad : Nat → Nat) (N : Nat) (σ : gS) (x1 : Int64) (res : Int32) (h : fX9_valueOf N σ x1 = some res) : Met l yX9_valueOf (Cond.code yX9_valueOf cX9_valueOf 4 (some .int) :: wsL_law) ({ frames := 1, cells := 0, slots := 0, locals := 24 } : Room) (va_Pc [.ref (ad 106), .long x1] (gI D y aS (GW L y ad σ) sz)) (va_Qi (fun (r : Int32) (_ : Unit) => r = res) (fun _ => gO D (va_A (GW L y ad σ) sz) (GW L y ad σ)) (va_A (GW L y ad σ) sz)) 0 0 (va_A (GW L y ad σ) sz) := by
  refine g_of (by decide) (Nat.le_of_ble_eq_true rfl) ?_
  intro p e s m below meth c ls A hx hb hr hml hown hg hlocks hin hsz hK hP hD hS hA hAe hl
  rw [← hAe]
  replace hown : s.vm.findClass RX9 = some m.cls := hown
  have hY : gY D y A s L ad σ s.heap [] := ⟨hP, hD, hS⟩
  clear hP hD hS
  replace hl : lv_has ls 4 [(0, .ref (ad 106)), (1, .long x1)] := hl
  unfold fX9_valueOf at h
  refine lv_aload_n hx hb dX9_valueOf_0 rfl (lv_at hl 0 rfl) ?_
  refine G_get (ci := 9) (j := 0) (C := RX9) (T := TX9) (N := 3) (v := .ref (ad 107)) hx hb hg inlX9 hown hK hY (hL 106 (by decide)) gk_106 (by decide) rfl (by decide) tX9_0 (hg _ gw_103) rfl dX9_valueOf_1 ?_
  refine lv_lload_n hx hb dX9_valueOf_4 rfl (lv_at hl 1 rfl) ?_
  obtain ⟨r_1, e_2, h⟩ := g_bind h
  refine G_ai hY hA (va_runS (As := [.ref (ad 107), .long x1]) (rest := []) ⟨hx, hb, hml, hown, hg⟩ (kX9_placeFor l D y aS s.heap.size L hL ad N σ 107 x1 _ gk_107 (hL 107 (by decide)) e_2) (va_cwS 2 hg ggS_RX9_23_X9_placeFor rfl rfl rfl (by decide +kernel) ⟨Nat.le_of_ble_eq_true rfl, Nat.le_of_ble_eq_true rfl⟩) (G_pS hK hY) rfl rfl hl.1 rfl (lv_room (Nat.le_of_ble_eq_true rfl)) dX9_valueOf_5 ⟨Nat.le_of_ble_eq_true rfl, Nat.le_of_ble_eq_true rfl⟩) ?_
  clear hY
  rintro _ H locs rfl hY
  refine lv_istore_n (lv' := [(3, .int r_1), (0, .ref (ad 106)), (1, .long x1)]) hx hb dX9_valueOf_8 rfl hl (by decide) rfl ?_
  clear hl
  intro ls hl
  refine lv_iload_n hx hb dX9_valueOf_9 rfl (lv_at hl 0 rfl) ?_
  refine lv_if_lt (tgt := 31) hx hb dX9_valueOf_10 (by decide) (fun z_3 => ?_) (fun z_3 => ?_)
  ·
    rw [if_pos z_3] at h
    exact wX9_valueOf_31 hx hb hr hml hown hg hlocks hK hA hL hY (lv_sub hl [] rfl) h
  ·
    rw [if_neg z_3] at h
    refine lv_iload_n hx hb dX9_valueOf_13 rfl (lv_at hl 0 rfl) ?_
    refine lv_aload_n hx hb dX9_valueOf_14 rfl (lv_at hl 1 rfl) ?_
    refine G_get (ci := 9) (j := 1) (C := RX9) (T := TX9) (N := 3) (v := .ref (ad 108)) hx hb hg inlX9 hown hK hY (hL 106 (by decide)) gk_106 (by decide) rfl (by decide) tX9_1 (hg _ gw_104) rfl dX9_valueOf_15 ?_
    refine G_alenI hx hb hK hY (hL 108 (by decide)) gk_108 dX9_valueOf_18 ?_
    refine lv_icmp_ge (tgt := 31) hx hb dX9_valueOf_19 (by decide) (fun z_4 => ?_) (fun z_4 => ?_)
    ·
      rw [if_pos z_4] at h
      exact wX9_valueOf_31 hx hb hr hml hown hg hlocks hK hA hL hY (lv_sub hl [] rfl) h
    ·
      rw [if_neg z_4] at h
      refine lv_aload_n hx hb dX9_valueOf_22 rfl (lv_at hl 1 rfl) ?_
      refine G_get (ci := 9) (j := 1) (C := RX9) (T := TX9) (N := 3) (v := .ref (ad 108)) hx hb hg inlX9 hown hK hY (hL 106 (by decide)) gk_106 (by decide) rfl (by decide) tX9_1 (hg _ gw_104) rfl dX9_valueOf_23 ?_
      refine lv_iload_n hx hb dX9_valueOf_26 rfl (lv_at hl 0 rfl) ?_
      obtain ⟨z_5, h⟩ := g_guard h
      refine G_iald (j := r_1.toNatClampNeg) hx hb hK hY (hL 108 (by decide)) gk_108 z_5 rfl dX9_valueOf_27 ?_
      refine lv_goto (tgt := 32) hx hb dX9_valueOf_28 (by decide) ?_
      exact wX9_valueOf_32 hx hb hr hml hown hg hlocks hK hA hL hY (lv_sub hl [] rfl) h
theorem ggS_RX9_19_X9_keyOf : GoodIn wsL_law (va_wsS RX9 19 yX9_keyOf (Cond.code yX9_keyOf cX9_keyOf 3 (some .long) :: wsL_law)) := g_gi (fun _ h => h) gW_good (List.forall_mem_cons.mpr ⟨⟨gw_496, rfl⟩, List.forall_mem_cons.mpr ⟨⟨gw_497, rfl⟩, List.forall_mem_cons.mpr ⟨⟨gw_23, rfl⟩, fun _ h => nomatch h⟩⟩⟩) ⟨gw_498, rfl⟩
section
variable {p : Program} {l : Launch} {e : Env} {s : State} {m : MethodId} {args : Array Value} {below : List Frame} {meth : Method} {c : Code} {D : va_G} {y : Nat → ClassId} {aS : Nat → Nat} {A : Nat → Prop} {L : List Nat} {ad : Nat → Nat} {N : Nat} {res : Int32}
def fX9_verdictOf_42 (N : Nat) (σ : gS) (xs0 : Int32) : Option Int32 := some xs0
set_option maxRecDepth 100000 in
set_option maxHeartbeats 4000000 in
theorem wX9_verdictOf_42 {σ : gS} {xs0 : Int32} (hx : p.tables.exec = Jvm.exec) (hb : c.code = cX9_verdictOf) (hr : meth.sig.returnType = (some .int)) (hml : c.maxLocals = 5) (hown : s.vm.findClass RX9 = some m.cls) (hg : ∀ w ∈ wsL_law, w.before args s = true) (hlocks : meth.locks = false) (hK : gK D y aS s) (hA : ∀ q, s.heap.size ≤ q → A q) (hL : ∀ k, k < 179 → k ∈ L) {H : Heap} {locs : List Loc} {ls : Array Slot} (hY : gY D y A s L ad σ H locs) (hl : lv_has ls 5 []) (h : fX9_verdictOf_42 N σ xs0 = some res) : W p l e ({ frames := 1, cells := 0, slots := 0, locals := 24 } : Room) s m args below meth c H locs 0 0 (MQ below (va_Qi (fun (r : Int32) (_ : Unit) => r = res) (fun _ => gO D A (GW L y ad σ)) A) args s 0 0 A) (F0 m 42 ls [.int xs0]) := by
  unfold fX9_verdictOf_42 at h
  cases h
  exact g_iret hx hb hr hlocks () hY.1 hY.2.1 hY.2.2 rfl rfl (Nat.le_of_ble_eq_true rfl) (Nat.le_of_ble_eq_true rfl) dX9_verdictOf_42
def fX9_verdictOf_41 (N : Nat) (σ : gS) : Option Int32 := fX9_verdictOf_42 N σ 0
set_option maxRecDepth 100000 in
set_option maxHeartbeats 4000000 in
theorem wX9_verdictOf_41 {σ : gS} (hx : p.tables.exec = Jvm.exec) (hb : c.code = cX9_verdictOf) (hr : meth.sig.returnType = (some .int)) (hml : c.maxLocals = 5) (hown : s.vm.findClass RX9 = some m.cls) (hg : ∀ w ∈ wsL_law, w.before args s = true) (hlocks : meth.locks = false) (hK : gK D y aS s) (hA : ∀ q, s.heap.size ≤ q → A q) (hL : ∀ k, k < 179 → k ∈ L) {H : Heap} {locs : List Loc} {ls : Array Slot} (hY : gY D y A s L ad σ H locs) (hl : lv_has ls 5 []) (h : fX9_verdictOf_41 N σ = some res) : W p l e ({ frames := 1, cells := 0, slots := 0, locals := 24 } : Room) s m args below meth c H locs 0 0 (MQ below (va_Qi (fun (r : Int32) (_ : Unit) => r = res) (fun _ => gO D A (GW L y ad σ)) A) args s 0 0 A) (F0 m 41 ls []) := by
  unfold fX9_verdictOf_41 at h
  refine lv_iconst (v := 0) hx hb dX9_verdictOf_41 (by decide) ?_
  exact wX9_verdictOf_42 hx hb hr hml hown hg hlocks hK hA hL hY (lv_sub hl [] rfl) h
end
def fX9_verdictOf (N : Nat) (σ : gS) (r1 : Nat) (x2 : Int64) : Option Int32 := (fX9_keyOf N σ r1 x2).bind fun r_1 => (fX9_placeFor N σ 107 r_1).bind fun r_3 => if r_3 < 0 then (fX9_verdictOf_41 N σ) else (if (Int32.ofNat (gle σ.2.2 108)) ≤ r_3 then (fX9_verdictOf_41 N σ) else (if r_3 < 0 ∨ gle σ.2.2 108 ≤ r_3.toNatClampNeg then none else (fX9_verdictOf_42 N σ ((σ.1 108 r_3.toNatClampNeg) &&& 3))))
set_option maxRecDepth 100000 in
set_option maxHeartbeats 4000000 in
theorem kX9_verdictOf (l : Launch) (D : va_G) (y : Nat → ClassId) (aS : Nat → Nat) (sz : Nat) (L : List Nat) (hL : ∀ k, k < 179 → k ∈ L) (ad : Nat → Nat) (N : Nat) (σ : gS) (r1 : Nat) (x2 : Int64) (res : Int32) (hr1 : gcl r1 = 3) (h : fX9_verdictOf N σ r1 x2 = some res) : Met l yX9_verdictOf (Cond.code yX9_verdictOf cX9_verdictOf 5 (some .int) :: wsL_law) ({ frames := 1, cells := 0, slots := 0, locals := 24 } : Room) (va_Pc [.ref (ad 106), .ref (ad r1), .long x2] (gI D y aS (GW L y ad σ) sz)) (va_Qi (fun (r : Int32) (_ : Unit) => r = res) (fun _ => gO D (va_A (GW L y ad σ) sz) (GW L y ad σ)) (va_A (GW L y ad σ) sz)) 0 0 (va_A (GW L y ad σ) sz) := by
  refine g_of (by decide) (Nat.le_of_ble_eq_true rfl) ?_
  intro p e s m below meth c ls A hx hb hr hml hown hg hlocks hin hsz hK hP hD hS hA hAe hl
  rw [← hAe]
  replace hown : s.vm.findClass RX9 = some m.cls := hown
  have hY : gY D y A s L ad σ s.heap [] := ⟨hP, hD, hS⟩
  clear hP hD hS
  replace hl : lv_has ls 5 [(0, .ref (ad 106)), (1, .ref (ad r1)), (2, .long x2)] := hl
  unfold fX9_verdictOf at h
  refine lv_aload_n hx hb dX9_verdictOf_0 rfl (lv_at hl 0 rfl) ?_
  refine G_get (ci := 9) (j := 0) (C := RX9) (T := TX9) (N := 3) (v := .ref (ad 107)) hx hb hg inlX9 hown hK hY (hL 106 (by decide)) gk_106 (by decide) rfl (by decide) tX9_0 (hg _ gw_103) rfl dX9_verdictOf_1 ?_
  refine lv_aload_n hx hb dX9_verdictOf_4 rfl (lv_at hl 1 rfl) ?_
  refine lv_lload_n hx hb dX9_verdictOf_5 rfl (lv_at hl 2 rfl) ?_
  obtain ⟨r_1, e_2, h⟩ := g_bind h
  refine G_al hY hA (va_runS (As := [.ref (ad r1), .long x2]) (rest := [.ref (ad 107)]) ⟨hx, hb, hml, hown, hg⟩ (kX9_keyOf l D y aS s.heap.size L hL ad N σ r1 x2 _ hr1 e_2) (va_cwS 2 hg ggS_RX9_19_X9_keyOf rfl rfl rfl (by decide +kernel) ⟨Nat.le_of_ble_eq_true rfl, Nat.le_of_ble_eq_true rfl⟩) (G_pS hK hY) rfl rfl hl.1 rfl (lv_room (Nat.le_of_ble_eq_true rfl)) dX9_verdictOf_6 ⟨Nat.le_of_ble_eq_true rfl, Nat.le_of_ble_eq_true rfl⟩) ?_
  clear hY
  rintro _ H locs rfl hY
  obtain ⟨r_3, e_4, h⟩ := g_bind h
  refine G_ai hY hA (va_runS (As := [.ref (ad 107), .long r_1]) (rest := []) ⟨hx, hb, hml, hown, hg⟩ (kX9_placeFor l D y aS H.size L hL ad N σ 107 r_1 _ gk_107 (hL 107 (by decide)) e_4) (va_cwS 2 hg ggS_RX9_23_X9_placeFor rfl rfl rfl (by decide +kernel) ⟨Nat.le_of_ble_eq_true rfl, Nat.le_of_ble_eq_true rfl⟩) (G_pS hK hY) rfl rfl hl.1 rfl (lv_room (Nat.le_of_ble_eq_true rfl)) dX9_verdictOf_9 ⟨Nat.le_of_ble_eq_true rfl, Nat.le_of_ble_eq_true rfl⟩) ?_
  clear hY
  rintro _ H locs rfl hY
  refine lv_istore (lv' := [(4, .int r_3), (0, .ref (ad 106)), (1, .ref (ad r1)), (2, .long x2)]) hx hb dX9_verdictOf_12 hl (by decide) rfl ?_
  clear hl
  intro ls hl
  refine lv_iload hx hb dX9_verdictOf_14 (lv_at hl 0 rfl) ?_
  refine lv_if_lt (tgt := 41) hx hb dX9_verdictOf_16 (by decide) (fun z_5 => ?_) (fun z_5 => ?_)
  ·
    rw [if_pos z_5] at h
    exact wX9_verdictOf_41 hx hb hr hml hown hg hlocks hK hA hL hY (lv_sub hl [] rfl) h
  ·
    rw [if_neg z_5] at h
    refine lv_iload hx hb dX9_verdictOf_19 (lv_at hl 0 rfl) ?_
    refine lv_aload_n hx hb dX9_verdictOf_21 rfl (lv_at hl 1 rfl) ?_
    refine G_get (ci := 9) (j := 1) (C := RX9) (T := TX9) (N := 3) (v := .ref (ad 108)) hx hb hg inlX9 hown hK hY (hL 106 (by decide)) gk_106 (by decide) rfl (by decide) tX9_1 (hg _ gw_104) rfl dX9_verdictOf_22 ?_
    refine G_alenI hx hb hK hY (hL 108 (by decide)) gk_108 dX9_verdictOf_25 ?_
    refine lv_icmp_ge (tgt := 41) hx hb dX9_verdictOf_26 (by decide) (fun z_6 => ?_) (fun z_6 => ?_)
    ·
      rw [if_pos z_6] at h
      exact wX9_verdictOf_41 hx hb hr hml hown hg hlocks hK hA hL hY (lv_sub hl [] rfl) h
    ·
      rw [if_neg z_6] at h
      refine lv_aload_n hx hb dX9_verdictOf_29 rfl (lv_at hl 1 rfl) ?_
      refine G_get (ci := 9) (j := 1) (C := RX9) (T := TX9) (N := 3) (v := .ref (ad 108)) hx hb hg inlX9 hown hK hY (hL 106 (by decide)) gk_106 (by decide) rfl (by decide) tX9_1 (hg _ gw_104) rfl dX9_verdictOf_30 ?_
      refine lv_iload hx hb dX9_verdictOf_33 (lv_at hl 0 rfl) ?_
      obtain ⟨z_7, h⟩ := g_guard h
      refine G_iald (j := r_3.toNatClampNeg) hx hb hK hY (hL 108 (by decide)) gk_108 z_7 rfl dX9_verdictOf_35 ?_
      refine lv_iconst (v := 3) hx hb dX9_verdictOf_36 (by decide) ?_
      refine lv_iand hx hb dX9_verdictOf_37 ?_
      refine lv_goto (tgt := 42) hx hb dX9_verdictOf_38 (by decide) ?_
      exact wX9_verdictOf_42 hx hb hr hml hown hg hlocks hK hA hL hY (lv_sub hl [] rfl) h
