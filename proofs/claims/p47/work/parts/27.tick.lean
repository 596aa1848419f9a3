def dt129_X9_keep : List (Nat × Instr × Nat) := [(91, (.return_, 1)), (75, (.aload_n 0, 1)), (76, (.getfield 11, 3)), (79, (.iload 4, 2)), (81, (.lload_n 1, 1)), (82, (.lastore, 1)), (83, (.aload_n 0, 1)), (84, (.getfield 15, 3)), (87, (.iload 4, 2)), (89, (.iload_n 3, 1)), (90, (.iastore, 1)), (18, (.aload_n 0, 1)), (19, (.getfield 11, 3)), (22, (.lload_n 1, 1)), (23, (.invokestatic 23, 3)), (26, (.istore 4, 2)), (28, (.iload 4, 2)), (30, (.ifCond .lt 61, 3)), (33, (.iload 4, 2)), (35, (.aload_n 0, 1)), (36, (.getfield 11, 3)), (39, (.arraylength, 1)), (40, (.if_icmp .ge 51, 3)), (43, (.iload 4, 2)), (45, (.aload_n 0, 1)), (46, (.getfield 15, 3)), (49, (.arraylength, 1)), (50, (.if_icmp .ge 41, 3)), (53, (.aload_n 0, 1)), (54, (.getfield 11, 3)), (57, (.iload 4, 2)), (59, (.laload, 1)), (60, (.lconst 0, 1)), (61, (.lcmp, 1)), (62, (.ifCond .ne 13, 3)), (65, (.aload_n 0, 1)), (66, (.dup, 1)), (67, (.getfield 64, 3)), (70, (.iconst 1, 1)), (71, (.iadd, 1)), (72, (.putfield 64, 3)), (0, (.aload_n 0, 1)), (1, (.getfield 64, 3)), (4, (.aload_n 0, 1)), (5, (.getfield 11, 3)), (8, (.arraylength, 1)), (9, (.iconst 2, 1)), (10, (.idiv, 1)), (11, (.if_icmp .lt 7, 3)), (14, (.aload_n 0, 1)), (15, (.invokevirtual 67, 3))]
theorem dt129_X9_keep_ok : ∀ q ∈ dt129_X9_keep, decode cX9_keep q.1 = .ok q.2 := by decide +kernel
theorem dX9_keep_91 : decode cX9_keep 91 = .ok (.return_, 1) := g_dec dt129_X9_keep_ok (k := 0) rfl
theorem dX9_keep_75 : decode cX9_keep 75 = .ok (.aload_n 0, 1) := g_dec dt129_X9_keep_ok (k := 1) rfl
theorem dX9_keep_76 : decode cX9_keep 76 = .ok (.getfield 11, 3) := g_dec dt129_X9_keep_ok (k := 2) rfl
theorem dX9_keep_79 : decode cX9_keep 79 = .ok (.iload 4, 2) := g_dec dt129_X9_keep_ok (k := 3) rfl
theorem dX9_keep_81 : decode cX9_keep 81 = .ok (.lload_n 1, 1) := g_dec dt129_X9_keep_ok (k := 4) rfl
theorem dX9_keep_82 : decode cX9_keep 82 = .ok (.lastore, 1) := g_dec dt129_X9_keep_ok (k := 5) rfl
theorem dX9_keep_83 : decode cX9_keep 83 = .ok (.aload_n 0, 1) := g_dec dt129_X9_keep_ok (k := 6) rfl
theorem dX9_keep_84 : decode cX9_keep 84 = .ok (.getfield 15, 3) := g_dec dt129_X9_keep_ok (k := 7) rfl
theorem dX9_keep_87 : decode cX9_keep 87 = .ok (.iload 4, 2) := g_dec dt129_X9_keep_ok (k := 8) rfl
theorem dX9_keep_89 : decode cX9_keep 89 = .ok (.iload_n 3, 1) := g_dec dt129_X9_keep_ok (k := 9) rfl
theorem dX9_keep_90 : decode cX9_keep 90 = .ok (.iastore, 1) := g_dec dt129_X9_keep_ok (k := 10) rfl
theorem dX9_keep_18 : decode cX9_keep 18 = .ok (.aload_n 0, 1) := g_dec dt129_X9_keep_ok (k := 11) rfl
theorem dX9_keep_19 : decode cX9_keep 19 = .ok (.getfield 11, 3) := g_dec dt129_X9_keep_ok (k := 12) rfl
theorem dX9_keep_22 : decode cX9_keep 22 = .ok (.lload_n 1, 1) := g_dec dt129_X9_keep_ok (k := 13) rfl
theorem dX9_keep_23 : decode cX9_keep 23 = .ok (.invokestatic 23, 3) := g_dec dt129_X9_keep_ok (k := 14) rfl
theorem dX9_keep_26 : decode cX9_keep 26 = .ok (.istore 4, 2) := g_dec dt129_X9_keep_ok (k := 15) rfl
theorem dX9_keep_28 : decode cX9_keep 28 = .ok (.iload 4, 2) := g_dec dt129_X9_keep_ok (k := 16) rfl
theorem dX9_keep_30 : decode cX9_keep 30 = .ok (.ifCond .lt 61, 3) := g_dec dt129_X9_keep_ok (k := 17) rfl
theorem dX9_keep_33 : decode cX9_keep 33 = .ok (.iload 4, 2) := g_dec dt129_X9_keep_ok (k := 18) rfl
theorem dX9_keep_35 : decode cX9_keep 35 = .ok (.aload_n 0, 1) := g_dec dt129_X9_keep_ok (k := 19) rfl
theorem dX9_keep_36 : decode cX9_keep 36 = .ok (.getfield 11, 3) := g_dec dt129_X9_keep_ok (k := 20) rfl
theorem dX9_keep_39 : decode cX9_keep 39 = .ok (.arraylength, 1) := g_dec dt129_X9_keep_ok (k := 21) rfl
theorem dX9_keep_40 : decode cX9_keep 40 = .ok (.if_icmp .ge 51, 3) := g_dec dt129_X9_keep_ok (k := 22) rfl
theorem dX9_keep_43 : decode cX9_keep 43 = .ok (.iload 4, 2) := g_dec dt129_X9_keep_ok (k := 23) rfl
theorem dX9_keep_45 : decode cX9_keep 45 = .ok (.aload_n 0, 1) := g_dec dt129_X9_keep_ok (k := 24) rfl
theorem dX9_keep_46 : decode cX9_keep 46 = .ok (.getfield 15, 3) := g_dec dt129_X9_keep_ok (k := 25) rfl
theorem dX9_keep_49 : decode cX9_keep 49 = .ok (.arraylength, 1) := g_dec dt129_X9_keep_ok (k := 26) rfl
theorem dX9_keep_50 : decode cX9_keep 50 = .ok (.if_icmp .ge 41, 3) := g_dec dt129_X9_keep_ok (k := 27) rfl
theorem dX9_keep_53 : decode cX9_keep 53 = .ok (.aload_n 0, 1) := g_dec dt129_X9_keep_ok (k := 28) rfl
theorem dX9_keep_54 : decode cX9_keep 54 = .ok (.getfield 11, 3) := g_dec dt129_X9_keep_ok (k := 29) rfl
theorem dX9_keep_57 : decode cX9_keep 57 = .ok (.iload 4, 2) := g_dec dt129_X9_keep_ok (k := 30) rfl
theorem dX9_keep_59 : decode cX9_keep 59 = .ok (.laload, 1) := g_dec dt129_X9_keep_ok (k := 31) rfl
theorem dX9_keep_60 : decode cX9_keep 60 = .ok (.lconst 0, 1) := g_dec dt129_X9_keep_ok (k := 32) rfl
theorem dX9_keep_61 : decode cX9_keep 61 = .ok (.lcmp, 1) := g_dec dt129_X9_keep_ok (k := 33) rfl
theorem dX9_keep_62 : decode cX9_keep 62 = .ok (.ifCond .ne 13, 3) := g_dec dt129_X9_keep_ok (k := 34) rfl
theorem dX9_keep_65 : decode cX9_keep 65 = .ok (.aload_n 0, 1) := g_dec dt129_X9_keep_ok (k := 35) rfl
theorem dX9_keep_66 : decode cX9_keep 66 = .ok (.dup, 1) := g_dec dt129_X9_keep_ok (k := 36) rfl
theorem dX9_keep_67 : decode cX9_keep 67 = .ok (.getfield 64, 3) := g_dec dt129_X9_keep_ok (k := 37) rfl
theorem dX9_keep_70 : decode cX9_keep 70 = .ok (.iconst 1, 1) := g_dec dt129_X9_keep_ok (k := 38) rfl
theorem dX9_keep_71 : decode cX9_keep 71 = .ok (.iadd, 1) := g_dec dt129_X9_keep_ok (k := 39) rfl
theorem dX9_keep_72 : decode cX9_keep 72 = .ok (.putfield 64, 3) := g_dec dt129_X9_keep_ok (k := 40) rfl
theorem dX9_keep_0 : decode cX9_keep 0 = .ok (.aload_n 0, 1) := g_dec dt129_X9_keep_ok (k := 41) rfl
theorem dX9_keep_1 : decode cX9_keep 1 = .ok (.getfield 64, 3) := g_dec dt129_X9_keep_ok (k := 42) rfl
theorem dX9_keep_4 : decode cX9_keep 4 = .ok (.aload_n 0, 1) := g_dec dt129_X9_keep_ok (k := 43) rfl
theorem dX9_keep_5 : decode cX9_keep 5 = .ok (.getfield 11, 3) := g_dec dt129_X9_keep_ok (k := 44) rfl
theorem dX9_keep_8 : decode cX9_keep 8 = .ok (.arraylength, 1) := g_dec dt129_X9_keep_ok (k := 45) rfl
theorem dX9_keep_9 : decode cX9_keep 9 = .ok (.iconst 2, 1) := g_dec dt129_X9_keep_ok (k := 46) rfl
theorem dX9_keep_10 : decode cX9_keep 10 = .ok (.idiv, 1) := g_dec dt129_X9_keep_ok (k := 47) rfl
theorem dX9_keep_11 : decode cX9_keep 11 = .ok (.if_icmp .lt 7, 3) := g_dec dt129_X9_keep_ok (k := 48) rfl
theorem dX9_keep_14 : decode cX9_keep 14 = .ok (.aload_n 0, 1) := g_dec dt129_X9_keep_ok (k := 49) rfl
theorem dX9_keep_15 : decode cX9_keep 15 = .ok (.invokevirtual 67, 3) := g_dec dt129_X9_keep_ok (k := 50) rfl
def dt130_X9_tell : List (Nat × Instr × Nat) := [(67, (.aload_n 1, 1)), (68, (.dup, 1)), (69, (.getfield 45, 3)), (72, (.iconst 1, 1)), (73, (.iadd, 1)), (74, (.putfield 45, 3)), (77, (.aload_n 0, 1)), (78, (.lload 4, 2)), (80, (.iload 6, 2)), (82, (.iconst 2, 1)), (83, (.ishl, 1)), (84, (.iload 7, 2)), (86, (.ior, 1)), (87, (.invokevirtual 48, 3)), (90, (.return_, 1)), (47, (.istore 7, 2)), (49, (.goto 18, 3)), (0, (.aload_n 1, 1)), (1, (.lload_n 2, 1)), (2, (.invokestatic 19, 3)), (5, (.lstore 4, 2)), (7, (.aload_n 0, 1)), (8, (.lload 4, 2)), (10, (.invokevirtual 27, 3)), (13, (.iconst 2, 1)), (14, (.ishr, 1)), (15, (.istore 6, 2)), (17, (.iconst 1, 1)), (18, (.istore 7, 2)), (20, (.aload_n 1, 1)), (21, (.lload_n 2, 1)), (22, (.iload 6, 2)), (24, (.invokevirtual 31, 3)), (27, (.ifCond .eq 25, 3)), (52, (.iload 6, 2)), (54, (.ifCond .le 13, 3)), (57, (.aload_n 1, 1)), (58, (.dup, 1)), (59, (.getfield 41, 3)), (62, (.iconst 1, 1)), (63, (.iadd, 1)), (64, (.putfield 41, 3)), (30, (.iinc 6 1, 3)), (33, (.iload 6, 2)), (35, (.aload_n 1, 1)), (36, (.invokevirtual 37, 3)), (39, (.if_icmp .lt 7, 3)), (46, (.iconst 0, 1)), (42, (.iconst 2, 1)), (43, (.goto 4, 3))]
theorem dt130_X9_tell_ok : ∀ q ∈ dt130_X9_tell, decode cX9_tell q.1 = .ok q.2 := by decide +kernel
theorem dX9_tell_67 : decode cX9_tell 67 = .ok (.aload_n 1, 1) := g_dec dt130_X9_tell_ok (k := 0) rfl
theorem dX9_tell_68 : decode cX9_tell 68 = .ok (.dup, 1) := g_dec dt130_X9_tell_ok (k := 1) rfl
theorem dX9_tell_69 : decode cX9_tell 69 = .ok (.getfield 45, 3) := g_dec dt130_X9_tell_ok (k := 2) rfl
theorem dX9_tell_72 : decode cX9_tell 72 = .ok (.iconst 1, 1) := g_dec dt130_X9_tell_ok (k := 3) rfl
theorem dX9_tell_73 : decode cX9_tell 73 = .ok (.iadd, 1) := g_dec dt130_X9_tell_ok (k := 4) rfl
theorem dX9_tell_74 : decode cX9_tell 74 = .ok (.putfield 45, 3) := g_dec dt130_X9_tell_ok (k := 5) rfl
theorem dX9_tell_77 : decode cX9_tell 77 = .ok (.aload_n 0, 1) := g_dec dt130_X9_tell_ok (k := 6) rfl
theorem dX9_tell_78 : decode cX9_tell 78 = .ok (.lload 4, 2) := g_dec dt130_X9_tell_ok (k := 7) rfl
theorem dX9_tell_80 : decode cX9_tell 80 = .ok (.iload 6, 2) := g_dec dt130_X9_tell_ok (k := 8) rfl
theorem dX9_tell_82 : decode cX9_tell 82 = .ok (.iconst 2, 1) := g_dec dt130_X9_tell_ok (k := 9) rfl
theorem dX9_tell_83 : decode cX9_tell 83 = .ok (.ishl, 1) := g_dec dt130_X9_tell_ok (k := 10) rfl
theorem dX9_tell_84 : decode cX9_tell 84 = .ok (.iload 7, 2) := g_dec dt130_X9_tell_ok (k := 11) rfl
theorem dX9_tell_86 : decode cX9_tell 86 = .ok (.ior, 1) := g_dec dt130_X9_tell_ok (k := 12) rfl
theorem dX9_tell_87 : decode cX9_tell 87 = .ok (.invokevirtual 48, 3) := g_dec dt130_X9_tell_ok (k := 13) rfl
theorem dX9_tell_90 : decode cX9_tell 90 = .ok (.return_, 1) := g_dec dt130_X9_tell_ok (k := 14) rfl
theorem dX9_tell_47 : decode cX9_tell 47 = .ok (.istore 7, 2) := g_dec dt130_X9_tell_ok (k := 15) rfl
theorem dX9_tell_49 : decode cX9_tell 49 = .ok (.goto 18, 3) := g_dec dt130_X9_tell_ok (k := 16) rfl
theorem dX9_tell_0 : decode cX9_tell 0 = .ok (.aload_n 1, 1) := g_dec dt130_X9_tell_ok (k := 17) rfl
theorem dX9_tell_1 : decode cX9_tell 1 = .ok (.lload_n 2, 1) := g_dec dt130_X9_tell_ok (k := 18) rfl
theorem dX9_tell_2 : decode cX9_tell 2 = .ok (.invokestatic 19, 3) := g_dec dt130_X9_tell_ok (k := 19) rfl
theorem dX9_tell_5 : decode cX9_tell 5 = .ok (.lstore 4, 2) := g_dec dt130_X9_tell_ok (k := 20) rfl
theorem dX9_tell_7 : decode cX9_tell 7 = .ok (.aload_n 0, 1) := g_dec dt130_X9_tell_ok (k := 21) rfl
theorem dX9_tell_8 : decode cX9_tell 8 = .ok (.lload 4, 2) := g_dec dt130_X9_tell_ok (k := 22) rfl
theorem dX9_tell_10 : decode cX9_tell 10 = .ok (.invokevirtual 27, 3) := g_dec dt130_X9_tell_ok (k := 23) rfl
theorem dX9_tell_13 : decode cX9_tell 13 = .ok (.iconst 2, 1) := g_dec dt130_X9_tell_ok (k := 24) rfl
theorem dX9_tell_14 : decode cX9_tell 14 = .ok (.ishr, 1) := g_dec dt130_X9_tell_ok (k := 25) rfl
theorem dX9_tell_15 : decode cX9_tell 15 = .ok (.istore 6, 2) := g_dec dt130_X9_tell_ok (k := 26) rfl
theorem dX9_tell_17 : decode cX9_tell 17 = .ok (.iconst 1, 1) := g_dec dt130_X9_tell_ok (k := 27) rfl
theorem dX9_tell_18 : decode cX9_tell 18 = .ok (.istore 7, 2) := g_dec dt130_X9_tell_ok (k := 28) rfl
theorem dX9_tell_20 : decode cX9_tell 20 = .ok (.aload_n 1, 1) := g_dec dt130_X9_tell_ok (k := 29) rfl
theorem dX9_tell_21 : decode cX9_tell 21 = .ok (.lload_n 2, 1) := g_dec dt130_X9_tell_ok (k := 30) rfl
theorem dX9_tell_22 : decode cX9_tell 22 = .ok (.iload 6, 2) := g_dec dt130_X9_tell_ok (k := 31) rfl
theorem dX9_tell_24 : decode cX9_tell 24 = .ok (.invokevirtual 31, 3) := g_dec dt130_X9_tell_ok (k := 32) rfl
theorem dX9_tell_27 : decode cX9_tell 27 = .ok (.ifCond .eq 25, 3) := g_dec dt130_X9_tell_ok (k := 33) rfl
theorem dX9_tell_52 : decode cX9_tell 52 = .ok (.iload 6, 2) := g_dec dt130_X9_tell_ok (k := 34) rfl
theorem dX9_tell_54 : decode cX9_tell 54 = .ok (.ifCond .le 13, 3) := g_dec dt130_X9_tell_ok (k := 35) rfl
theorem dX9_tell_57 : decode cX9_tell 57 = .ok (.aload_n 1, 1) := g_dec dt130_X9_tell_ok (k := 36) rfl
theorem dX9_tell_58 : decode cX9_tell 58 = .ok (.dup, 1) := g_dec dt130_X9_tell_ok (k := 37) rfl
theorem dX9_tell_59 : decode cX9_tell 59 = .ok (.getfield 41, 3) := g_dec dt130_X9_tell_ok (k := 38) rfl
theorem dX9_tell_62 : decode cX9_tell 62 = .ok (.iconst 1, 1) := g_dec dt130_X9_tell_ok (k := 39) rfl
theorem dX9_tell_63 : decode cX9_tell 63 = .ok (.iadd, 1) := g_dec dt130_X9_tell_ok (k := 40) rfl
theorem dX9_tell_64 : decode cX9_tell 64 = .ok (.putfield 41, 3) := g_dec dt130_X9_tell_ok (k := 41) rfl
theorem dX9_tell_30 : decode cX9_tell 30 = .ok (.iinc 6 1, 3) := g_dec dt130_X9_tell_ok (k := 42) rfl
theorem dX9_tell_33 : decode cX9_tell 33 = .ok (.iload 6, 2) := g_dec dt130_X9_tell_ok (k := 43) rfl
theorem dX9_tell_35 : decode cX9_tell 35 = .ok (.aload_n 1, 1) := g_dec dt130_X9_tell_ok (k := 44) rfl
theorem dX9_tell_36 : decode cX9_tell 36 = .ok (.invokevirtual 37, 3) := g_dec dt130_X9_tell_ok (k := 45) rfl
theorem dX9_tell_39 : decode cX9_tell 39 = .ok (.if_icmp .lt 7, 3) := g_dec dt130_X9_tell_ok (k := 46) rfl
theorem dX9_tell_46 : decode cX9_tell 46 = .ok (.iconst 0, 1) := g_dec dt130_X9_tell_ok (k := 47) rfl
theorem dX9_tell_42 : decode cX9_tell 42 = .ok (.iconst 2, 1) := g_dec dt130_X9_tell_ok (k := 48) rfl
theorem dX9_tell_43 : decode cX9_tell 43 = .ok (.goto 4, 3) := g_dec dt130_X9_tell_ok (k := 49) rfl
def dt131_X11_tellRun : List (Nat × Instr × Nat) := [(35, (.aload_n 1, 1)), (36, (.aload_n 1, 1)), (37, (.getfield 280, 3)), (40, (.putfield 495, 3)), (43, (.aload_n 1, 1)), (44, (.iconst (-1), 1)), (45, (.putfield 280, 3)), (48, (.aload_n 0, 1)), (49, (.iconst 0, 1)), (50, (.putfield 388, 3)), (53, (.return_, 1)), (0, (.aload_n 0, 1)), (1, (.getfield 19, 3)), (4, (.aload_n 1, 1)), (5, (.getfield 280, 3)), (8, (.invokevirtual 237, 3)), (11, (.astore_n 2, 1)), (12, (.aload_n 1, 1)), (13, (.getfield 484, 3)), (16, (.aload_n 2, 1)), (17, (.getfield 487, 3)), (20, (.if_icmp .ne 15, 3)), (23, (.aload_n 0, 1)), (24, (.getfield 26, 3)), (27, (.aload_n 2, 1)), (28, (.aload_n 1, 1)), (29, (.getfield 488, 3)), (32, (.invokevirtual 491, 3))]
theorem dt131_X11_tellRun_ok : ∀ q ∈ dt131_X11_tellRun, decode cX11_tellRun q.1 = .ok q.2 := by decide +kernel
theorem dX11_tellRun_35 : decode cX11_tellRun 35 = .ok (.aload_n 1, 1) := g_dec dt131_X11_tellRun_ok (k := 0) rfl
theorem dX11_tellRun_36 : decode cX11_tellRun 36 = .ok (.aload_n 1, 1) := g_dec dt131_X11_tellRun_ok (k := 1) rfl
theorem dX11_tellRun_37 : decode cX11_tellRun 37 = .ok (.getfield 280, 3) := g_dec dt131_X11_tellRun_ok (k := 2) rfl
theorem dX11_tellRun_40 : decode cX11_tellRun 40 = .ok (.putfield 495, 3) := g_dec dt131_X11_tellRun_ok (k := 3) rfl
theorem dX11_tellRun_43 : decode cX11_tellRun 43 = .ok (.aload_n 1, 1) := g_dec dt131_X11_tellRun_ok (k := 4) rfl
theorem dX11_tellRun_44 : decode cX11_tellRun 44 = .ok (.iconst (-1), 1) := g_dec dt131_X11_tellRun_ok (k := 5) rfl
theorem dX11_tellRun_45 : decode cX11_tellRun 45 = .ok (.putfield 280, 3) := g_dec dt131_X11_tellRun_ok (k := 6) rfl
theorem dX11_tellRun_48 : decode cX11_tellRun 48 = .ok (.aload_n 0, 1) := g_dec dt131_X11_tellRun_ok (k := 7) rfl
theorem dX11_tellRun_49 : decode cX11_tellRun 49 = .ok (.iconst 0, 1) := g_dec dt131_X11_tellRun_ok (k := 8) rfl
theorem dX11_tellRun_50 : decode cX11_tellRun 50 = .ok (.putfield 388, 3) := g_dec dt131_X11_tellRun_ok (k := 9) rfl
theorem dX11_tellRun_53 : decode cX11_tellRun 53 = .ok (.return_, 1) := g_dec dt131_X11_tellRun_ok (k := 10) rfl
theorem dX11_tellRun_0 : decode cX11_tellRun 0 = .ok (.aload_n 0, 1) := g_dec dt131_X11_tellRun_ok (k := 11) rfl
theorem dX11_tellRun_1 : decode cX11_tellRun 1 = .ok (.getfield 19, 3) := g_dec dt131_X11_tellRun_ok (k := 12) rfl
theorem dX11_tellRun_4 : decode cX11_tellRun 4 = .ok (.aload_n 1, 1) := g_dec dt131_X11_tellRun_ok (k := 13) rfl
theorem dX11_tellRun_5 : decode cX11_tellRun 5 = .ok (.getfield 280, 3) := g_dec dt131_X11_tellRun_ok (k := 14) rfl
theorem dX11_tellRun_8 : decode cX11_tellRun 8 = .ok (.invokevirtual 237, 3) := g_dec dt131_X11_tellRun_ok (k := 15) rfl
theorem dX11_tellRun_11 : decode cX11_tellRun 11 = .ok (.astore_n 2, 1) := g_dec dt131_X11_tellRun_ok (k := 16) rfl
theorem dX11_tellRun_12 : decode cX11_tellRun 12 = .ok (.aload_n 1, 1) := g_dec dt131_X11_tellRun_ok (k := 17) rfl
theorem dX11_tellRun_13 : decode cX11_tellRun 13 = .ok (.getfield 484, 3) := g_dec dt131_X11_tellRun_ok (k := 18) rfl
theorem dX11_tellRun_16 : decode cX11_tellRun 16 = .ok (.aload_n 2, 1) := g_dec dt131_X11_tellRun_ok (k := 19) rfl
theorem dX11_tellRun_17 : decode cX11_tellRun 17 = .ok (.getfield 487, 3) := g_dec dt131_X11_tellRun_ok (k := 20) rfl
theorem dX11_tellRun_20 : decode cX11_tellRun 20 = .ok (.if_icmp .ne 15, 3) := g_dec dt131_X11_tellRun_ok (k := 21) rfl
theorem dX11_tellRun_23 : decode cX11_tellRun 23 = .ok (.aload_n 0, 1) := g_dec dt131_X11_tellRun_ok (k := 22) rfl
theorem dX11_tellRun_24 : decode cX11_tellRun 24 = .ok (.getfield 26, 3) := g_dec dt131_X11_tellRun_ok (k := 23) rfl
theorem dX11_tellRun_27 : decode cX11_tellRun 27 = .ok (.aload_n 2, 1) := g_dec dt131_X11_tellRun_ok (k := 24) rfl
theorem dX11_tellRun_28 : decode cX11_tellRun 28 = .ok (.aload_n 1, 1) := g_dec dt131_X11_tellRun_ok (k := 25) rfl
theorem dX11_tellRun_29 : decode cX11_tellRun 29 = .ok (.getfield 488, 3) := g_dec dt131_X11_tellRun_ok (k := 26) rfl
theorem dX11_tellRun_32 : decode cX11_tellRun 32 = .ok (.invokevirtual 491, 3) := g_dec dt131_X11_tellRun_ok (k := 27) rfl
def dt132_X11_passTick : List (Nat × Instr × Nat) := [(116, (.iinc 1 1, 3)), (119, (.goto (-35), 3)), (84, (.iload_n 1, 1)), (85, (.bipush 6, 2)), (87, (.if_icmp .ge 35, 3)), (122, (.aload_n 0, 1)), (123, (.iconst 1, 1)), (124, (.putfield 388, 3)), (127, (.return_, 1)), (90, (.aload_n 0, 1)), (91, (.iload_n 1, 1)), (92, (.invokevirtual 273, 3)), (95, (.astore_n 2, 1)), (96, (.aload_n 2, 1)), (97, (.getfield 277, 3)), (100, (.ifCond .eq 16, 3)), (103, (.aload_n 2, 1)), (104, (.getfield 280, 3)), (107, (.iconst (-1), 1)), (108, (.if_icmp .ne 8, 3)), (111, (.aload_n 0, 1)), (112, (.aload_n 2, 1)), (113, (.invokevirtual 481, 3)), (74, (.aload_n 0, 1)), (75, (.invokevirtual 475, 3)), (78, (.aload_n 0, 1)), (79, (.invokevirtual 478, 3)), (82, (.iconst 0, 1)), (83, (.istore_n 1, 1)), (52, (.iload_n 1, 1)), (53, (.bipush 60, 2)), (55, (.if_icmp .gt 19, 3)), (58, (.aload_n 0, 1)), (59, (.invokevirtual 472, 3)), (62, (.ifCond .ne 6, 3)), (68, (.iinc 1 1, 3)), (71, (.goto (-19), 3)), (65, (.goto 9, 3)), (36, (.iinc 1 1, 3)), (39, (.goto (-27), 3)), (12, (.iload_n 1, 1)), (13, (.bipush 6, 2)), (15, (.if_icmp .ge 27, 3)), (42, (.aload_n 0, 1)), (43, (.getfield 388, 3)), (46, (.ifCond .eq 4, 3)), (50, (.iconst 0, 1)), (51, (.istore_n 1, 1)), (49, (.return_, 1)), (18, (.aload_n 0, 1)), (19, (.iload_n 1, 1)), (20, (.invokevirtual 273, 3)), (23, (.astore_n 2, 1)), (24, (.aload_n 2, 1)), (25, (.invokevirtual 465, 3)), (28, (.ifCond .eq 8, 3)), (31, (.aload_n 0, 1)), (32, (.aload_n 2, 1)), (33, (.invokevirtual 468, 3)), (0, (.aload_n 0, 1))]
theorem dt132_X11_passTick_ok : ∀ q ∈ dt132_X11_passTick, decode cX11_passTick q.1 = .ok q.2 := by decide +kernel
theorem dX11_passTick_116 : decode cX11_passTick 116 = .ok (.iinc 1 1, 3) := g_dec dt132_X11_passTick_ok (k := 0) rfl
theorem dX11_passTick_119 : decode cX11_passTick 119 = .ok (.goto (-35), 3) := g_dec dt132_X11_passTick_ok (k := 1) rfl
theorem dX11_passTick_84 : decode cX11_passTick 84 = .ok (.iload_n 1, 1) := g_dec dt132_X11_passTick_ok (k := 2) rfl
theorem dX11_passTick_85 : decode cX11_passTick 85 = .ok (.bipush 6, 2) := g_dec dt132_X11_passTick_ok (k := 3) rfl
theorem dX11_passTick_87 : decode cX11_passTick 87 = .ok (.if_icmp .ge 35, 3) := g_dec dt132_X11_passTick_ok (k := 4) rfl
theorem dX11_passTick_122 : decode cX11_passTick 122 = .ok (.aload_n 0, 1) := g_dec dt132_X11_passTick_ok (k := 5) rfl
theorem dX11_passTick_123 : decode cX11_passTick 123 = .ok (.iconst 1, 1) := g_dec dt132_X11_passTick_ok (k := 6) rfl
theorem dX11_passTick_124 : decode cX11_passTick 124 = .ok (.putfield 388, 3) := g_dec dt132_X11_passTick_ok (k := 7) rfl
theorem dX11_passTick_127 : decode cX11_passTick 127 = .ok (.return_, 1) := g_dec dt132_X11_passTick_ok (k := 8) rfl
theorem dX11_passTick_90 : decode cX11_passTick 90 = .ok (.aload_n 0, 1) := g_dec dt132_X11_passTick_ok (k := 9) rfl
theorem dX11_passTick_91 : decode cX11_passTick 91 = .ok (.iload_n 1, 1) := g_dec dt132_X11_passTick_ok (k := 10) rfl
theorem dX11_passTick_92 : decode cX11_passTick 92 = .ok (.invokevirtual 273, 3) := g_dec dt132_X11_passTick_ok (k := 11) rfl
theorem dX11_passTick_95 : decode cX11_passTick 95 = .ok (.astore_n 2, 1) := g_dec dt132_X11_passTick_ok (k := 12) rfl
theorem dX11_passTick_96 : decode cX11_passTick 96 = .ok (.aload_n 2, 1) := g_dec dt132_X11_passTick_ok (k := 13) rfl
theorem dX11_passTick_97 : decode cX11_passTick 97 = .ok (.getfield 277, 3) := g_dec dt132_X11_passTick_ok (k := 14) rfl
theorem dX11_passTick_100 : decode cX11_passTick 100 = .ok (.ifCond .eq 16, 3) := g_dec dt132_X11_passTick_ok (k := 15) rfl
theorem dX11_passTick_103 : decode cX11_passTick 103 = .ok (.aload_n 2, 1) := g_dec dt132_X11_passTick_ok (k := 16) rfl
theorem dX11_passTick_104 : decode cX11_passTick 104 = .ok (.getfield 280, 3) := g_dec dt132_X11_passTick_ok (k := 17) rfl
theorem dX11_passTick_107 : decode cX11_passTick 107 = .ok (.iconst (-1), 1) := g_dec dt132_X11_passTick_ok (k := 18) rfl
theorem dX11_passTick_108 : decode cX11_passTick 108 = .ok (.if_icmp .ne 8, 3) := g_dec dt132_X11_passTick_ok (k := 19) rfl
theorem dX11_passTick_111 : decode cX11_passTick 111 = .ok (.aload_n 0, 1) := g_dec dt132_X11_passTick_ok (k := 20) rfl
theorem dX11_passTick_112 : decode cX11_passTick 112 = .ok (.aload_n 2, 1) := g_dec dt132_X11_passTick_ok (k := 21) rfl
theorem dX11_passTick_113 : decode cX11_passTick 113 = .ok (.invokevirtual 481, 3) := g_dec dt132_X11_passTick_ok (k := 22) rfl
theorem dX11_passTick_74 : decode cX11_passTick 74 = .ok (.aload_n 0, 1) := g_dec dt132_X11_passTick_ok (k := 23) rfl
theorem dX11_passTick_75 : decode cX11_passTick 75 = .ok (.invokevirtual 475, 3) := g_dec dt132_X11_passTick_ok (k := 24) rfl
theorem dX11_passTick_78 : decode cX11_passTick 78 = .ok (.aload_n 0, 1) := g_dec dt132_X11_passTick_ok (k := 25) rfl
theorem dX11_passTick_79 : decode cX11_passTick 79 = .ok (.invokevirtual 478, 3) := g_dec dt132_X11_passTick_ok (k := 26) rfl
theorem dX11_passTick_82 : decode cX11_passTick 82 = .ok (.iconst 0, 1) := g_dec dt132_X11_passTick_ok (k := 27) rfl
theorem dX11_passTick_83 : decode cX11_passTick 83 = .ok (.istore_n 1, 1) := g_dec dt132_X11_passTick_ok (k := 28) rfl
theorem dX11_passTick_52 : decode cX11_passTick 52 = .ok (.iload_n 1, 1) := g_dec dt132_X11_passTick_ok (k := 29) rfl
theorem dX11_passTick_53 : decode cX11_passTick 53 = .ok (.bipush 60, 2) := g_dec dt132_X11_passTick_ok (k := 30) rfl
theorem dX11_passTick_55 : decode cX11_passTick 55 = .ok (.if_icmp .gt 19, 3) := g_dec dt132_X11_passTick_ok (k := 31) rfl
theorem dX11_passTick_58 : decode cX11_passTick 58 = .ok (.aload_n 0, 1) := g_dec dt132_X11_passTick_ok (k := 32) rfl
theorem dX11_passTick_59 : decode cX11_passTick 59 = .ok (.invokevirtual 472, 3) := g_dec dt132_X11_passTick_ok (k := 33) rfl
theorem dX11_passTick_62 : decode cX11_passTick 62 = .ok (.ifCond .ne 6, 3) := g_dec dt132_X11_passTick_ok (k := 34) rfl
theorem dX11_passTick_68 : decode cX11_passTick 68 = .ok (.iinc 1 1, 3) := g_dec dt132_X11_passTick_ok (k := 35) rfl
theorem dX11_passTick_71 : decode cX11_passTick 71 = .ok (.goto (-19), 3) := g_dec dt132_X11_passTick_ok (k := 36) rfl
theorem dX11_passTick_65 : decode cX11_passTick 65 = .ok (.goto 9, 3) := g_dec dt132_X11_passTick_ok (k := 37) rfl
theorem dX11_passTick_36 : decode cX11_passTick 36 = .ok (.iinc 1 1, 3) := g_dec dt132_X11_passTick_ok (k := 38) rfl
theorem dX11_passTick_39 : decode cX11_passTick 39 = .ok (.goto (-27), 3) := g_dec dt132_X11_passTick_ok (k := 39) rfl
theorem dX11_passTick_12 : decode cX11_passTick 12 = .ok (.iload_n 1, 1) := g_dec dt132_X11_passTick_ok (k := 40) rfl
theorem dX11_passTick_13 : decode cX11_passTick 13 = .ok (.bipush 6, 2) := g_dec dt132_X11_passTick_ok (k := 41) rfl
theorem dX11_passTick_15 : decode cX11_passTick 15 = .ok (.if_icmp .ge 27, 3) := g_dec dt132_X11_passTick_ok (k := 42) rfl
theorem dX11_passTick_42 : decode cX11_passTick 42 = .ok (.aload_n 0, 1) := g_dec dt132_X11_passTick_ok (k := 43) rfl
theorem dX11_passTick_43 : decode cX11_passTick 43 = .ok (.getfield 388, 3) := g_dec dt132_X11_passTick_ok (k := 44) rfl
theorem dX11_passTick_46 : decode cX11_passTick 46 = .ok (.ifCond .eq 4, 3) := g_dec dt132_X11_passTick_ok (k := 45) rfl
theorem dX11_passTick_50 : decode cX11_passTick 50 = .ok (.iconst 0, 1) := g_dec dt132_X11_passTick_ok (k := 46) rfl
theorem dX11_passTick_51 : decode cX11_passTick 51 = .ok (.istore_n 1, 1) := g_dec dt132_X11_passTick_ok (k := 47) rfl
theorem dX11_passTick_49 : decode cX11_passTick 49 = .ok (.return_, 1) := g_dec dt132_X11_passTick_ok (k := 48) rfl
theorem dX11_passTick_18 : decode cX11_passTick 18 = .ok (.aload_n 0, 1) := g_dec dt132_X11_passTick_ok (k := 49) rfl
theorem dX11_passTick_19 : decode cX11_passTick 19 = .ok (.iload_n 1, 1) := g_dec dt132_X11_passTick_ok (k := 50) rfl
theorem dX11_passTick_20 : decode cX11_passTick 20 = .ok (.invokevirtual 273, 3) := g_dec dt132_X11_passTick_ok (k := 51) rfl
theorem dX11_passTick_23 : decode cX11_passTick 23 = .ok (.astore_n 2, 1) := g_dec dt132_X11_passTick_ok (k := 52) rfl
theorem dX11_passTick_24 : decode cX11_passTick 24 = .ok (.aload_n 2, 1) := g_dec dt132_X11_passTick_ok (k := 53) rfl
theorem dX11_passTick_25 : decode cX11_passTick 25 = .ok (.invokevirtual 465, 3) := g_dec dt132_X11_passTick_ok (k := 54) rfl
theorem dX11_passTick_28 : decode cX11_passTick 28 = .ok (.ifCond .eq 8, 3) := g_dec dt132_X11_passTick_ok (k := 55) rfl
theorem dX11_passTick_31 : decode cX11_passTick 31 = .ok (.aload_n 0, 1) := g_dec dt132_X11_passTick_ok (k := 56) rfl
theorem dX11_passTick_32 : decode cX11_passTick 32 = .ok (.aload_n 2, 1) := g_dec dt132_X11_passTick_ok (k := 57) rfl
theorem dX11_passTick_33 : decode cX11_passTick 33 = .ok (.invokevirtual 468, 3) := g_dec dt132_X11_passTick_ok (k := 58) rfl
theorem dX11_passTick_0 : decode cX11_passTick 0 = .ok (.aload_n 0, 1) := g_dec dt132_X11_passTick_ok (k := 59) rfl
def dt133_X11_passTick : List (Nat × Instr × Nat) := [(1, (.dup, 1)), (2, (.getfield 295, 3)), (5, (.iconst 1, 1)), (6, (.iadd, 1)), (7, (.putfield 295, 3)), (10, (.iconst 0, 1)), (11, (.istore_n 1, 1))]
theorem dt133_X11_passTick_ok : ∀ q ∈ dt133_X11_passTick, decode cX11_passTick q.1 = .ok q.2 := by decide +kernel
theorem dX11_passTick_1 : decode cX11_passTick 1 = .ok (.dup, 1) := g_dec dt133_X11_passTick_ok (k := 0) rfl
theorem dX11_passTick_2 : decode cX11_passTick 2 = .ok (.getfield 295, 3) := g_dec dt133_X11_passTick_ok (k := 1) rfl
theorem dX11_passTick_5 : decode cX11_passTick 5 = .ok (.iconst 1, 1) := g_dec dt133_X11_passTick_ok (k := 2) rfl
theorem dX11_passTick_6 : decode cX11_passTick 6 = .ok (.iadd, 1) := g_dec dt133_X11_passTick_ok (k := 3) rfl
theorem dX11_passTick_7 : decode cX11_passTick 7 = .ok (.putfield 295, 3) := g_dec dt133_X11_passTick_ok (k := 4) rfl
theorem dX11_passTick_10 : decode cX11_passTick 10 = .ok (.iconst 0, 1) := g_dec dt133_X11_passTick_ok (k := 5) rfl
theorem dX11_passTick_11 : decode cX11_passTick 11 = .ok (.istore_n 1, 1) := g_dec dt133_X11_passTick_ok (k := 6) rfl
def dt134_X11_tick : List (Nat × Instr × Nat) := [(14, (.iload_n 3, 1)), (15, (.iload_n 1, 1)), (16, (.if_icmp .ge 13, 3)), (29, (.aload_n 0, 1)), (30, (.getfield 289, 3)), (33, (.iload_n 2, 1)), (34, (.isub, 1)), (35, (.ireturn, 1)), (19, (.aload_n 0, 1)), (20, (.invokevirtual 292, 3)), (23, (.iinc 3 1, 3)), (26, (.goto (-12), 3)), (0, (.iload_n 1, 1)), (1, (.iconst 1, 1)), (2, (.bipush 30, 2)), (4, (.invokestatic 133, 3)), (7, (.aload_n 0, 1)), (8, (.getfield 289, 3)), (11, (.istore_n 2, 1)), (12, (.iconst 0, 1)), (13, (.istore_n 3, 1))]
theorem dt134_X11_tick_ok : ∀ q ∈ dt134_X11_tick, decode cX11_tick q.1 = .ok q.2 := by decide +kernel
theorem dX11_tick_14 : decode cX11_tick 14 = .ok (.iload_n 3, 1) := g_dec dt134_X11_tick_ok (k := 0) rfl
theorem dX11_tick_15 : decode cX11_tick 15 = .ok (.iload_n 1, 1) := g_dec dt134_X11_tick_ok (k := 1) rfl
theorem dX11_tick_16 : decode cX11_tick 16 = .ok (.if_icmp .ge 13, 3) := g_dec dt134_X11_tick_ok (k := 2) rfl
theorem dX11_tick_29 : decode cX11_tick 29 = .ok (.aload_n 0, 1) := g_dec dt134_X11_tick_ok (k := 3) rfl
theorem dX11_tick_30 : decode cX11_tick 30 = .ok (.getfield 289, 3) := g_dec dt134_X11_tick_ok (k := 4) rfl
theorem dX11_tick_33 : decode cX11_tick 33 = .ok (.iload_n 2, 1) := g_dec dt134_X11_tick_ok (k := 5) rfl
theorem dX11_tick_34 : decode cX11_tick 34 = .ok (.isub, 1) := g_dec dt134_X11_tick_ok (k := 6) rfl
theorem dX11_tick_35 : decode cX11_tick 35 = .ok (.ireturn, 1) := g_dec dt134_X11_tick_ok (k := 7) rfl
theorem dX11_tick_19 : decode cX11_tick 19 = .ok (.aload_n 0, 1) := g_dec dt134_X11_tick_ok (k := 8) rfl
theorem dX11_tick_20 : decode cX11_tick 20 = .ok (.invokevirtual 292, 3) := g_dec dt134_X11_tick_ok (k := 9) rfl
theorem dX11_tick_23 : decode cX11_tick 23 = .ok (.iinc 3 1, 3) := g_dec dt134_X11_tick_ok (k := 10) rfl
theorem dX11_tick_26 : decode cX11_tick 26 = .ok (.goto (-12), 3) := g_dec dt134_X11_tick_ok (k := 11) rfl
theorem dX11_tick_0 : decode cX11_tick 0 = .ok (.iload_n 1, 1) := g_dec dt134_X11_tick_ok (k := 12) rfl
theorem dX11_tick_1 : decode cX11_tick 1 = .ok (.iconst 1, 1) := g_dec dt134_X11_tick_ok (k := 13) rfl
theorem dX11_tick_2 : decode cX11_tick 2 = .ok (.bipush 30, 2) := g_dec dt134_X11_tick_ok (k := 14) rfl
theorem dX11_tick_4 : decode cX11_tick 4 = .ok (.invokestatic 133, 3) := g_dec dt134_X11_tick_ok (k := 15) rfl
theorem dX11_tick_7 : decode cX11_tick 7 = .ok (.aload_n 0, 1) := g_dec dt134_X11_tick_ok (k := 16) rfl
theorem dX11_tick_8 : decode cX11_tick 8 = .ok (.getfield 289, 3) := g_dec dt134_X11_tick_ok (k := 17) rfl
theorem dX11_tick_11 : decode cX11_tick 11 = .ok (.istore_n 2, 1) := g_dec dt134_X11_tick_ok (k := 18) rfl
theorem dX11_tick_12 : decode cX11_tick 12 = .ok (.iconst 0, 1) := g_dec dt134_X11_tick_ok (k := 19) rfl
theorem dX11_tick_13 : decode cX11_tick 13 = .ok (.istore_n 3, 1) := g_dec dt134_X11_tick_ok (k := 20) rfl
theorem ggV_RX9_67_X9_grow : GoodIn wsL_law (wsV RX9 67 RX9 yX9_grow (Cond.code yX9_grow cX9_grow 6 none :: wsL_law)) := g_gi (fun _ h => h) gW_good (List.forall_mem_cons.mpr ⟨⟨gw_801, rfl⟩, List.forall_mem_cons.mpr ⟨⟨gw_802, rfl⟩, List.forall_mem_cons.mpr ⟨⟨gw_803, rfl⟩, List.forall_mem_cons.mpr ⟨⟨gw_23, rfl⟩, fun _ h => nomatch h⟩⟩⟩⟩) ⟨gw_804, rfl⟩
section
variable {p : Program} {l : Launch} {e : Env} {s : State} {m : MethodId} {args : Array Value} {below : List Frame} {meth : Method} {c : Code} {D : va_G} {y : Nat → ClassId} {aS : Nat → Nat} {A : Nat → Prop} {L : List Nat} {ad0 : Nat → Nat} {N : Nat} {res : gS}
def fX9_keep_91 (N : Nat) (σ : gS) : Option gS := some σ
set_option maxRecDepth 100000 in
set_option maxHeartbeats 4000000 in
theorem wX9_keep_91 {σ : gS} {ad : Nat → Nat} {kc ns : Nat} (hx : p.tables.exec = Jvm.exec) (hb : c.code = cX9_keep) (hr : meth.sig.returnType = none) (hml : c.maxLocals = 5) (hown : s.vm.findClass RX9 = some m.cls) (hg : ∀ w ∈ wsL_law, w.before args s = true) (hlocks : meth.locks = false) (hK : gK D y aS s) (hA : ∀ q, s.heap.size ≤ q → A q) (hL : ∀ k, k < 179 → k ∈ L) (hL2 : ∀ k ∈ L, k < 182) (ha : ∀ k, k ≠ 107 → k ≠ 108 → ad k = ad0 k) (hkc : kc ≤ 2) (hns : ns ≤ 4096) {H : Heap} {locs : List Loc} {ls : Array Slot} (hY : gY D y A s L ad σ H locs) (hl : lv_has ls 5 []) (h : fX9_keep_91 N σ = some res) : W p l e ({ frames := 2, cells := 2, slots := 4096, locals := 49 } : Room) s m args below meth c H locs kc ns (MQ below (va_Qv (fun (u : Nat → Nat) => ∀ k, k ≠ 107 → k ≠ 108 → u k = ad0 k) (fun u => gO D A (GW L y u res)) A) args s 2 4096 A) (F0 m 91 ls []) := by
  unfold fX9_keep_91 at h
  cases h
  exact g_vret hx hb hr hlocks ad hY.1 hY.2.1 hY.2.2 ha (by omega) (by omega) dX9_keep_91
def fX9_keep_75 (N : Nat) (σ : gS) (x1 : Int64) (x3 : Int32) (x4 : Int32) : Option gS := if x4 < 0 ∨ gle σ.2.2 107 ≤ x4.toNatClampNeg then none else (if x4 < 0 ∨ gle (sJ σ 107 x4.toNatClampNeg x1).2.2 108 ≤ x4.toNatClampNeg then none else (fX9_keep_91 N (sI (sJ σ 107 x4.toNatClampNeg x1) 108 x4.toNatClampNeg x3)))
set_option maxRecDepth 100000 in
set_option maxHeartbeats 4000000 in
theorem wX9_keep_75 {σ : gS} {x1 : Int64} {x3 : Int32} {x4 : Int32} {ad : Nat → Nat} {kc ns : Nat} (hx : p.tables.exec = Jvm.exec) (hb : c.code = cX9_keep) (hr : meth.sig.returnType = none) (hml : c.maxLocals = 5) (hown : s.vm.findClass RX9 = some m.cls) (hg : ∀ w ∈ wsL_law, w.before args s = true) (hlocks : meth.locks = false) (hK : gK D y aS s) (hA : ∀ q, s.heap.size ≤ q → A q) (hL : ∀ k, k < 179 → k ∈ L) (hL2 : ∀ k ∈ L, k < 182) (ha : ∀ k, k ≠ 107 → k ≠ 108 → ad k = ad0 k) (hkc : kc ≤ 2) (hns : ns ≤ 4096) {H : Heap} {locs : List Loc} {ls : Array Slot} (hY : gY D y A s L ad σ H locs) (hl : lv_has ls 5 [(0, .ref (ad 106)), (1, .long x1), (3, .int x3), (4, .int x4)]) (h : fX9_keep_75 N σ x1 x3 x4 = some res) : W p l e ({ frames := 2, cells := 2, slots := 4096, locals := 49 } : Room) s m args below meth c H locs kc ns (MQ below (va_Qv (fun (u : Nat → Nat) => ∀ k, k ≠ 107 → k ≠ 108 → u k = ad0 k) (fun u => gO D A (GW L y u res)) A) args s 2 4096 A) (F0 m 75 ls []) := by
  unfold fX9_keep_75 at h
  refine lv_aload_n hx hb dX9_keep_75 rfl (lv_at hl 0 rfl) ?_
  refine G_get (ci := 9) (j := 0) (C := RX9) (T := TX9) (N := 3) (v := .ref (ad 107)) hx hb hg inlX9 hown hK hY (hL 106 (by decide)) gk_106 (by decide) rfl (by decide) tX9_0 (hg _ gw_103) rfl dX9_keep_76 ?_
  refine lv_iload hx hb dX9_keep_79 (lv_at hl 3 rfl) ?_
  refine lv_lload_n hx hb dX9_keep_81 rfl (lv_at hl 1 rfl) ?_
  obtain ⟨z_1, h⟩ := g_guard h
  refine G_last (j := x4.toNatClampNeg) hx hb hK hY (hL 107 (by decide)) gk_107 z_1 rfl dX9_keep_82 ?_
  clear hY
  intro H locs hY
  refine lv_aload_n hx hb dX9_keep_83 rfl (lv_at hl 0 rfl) ?_
  refine G_get (ci := 9) (j := 1) (C := RX9) (T := TX9) (N := 3) (v := .ref (ad 108)) hx hb hg inlX9 hown hK hY (hL 106 (by decide)) gk_106 (by decide) rfl (by decide) tX9_1 (hg _ gw_104) rfl dX9_keep_84 ?_
  refine lv_iload hx hb dX9_keep_87 (lv_at hl 3 rfl) ?_
  refine lv_iload_n hx hb dX9_keep_89 rfl (lv_at hl 2 rfl) ?_
  obtain ⟨z_2, h⟩ := g_guard h
  refine G_iast (j := x4.toNatClampNeg) hx hb hK hY (hL 108 (by decide)) gk_108 z_2 rfl dX9_keep_90 ?_
  clear hY
  intro H locs hY
  exact wX9_keep_91 hx hb hr hml hown hg hlocks hK hA hL hL2 ha (by first | omega | (simp only [g_l0]; omega)) (by first | omega | (simp only [g_l0]; omega)) hY (lv_sub hl [] rfl) h
def fX9_keep_18 (N : Nat) (σ : gS) (x1 : Int64) (x3 : Int32) : Option gS := (fX9_placeFor N σ 107 x1).bind fun r_1 => if r_1 < 0 then (fX9_keep_91 N σ) else (if (Int32.ofNat (gle σ.2.2 107)) ≤ r_1 then (fX9_keep_91 N σ) else (if (Int32.ofNat (gle σ.2.2 108)) ≤ r_1 then (fX9_keep_91 N σ) else (if r_1 < 0 ∨ gle σ.2.2 107 ≤ r_1.toNatClampNeg then none else (if (lg_cmp (σ.2.1 107 r_1.toNatClampNeg) 0) = 0 then (fX9_keep_75 N (sI σ 106 2 ((σ.1 106 2) + 1)) x1 x3 r_1) else (fX9_keep_75 N σ x1 x3 r_1)))))
set_option maxRecDepth 100000 in
set_option maxHeartbeats 4000000 in
theorem wX9_keep_18 {σ : gS} {x1 : Int64} {x3 : Int32} {ad : Nat → Nat} {kc ns : Nat} (hx : p.tables.exec = Jvm.exec) (hb : c.code = cX9_keep) (hr : meth.sig.returnType = none) (hml : c.maxLocals = 5) (hown : s.vm.findClass RX9 = some m.cls) (hg : ∀ w ∈ wsL_law, w.before args s = true) (hlocks : meth.locks = false) (hK : gK D y aS s) (hA : ∀ q, s.heap.size ≤ q → A q) (hL : ∀ k, k < 179 → k ∈ L) (hL2 : ∀ k ∈ L, k < 182) (ha : ∀ k, k ≠ 107 → k ≠ 108 → ad k = ad0 k) (hkc : kc ≤ 2) (hns : ns ≤ 4096) {H : Heap} {locs : List Loc} {ls : Array Slot} (hY : gY D y A s L ad σ H locs) (hl : lv_has ls 5 [(0, .ref (ad 106)), (1, .long x1), (3, .int x3)]) (h : fX9_keep_18 N σ x1 x3 = some res) : W p l e ({ frames := 2, cells := 2, slots := 4096, locals := 49 } : Room) s m args below meth c H locs kc ns (MQ below (va_Qv (fun (u : Nat → Nat) => ∀ k, k ≠ 107 → k ≠ 108 → u k = ad0 k) (fun u => gO D A (GW L y u res)) A) args s 2 4096 A) (F0 m 18 ls []) := by
  unfold fX9_keep_18 at h
  refine lv_aload_n hx hb dX9_keep_18 rfl (lv_at hl 0 rfl) ?_
  refine G_get (ci := 9) (j := 0) (C := RX9) (T := TX9) (N := 3) (v := .ref (ad 107)) hx hb hg inlX9 hown hK hY (hL 106 (by decide)) gk_106 (by decide) rfl (by decide) tX9_0 (hg _ gw_103) rfl dX9_keep_19 ?_
  refine lv_lload_n hx hb dX9_keep_22 rfl (lv_at hl 1 rfl) ?_
  obtain ⟨r_1, e_2, h⟩ := g_bind h
  refine G_ai hY hA (va_runS (As := [.ref (ad 107), .long x1]) (rest := []) ⟨hx, hb, hml, hown, hg⟩ (kX9_placeFor l D y aS H.size L hL ad N σ 107 x1 _ gk_107 (hL 107 (by decide)) e_2) (va_cwS 2 hg ggS_RX9_23_X9_placeFor rfl rfl rfl (by decide +kernel) ⟨Nat.le_of_ble_eq_true rfl, Nat.le_of_ble_eq_true rfl⟩) (G_pS hK hY) rfl rfl hl.1 rfl (lv_room (Nat.le_of_ble_eq_true rfl)) dX9_keep_23 ⟨(by dsimp only; omega), (by dsimp only; omega)⟩) ?_
  clear hY
  rintro _ H locs rfl hY
  refine lv_istore (lv' := [(4, .int r_1), (0, .ref (ad 106)), (1, .long x1), (3, .int x3)]) hx hb dX9_keep_26 hl (by decide) rfl ?_
  clear hl
  intro ls hl
  refine lv_iload hx hb dX9_keep_28 (lv_at hl 0 rfl) ?_
  refine lv_if_lt (tgt := 91) hx hb dX9_keep_30 (by decide) (fun z_3 => ?_) (fun z_3 => ?_)
  ·
    rw [if_pos z_3] at h
    exact wX9_keep_91 hx hb hr hml hown hg hlocks hK hA hL hL2 ha (by first | omega | (simp only [g_l0]; omega)) (by first | omega | (simp only [g_l0]; omega)) hY (lv_sub hl [] rfl) h
  ·
    rw [if_neg z_3] at h
    refine lv_iload hx hb dX9_keep_33 (lv_at hl 0 rfl) ?_
    refine lv_aload_n hx hb dX9_keep_35 rfl (lv_at hl 1 rfl) ?_
    refine G_get (ci := 9) (j := 0) (C := RX9) (T := TX9) (N := 3) (v := .ref (ad 107)) hx hb hg inlX9 hown hK hY (hL 106 (by decide)) gk_106 (by decide) rfl (by decide) tX9_0 (hg _ gw_103) rfl dX9_keep_36 ?_
    refine G_alenJ hx hb hK hY (hL 107 (by decide)) gk_107 dX9_keep_39 ?_
    refine lv_icmp_ge (tgt := 91) hx hb dX9_keep_40 (by decide) (fun z_4 => ?_) (fun z_4 => ?_)
    ·
      rw [if_pos z_4] at h
      exact wX9_keep_91 hx hb hr hml hown hg hlocks hK hA hL hL2 ha (by first | omega | (simp only [g_l0]; omega)) (by first | omega | (simp only [g_l0]; omega)) hY (lv_sub hl [] rfl) h
    ·
      rw [if_neg z_4] at h
      refine lv_iload hx hb dX9_keep_43 (lv_at hl 0 rfl) ?_
      refine lv_aload_n hx hb dX9_keep_45 rfl (lv_at hl 1 rfl) ?_
      refine G_get (ci := 9) (j := 1) (C := RX9) (T := TX9) (N := 3) (v := .ref (ad 108)) hx hb hg inlX9 hown hK hY (hL 106 (by decide)) gk_106 (by decide) rfl (by decide) tX9_1 (hg _ gw_104) rfl dX9_keep_46 ?_
      refine G_alenI hx hb hK hY (hL 108 (by decide)) gk_108 dX9_keep_49 ?_
      refine lv_icmp_ge (tgt := 91) hx hb dX9_keep_50 (by decide) (fun z_5 => ?_) (fun z_5 => ?_)
      ·
        rw [if_pos z_5] at h
        exact wX9_keep_91 hx hb hr hml hown hg hlocks hK hA hL hL2 ha (by first | omega | (simp only [g_l0]; omega)) (by first | omega | (simp only [g_l0]; omega)) hY (lv_sub hl [] rfl) h
      ·
        rw [if_neg z_5] at h
        refine lv_aload_n hx hb dX9_keep_53 rfl (lv_at hl 1 rfl) ?_
        refine G_get (ci := 9) (j := 0) (C := RX9) (T := TX9) (N := 3) (v := .ref (ad 107)) hx hb hg inlX9 hown hK hY (hL 106 (by decide)) gk_106 (by decide) rfl (by decide) tX9_0 (hg _ gw_103) rfl dX9_keep_54 ?_
        refine lv_iload hx hb dX9_keep_57 (lv_at hl 0 rfl) ?_
        obtain ⟨z_6, h⟩ := g_guard h
        refine G_lald (j := r_1.toNatClampNeg) hx hb hK hY (hL 107 (by decide)) gk_107 z_6 rfl dX9_keep_59 ?_
        refine lv_lconst (v := 0) hx hb dX9_keep_60 (by decide) ?_
        refine W.lcmp hx hb dX9_keep_61 ?_
        refine lv_if_ne (tgt := 75) hx hb dX9_keep_62 (by decide) (fun z_7 => ?_) (fun z_7 => ?_)
        ·
          rw [if_neg z_7] at h
          exact wX9_keep_75 hx hb hr hml hown hg hlocks hK hA hL hL2 ha (by first | omega | (simp only [g_l0]; omega)) (by first | omega | (simp only [g_l0]; omega)) hY (lv_sub hl [1, 2, 3, 0] rfl) h
        ·
          rw [if_pos z_7] at h
          refine lv_aload_n hx hb dX9_keep_65 rfl (lv_at hl 1 rfl) ?_
          refine lv_dup hx hb dX9_keep_66 rfl ?_
          refine G_get (ci := 9) (j := 2) (C := RX9) (T := TX9) (N := 3) (v := .int (σ.1 106 2)) hx hb hg inlX9 hown hK hY (hL 106 (by decide)) gk_106 (by decide) rfl (by decide) tX9_2 (hg _ gw_800) rfl dX9_keep_67 ?_
          refine lv_iconst (v := 1) hx hb dX9_keep_70 (by decide) ?_
          refine lv_iadd hx hb dX9_keep_71 ?_
          refine G_putI (ci := 9) (j := 2) (C := RX9) (T := TX9) (N := 3) (v := ((σ.1 106 2) + 1)) (ty := .int) hx hb hg inlX9 tyX9 tyX9_ok nmX9 hown hK hY (hL 106 (by decide)) gk_106 (by decide) rfl (by decide) tX9_2 (hg _ gw_800) (by decide +kernel) rfl rfl (fun _ _ => rfl) (fun _ _ => Nat.le_of_ble_eq_true rfl) dX9_keep_72 ?_
          clear hY
          intro H locs hY
          exact wX9_keep_75 hx hb hr hml hown hg hlocks hK hA hL hL2 ha (by first | omega | (simp only [g_l0]; omega)) (by first | omega | (simp only [g_l0]; omega)) hY (lv_sub hl [1, 2, 3, 0] rfl) h
end
def fX9_keep (N : Nat) (σ : gS) (x1 : Int64) (x3 : Int32) : Option gS := if (σ.1 106 2) < ((Int32.ofNat (gle σ.2.2 107)) / 2) then (fX9_keep_18 N σ x1 x3) else ((fX9_grow N σ).bind fun r_2 => fX9_keep_18 N r_2 x1 x3)
set_option maxRecDepth 100000 in
set_option maxHeartbeats 4000000 in
theorem kX9_keep (l : Launch) (D : va_G) (y : Nat → ClassId) (aS : Nat → Nat) (sz : Nat) (L : List Nat) (hL : ∀ k, k < 179 → k ∈ L) (hL2 : ∀ k ∈ L, k < 182) (ad : Nat → Nat) (ad0 : Nat → Nat) (ha : ∀ k, k ≠ 107 → k ≠ 108 → ad k = ad0 k) (N : Nat) (σ : gS) (x1 : Int64) (x3 : Int32) (res : gS) (h : fX9_keep N σ x1 x3 = some res) : Met l yX9_keep (Cond.code yX9_keep cX9_keep 5 none :: wsL_law) ({ frames := 2, cells := 2, slots := 4096, locals := 49 } : Room) (va_Pc [.ref (ad 106), .long x1, .int x3] (gI D y aS (GW L y ad σ) sz)) (va_Qv (fun (u : Nat → Nat) => ∀ k, k ≠ 107 → k ≠ 108 → u k = ad0 k) (fun u => gO D (va_A (GW L y ad σ) sz) (GW L y u res)) (va_A (GW L y ad σ) sz)) 2 4096 (va_A (GW L y ad σ) sz) := by
  refine g_of (by decide) (Nat.le_of_ble_eq_true rfl) ?_
  intro p e s m below meth c ls A hx hb hr hml hown hg hlocks hin hsz hK hP hD hS hA hAe hl
  rw [← hAe]
  replace hown : s.vm.findClass RX9 = some m.cls := hown
  have hY : gY D y A s L ad σ s.heap [] := ⟨hP, hD, hS⟩
  clear hP hD hS
  replace hl : lv_has ls 5 [(0, .ref (ad 106)), (1, .long x1), (3, .int x3)] := hl
  unfold fX9_keep at h
  refine lv_aload_n hx hb dX9_keep_0 rfl (lv_at hl 0 rfl) ?_
  refine G_get (ci := 9) (j := 2) (C := RX9) (T := TX9) (N := 3) (v := .int (σ.1 106 2)) hx hb hg inlX9 hown hK hY (hL 106 (by decide)) gk_106 (by decide) rfl (by decide) tX9_2 (hg _ gw_800) rfl dX9_keep_1 ?_
  refine lv_aload_n hx hb dX9_keep_4 rfl (lv_at hl 0 rfl) ?_
  refine G_get (ci := 9) (j := 0) (C := RX9) (T := TX9) (N := 3) (v := .ref (ad 107)) hx hb hg inlX9 hown hK hY (hL 106 (by decide)) gk_106 (by decide) rfl (by decide) tX9_0 (hg _ gw_103) rfl dX9_keep_5 ?_
  refine G_alenJ hx hb hK hY (hL 107 (by decide)) gk_107 dX9_keep_8 ?_
  refine lv_iconst (v := 2) hx hb dX9_keep_9 (by decide) ?_
  refine lv_idiv hx hb dX9_keep_10 (by decide +kernel) ?_
  refine lv_icmp_lt (tgt := 18) hx hb dX9_keep_11 (by decide) (fun z_1 => ?_) (fun z_1 => ?_)
  ·
    rw [if_pos z_1] at h
    exact wX9_keep_18 hx hb hr hml hown hg hlocks hK hA hL hL2 ha (by first | omega | (simp only [g_l0]; omega)) (by first | omega | (simp only [g_l0]; omega)) hY (lv_sub hl [0, 1, 2] rfl) h
  ·
    rw [if_neg z_1] at h
    refine lv_aload_n hx hb dX9_keep_14 rfl (lv_at hl 0 rfl) ?_
    obtain ⟨r_2, e_3, h⟩ := g_bind h
    refine G_avA hY hA (va_runV (As := []) (rest := []) ⟨hx, hb, hml, hown, hg⟩ (kX9_grow l D y aS s.heap.size L hL hL2 ad ad (fun _ _ => rfl) N σ _ e_3) (cwV 0 hg ggV_RX9_67_X9_grow rfl rfl rfl (by decide +kernel) ⟨Nat.le_of_ble_eq_true rfl, Nat.le_of_ble_eq_true rfl⟩) (G_pV (q := (RX9, TX9, 3)) hK hY (hL 106 (by decide)) gk_106 (by decide) rfl) rfl rfl hl.1 rfl (lv_room (Nat.le_of_ble_eq_true rfl)) dX9_keep_15 ⟨(by dsimp only; omega), (by dsimp only; omega)⟩) ?_
    clear hY
    rintro ad hu H locs hY
    replace hl : lv_has ls 5 [(0, .ref (ad 106)), (1, .long x1), (3, .int x3)] := by rw [hu 106 (by decide) (by decide)]; exact hl
    replace ha : ∀ k, k ≠ 107 → k ≠ 108 → ad k = ad0 k := fun k h1 h2 => (hu k h1 h2).trans (ha k h1 h2)
    clear hu
    exact wX9_keep_18 hx hb hr hml hown hg hlocks hK hA hL hL2 ha (by first | omega | (simp only [g_l0]; omega)) (by first | omega | (simp only [g_l0]; omega)) hY (lv_sub hl [0, 1, 2] rfl) h
theorem ggV_RX9_48_X9_keep : GoodIn wsL_law (wsV RX9 48 RX9 yX9_keep (Cond.code yX9_keep cX9_keep 5 none :: wsL_law)) := g_gi (fun _ h => h) gW_good (List.forall_mem_cons.mpr ⟨⟨gw_796, rfl⟩, List.forall_mem_cons.mpr ⟨⟨gw_797, rfl⟩, List.forall_mem_cons.mpr ⟨⟨gw_798, rfl⟩, List.forall_mem_cons.mpr ⟨⟨gw_23, rfl⟩, fun _ h => nomatch h⟩⟩⟩⟩) ⟨gw_799, rfl⟩
theorem ggV_RX9_27_X9_valueOf : GoodIn wsL_law (wsV RX9 27 RX9 yX9_valueOf (Cond.code yX9_valueOf cX9_valueOf 4 (some .int) :: wsL_law)) := g_gi (fun _ h => h) gW_good (List.forall_mem_cons.mpr ⟨⟨gw_766, rfl⟩, List.forall_mem_cons.mpr ⟨⟨gw_767, rfl⟩, List.forall_mem_cons.mpr ⟨⟨gw_768, rfl⟩, List.forall_mem_cons.mpr ⟨⟨gw_23, rfl⟩, fun _ h => nomatch h⟩⟩⟩⟩) ⟨gw_769, rfl⟩
theorem ggV_RX9_31_X3_fails : GoodIn wsL_law (wsV RX9 31 RX3 yX3_fails (Cond.code yX3_fails cX3_fails 4 (some .boolean) :: wsL_law)) := g_gi (fun _ h => h) gW_good (List.forall_mem_cons.mpr ⟨⟨gw_770, rfl⟩, List.forall_mem_cons.mpr ⟨⟨gw_771, rfl⟩, List.forall_mem_cons.mpr ⟨⟨gw_772, rfl⟩, List.forall_mem_cons.mpr ⟨⟨gw_81, rfl⟩, fun _ h => nomatch h⟩⟩⟩⟩) ⟨gw_773, rfl⟩
theorem ggV_RX9_37_X3_allowed : GoodIn wsL_law (wsV RX9 37 RX3 yX3_allowed (Cond.code yX3_allowed cX3_allowed 1 (some .int) :: wsL_law)) := g_gi (fun _ h => h) gW_good (List.forall_mem_cons.mpr ⟨⟨gw_791, rfl⟩, List.forall_mem_cons.mpr ⟨⟨gw_792, rfl⟩, List.forall_mem_cons.mpr ⟨⟨gw_793, rfl⟩, List.forall_mem_cons.mpr ⟨⟨gw_81, rfl⟩, fun _ h => nomatch h⟩⟩⟩⟩) ⟨gw_794, rfl⟩
section
variable {p : Program} {l : Launch} {e : Env} {s : State} {m : MethodId} {args : Array Value} {below : List Frame} {meth : Method} {c : Code} {D : va_G} {y : Nat → ClassId} {aS : Nat → Nat} {A : Nat → Prop} {L : List Nat} {ad0 : Nat → Nat} {N : Nat} {res : gS}
def fX9_tell_67 (N : Nat) (σ : gS) (r1 : Nat) (x4 : Int64) (x6 : Int32) (x7 : Int32) : Option gS := (fX9_keep N (sI σ r1 8 ((σ.1 r1 8) + 1)) x4 ((x6 <<< (2 &&& 31)) ||| x7)).bind fun r_1 => some r_1
set_option maxRecDepth 100000 in
set_option maxHeartbeats 4000000 in
theorem wX9_tell_67 {σ : gS} {r1 : Nat} {x4 : Int64} {x6 : Int32} {x7 : Int32} {ad : Nat → Nat} {kc ns : Nat} (hx : p.tables.exec = Jvm.exec) (hb : c.code = cX9_tell) (hr : meth.sig.returnType = none) (hml : c.maxLocals = 8) (hown : s.vm.findClass RX9 = some m.cls) (hg : ∀ w ∈ wsL_law, w.before args s = true) (hlocks : meth.locks = false) (hK : gK D y aS s) (hA : ∀ q, s.heap.size ≤ q → A q) (hL : ∀ k, k < 179 → k ∈ L) (hL2 : ∀ k ∈ L, k < 182) (ha : ∀ k, k ≠ 107 → k ≠ 108 → ad k = ad0 k) (hr1 : gcl r1 = 3) (hkc : kc = 0) (hns : ns = 0) {H : Heap} {locs : List Loc} {ls : Array Slot} (hY : gY D y A s L ad σ H locs) (hl : lv_has ls 8 [(0, .ref (ad 106)), (1, .ref (ad r1)), (4, .long x4), (6, .int x6), (7, .int x7)]) (h : fX9_tell_67 N σ r1 x4 x6 x7 = some res) : W p l e ({ frames := 3, cells := 2, slots := 4096, locals := 73 } : Room) s m args below meth c H locs kc ns (MQ below (va_Qv (fun (u : Nat → Nat) => ∀ k, k ≠ 107 → k ≠ 108 → u k = ad0 k) (fun u => gO D A (GW L y u res)) A) args s 2 4096 A) (F0 m 67 ls []) := by
  unfold fX9_tell_67 at h
  refine lv_aload_n hx hb dX9_tell_67 rfl (lv_at hl 1 rfl) ?_
  refine lv_dup hx hb dX9_tell_68 rfl ?_
  refine G_get (ci := 3) (j := 8) (C := RX3) (T := TX3) (N := 10) (v := .int (σ.1 r1 8)) hx hb hg inlX3 hown hK hY (hL _ (gcl_lt hr1 (by decide))) hr1 (by decide) rfl (by decide) tX3_8 (hg _ gw_765) rfl dX9_tell_69 ?_
  refine lv_iconst (v := 1) hx hb dX9_tell_72 (by decide) ?_
  refine lv_iadd hx hb dX9_tell_73 ?_
  refine G_putI (ci := 3) (j := 8) (C := RX3) (T := TX3) (N := 10) (v := ((σ.1 r1 8) + 1)) (ty := .int) hx hb hg inlX3 tyX3 tyX3_ok nmX3 hown hK hY (hL _ (gcl_lt hr1 (by decide))) hr1 (by decide) rfl (by decide) tX3_8 (hg _ gw_765) (by decide +kernel) rfl rfl (fun _ _ => rfl) (fun _ _ => Nat.le_of_ble_eq_true rfl) dX9_tell_74 ?_
  clear hY
  intro H locs hY
  refine lv_aload_n hx hb dX9_tell_77 rfl (lv_at hl 0 rfl) ?_
  refine lv_lload hx hb dX9_tell_78 (lv_at hl 2 rfl) ?_
  refine lv_iload hx hb dX9_tell_80 (lv_at hl 3 rfl) ?_
  refine lv_iconst (v := 2) hx hb dX9_tell_82 (by decide) ?_
  refine lv_ishl hx hb dX9_tell_83 ?_
  refine lv_iload hx hb dX9_tell_84 (lv_at hl 4 rfl) ?_
  refine lv_ior hx hb dX9_tell_86 ?_
  obtain ⟨r_1, e_2, h⟩ := g_bind h
  refine G_avA hY hA (va_runV (As := [.long x4, .int ((x6 <<< (2 &&& 31)) ||| x7)]) (rest := []) ⟨hx, hb, hml, hown, hg⟩ (kX9_keep l D y aS H.size L hL hL2 ad ad (fun _ _ _ => rfl) N (sI σ r1 8 ((σ.1 r1 8) + 1)) x4 ((x6 <<< (2 &&& 31)) ||| x7) _ e_2) (cwV 2 hg ggV_RX9_48_X9_keep rfl rfl rfl (by decide +kernel) ⟨Nat.le_of_ble_eq_true rfl, Nat.le_of_ble_eq_true rfl⟩) (G_pV (q := (RX9, TX9, 3)) hK hY (hL 106 (by decide)) gk_106 (by decide) rfl) rfl rfl hl.1 rfl (lv_room (Nat.le_of_ble_eq_true rfl)) dX9_tell_87 ⟨(by dsimp only; omega), (by dsimp only; omega)⟩) ?_
  clear hY
  rintro ad hu H locs hY
  replace hl : lv_has ls 8 [(0, .ref (ad 106)), (1, .ref (ad r1)), (4, .long x4), (6, .int x6), (7, .int x7)] := by rw [hu 106 (by decide) (by decide), hu r1 (g_nk hr1 (by decide)).1 (g_nk hr1 (by decide)).2]; exact hl
  replace ha : ∀ k, k ≠ 107 → k ≠ 108 → ad k = ad0 k := fun k h1 h2 => (hu k h1 h2).trans (ha k h1 h2)
  clear hu
  cases h
  exact g_vret hx hb hr hlocks ad hY.1 hY.2.1 hY.2.2 ha (by omega) (by omega) dX9_tell_90
def fX9_tell_47 (N : Nat) (σ : gS) (r1 : Nat) (x4 : Int64) (x6 : Int32) (xs0 : Int32) : Option gS := fX9_tell_67 N σ r1 x4 x6 xs0
set_option maxRecDepth 100000 in
set_option maxHeartbeats 4000000 in
theorem wX9_tell_47 {σ : gS} {r1 : Nat} {x4 : Int64} {x6 : Int32} {xs0 : Int32} {ad : Nat → Nat} {kc ns : Nat} (hx : p.tables.exec = Jvm.exec) (hb : c.code = cX9_tell) (hr : meth.sig.returnType = none) (hml : c.maxLocals = 8) (hown : s.vm.findClass RX9 = some m.cls) (hg : ∀ w ∈ wsL_law, w.before args s = true) (hlocks : meth.locks = false) (hK : gK D y aS s) (hA : ∀ q, s.heap.size ≤ q → A q) (hL : ∀ k, k < 179 → k ∈ L) (hL2 : ∀ k ∈ L, k < 182) (ha : ∀ k, k ≠ 107 → k ≠ 108 → ad k = ad0 k) (hr1 : gcl r1 = 3) (hkc : kc = 0) (hns : ns = 0) {H : Heap} {locs : List Loc} {ls : Array Slot} (hY : gY D y A s L ad σ H locs) (hl : lv_has ls 8 [(0, .ref (ad 106)), (1, .ref (ad r1)), (4, .long x4), (6, .int x6)]) (h : fX9_tell_47 N σ r1 x4 x6 xs0 = some res) : W p l e ({ frames := 3, cells := 2, slots := 4096, locals := 73 } : Room) s m args below meth c H locs kc ns (MQ below (va_Qv (fun (u : Nat → Nat) => ∀ k, k ≠ 107 → k ≠ 108 → u k = ad0 k) (fun u => gO D A (GW L y u res)) A) args s 2 4096 A) (F0 m 47 ls [.int xs0]) := by
  unfold fX9_tell_47 at h
  refine lv_istore (lv' := [(7, .int xs0), (0, .ref (ad 106)), (1, .ref (ad r1)), (4, .long x4), (6, .int x6)]) hx hb dX9_tell_47 hl (by decide) rfl ?_
  clear hl
  intro ls hl
  refine lv_goto (tgt := 67) hx hb dX9_tell_49 (by decide) ?_
  exact wX9_tell_67 hx hb hr hml hown hg hlocks hK hA hL hL2 ha hr1 (by first | omega | (simp only [g_l0]; omega)) (by first | omega | (simp only [g_l0]; omega)) hY (lv_sub hl [1, 2, 3, 4, 0] rfl) h
end
def fX9_tell (N : Nat) (σ : gS) (r1 : Nat) (x2 : Int64) : Option gS := (fX9_keyOf N σ r1 x2).bind fun r_1 => (fX9_valueOf N σ r_1).bind fun r_3 => (fX3_fails N σ r1 x2 (r_3 >>> (2 &&& 31))).bind fun r_5 => if r_5 = 0 then (if (r_3 >>> (2 &&& 31)) ≤ 0 then (fX9_tell_67 N σ r1 r_1 (r_3 >>> (2 &&& 31)) 1) else (fX9_tell_67 N (sI σ r1 9 ((σ.1 r1 9) + 1)) r1 r_1 (r_3 >>> (2 &&& 31)) 1)) else ((fX3_allowed N σ r1).bind fun r_9 => if ((r_3 >>> (2 &&& 31)) + 1) < r_9 then (fX9_tell_47 N σ r1 r_1 ((r_3 >>> (2 &&& 31)) + 1) 0) else (fX9_tell_47 N σ r1 r_1 ((r_3 >>> (2 &&& 31)) + 1) 2))
set_option maxRecDepth 100000 in
set_option maxHeartbeats 4000000 in
theorem kX9_tell (l : Launch) (D : va_G) (y : Nat → ClassId) (aS : Nat → Nat) (sz : Nat) (L : List Nat) (hL : ∀ k, k < 179 → k ∈ L) (hL2 : ∀ k ∈ L, k < 182) (ad : Nat → Nat) (ad0 : Nat → Nat) (ha : ∀ k, k ≠ 107 → k ≠ 108 → ad k = ad0 k) (N : Nat) (σ : gS) (r1 : Nat) (x2 : Int64) (res : gS) (hr1 : gcl r1 = 3) (h : fX9_tell N σ r1 x2 = some res) : Met l yX9_tell (Cond.code yX9_tell cX9_tell 8 none :: wsL_law) ({ frames := 3, cells := 2, slots := 4096, locals := 73 } : Room) (va_Pc [.ref (ad 106), .ref (ad r1), .long x2] (gI D y aS (GW L y ad σ) sz)) (va_Qv (fun (u : Nat → Nat) => ∀ k, k ≠ 107 → k ≠ 108 → u k = ad0 k) (fun u => gO D (va_A (GW L y ad σ) sz) (GW L y u res)) (va_A (GW L y ad σ) sz)) 2 4096 (va_A (GW L y ad σ) sz) := by
  refine g_of (by decide) (Nat.le_of_ble_eq_true rfl) ?_
  intro p e s m below meth c ls A hx hb hr hml hown hg hlocks hin hsz hK hP hD hS hA hAe hl
  rw [← hAe]
  replace hown : s.vm.findClass RX9 = some m.cls := hown
  have hY : gY D y A s L ad σ s.heap [] := ⟨hP, hD, hS⟩
  clear hP hD hS
  replace hl : lv_has ls 8 [(0, .ref (ad 106)), (1, .ref (ad r1)), (2, .long x2)] := hl
  unfold fX9_tell at h
  refine lv_aload_n hx hb dX9_tell_0 rfl (lv_at hl 1 rfl) ?_
  refine lv_lload_n hx hb dX9_tell_1 rfl (lv_at hl 2 rfl) ?_
  obtain ⟨r_1, e_2, h⟩ := g_bind h
  refine G_al hY hA (va_runS (As := [.ref (ad r1), .long x2]) (rest := []) ⟨hx, hb, hml, hown, hg⟩ (kX9_keyOf l D y aS s.heap.size L hL ad N σ r1 x2 _ hr1 e_2) (va_cwS 2 hg ggS_RX9_19_X9_keyOf rfl rfl rfl (by decide +kernel) ⟨Nat.le_of_ble_eq_true rfl, Nat.le_of_ble_eq_true rfl⟩) (G_pS hK hY) rfl rfl hl.1 rfl (lv_room (Nat.le_of_ble_eq_true rfl)) dX9_tell_2 ⟨(by dsimp only; omega), (by dsimp only; omega)⟩) ?_
  clear hY
  rintro _ H locs rfl hY
  refine lv_lstore (lv' := [(4, .long r_1), (0, .ref (ad 106)), (1, .ref (ad r1)), (2, .long x2)]) hx hb dX9_tell_5 hl (by decide) rfl ?_
  clear hl
  intro ls hl
  refine lv_aload_n hx hb dX9_tell_7 rfl (lv_at hl 1 rfl) ?_
  refine lv_lload hx hb dX9_tell_8 (lv_at hl 0 rfl) ?_
  obtain ⟨r_3, e_4, h⟩ := g_bind h
  refine G_ai hY hA (va_runV (As := [.long r_1]) (rest := []) ⟨hx, hb, hml, hown, hg⟩ (kX9_valueOf l D y aS H.size L hL ad N σ r_1 _ e_4) (cwV 1 hg ggV_RX9_27_X9_valueOf rfl rfl rfl (by decide +kernel) ⟨Nat.le_of_ble_eq_true rfl, Nat.le_of_ble_eq_true rfl⟩) (G_pV (q := (RX9, TX9, 3)) hK hY (hL 106 (by decide)) gk_106 (by decide) rfl) rfl rfl hl.1 rfl (lv_room (Nat.le_of_ble_eq_true rfl)) dX9_tell_10 ⟨(by dsimp only; omega), (by dsimp only; omega)⟩) ?_
  clear hY
  rintro _ H locs rfl hY
  refine lv_iconst (v := 2) hx hb dX9_tell_13 (by decide) ?_
  refine lv_ishr hx hb dX9_tell_14 ?_
  refine lv_istore (lv' := [(6, .int (r_3 >>> (2 &&& 31))), (4, .long r_1), (0, .ref (ad 106)), (1, .ref (ad r1)), (2, .long x2)]) hx hb dX9_tell_15 hl (by decide) rfl ?_
  clear hl
  intro ls hl
  refine lv_iconst (v := 1) hx hb dX9_tell_17 (by decide) ?_
  refine lv_istore (lv' := [(7, .int 1), (6, .int (r_3 >>> (2 &&& 31))), (4, .long r_1), (0, .ref (ad 106)), (1, .ref (ad r1)), (2, .long x2)]) hx hb dX9_tell_18 hl (by decide) rfl ?_
  clear hl
  intro ls hl
  refine lv_aload_n hx hb dX9_tell_20 rfl (lv_at hl 4 rfl) ?_
  refine lv_lload_n hx hb dX9_tell_21 rfl (lv_at hl 5 rfl) ?_
  refine lv_iload hx hb dX9_tell_22 (lv_at hl 1 rfl) ?_
  obtain ⟨r_5, e_6, h⟩ := g_bind h
  refine G_ai hY hA (va_runV (As := [.long x2, .int (r_3 >>> (2 &&& 31))]) (rest := []) ⟨hx, hb, hml, hown, hg⟩ (kX3_fails l D y aS H.size L hL ad N σ r1 x2 (r_3 >>> (2 &&& 31)) _ hr1 e_6) (cwV 2 hg ggV_RX9_31_X3_fails rfl rfl rfl (by decide +kernel) ⟨Nat.le_of_ble_eq_true rfl, Nat.le_of_ble_eq_true rfl⟩) (G_pV (q := (RX3, TX3, 10)) hK hY (hL _ (gcl_lt hr1 (by decide))) hr1 (by decide) rfl) rfl rfl hl.1 rfl (lv_room (Nat.le_of_ble_eq_true rfl)) dX9_tell_24 ⟨(by dsimp only; omega), (by dsimp only; omega)⟩) ?_
  clear hY
  rintro _ H locs rfl hY
  refine lv_if_eq (tgt := 52) hx hb dX9_tell_27 (by decide) (fun z_7 => ?_) (fun z_7 => ?_)
  ·
    rw [if_pos z_7] at h
    refine lv_iload hx hb dX9_tell_52 (lv_at hl 1 rfl) ?_
    refine lv_if_le (tgt := 67) hx hb dX9_tell_54 (by decide) (fun z_8 => ?_) (fun z_8 => ?_)
    ·
      rw [if_pos z_8] at h
      exact wX9_tell_67 hx hb hr hml hown hg hlocks hK hA hL hL2 ha hr1 (by first | omega | (simp only [g_l0]; omega)) (by first | omega | (simp only [g_l0]; omega)) hY (lv_sub hl [3, 4, 2, 1, 0] rfl) h
    ·
      rw [if_neg z_8] at h
      refine lv_aload_n hx hb dX9_tell_57 rfl (lv_at hl 4 rfl) ?_
      refine lv_dup hx hb dX9_tell_58 rfl ?_
      refine G_get (ci := 3) (j := 9) (C := RX3) (T := TX3) (N := 10) (v := .int (σ.1 r1 9)) hx hb hg inlX3 hown hK hY (hL _ (gcl_lt hr1 (by decide))) hr1 (by decide) rfl (by decide) tX3_9 (hg _ gw_764) rfl dX9_tell_59 ?_
      refine lv_iconst (v := 1) hx hb dX9_tell_62 (by decide) ?_
      refine lv_iadd hx hb dX9_tell_63 ?_
      refine G_putI (ci := 3) (j := 9) (C := RX3) (T := TX3) (N := 10) (v := ((σ.1 r1 9) + 1)) (ty := .int) hx hb hg inlX3 tyX3 tyX3_ok nmX3 hown hK hY (hL _ (gcl_lt hr1 (by decide))) hr1 (by decide) rfl (by decide) tX3_9 (hg _ gw_764) (by decide +kernel) rfl rfl (fun _ _ => rfl) (fun _ _ => Nat.le_of_ble_eq_true rfl) dX9_tell_64 ?_
      clear hY
      intro H locs hY
      exact wX9_tell_67 hx hb hr hml hown hg hlocks hK hA hL hL2 ha hr1 (by first | omega | (simp only [g_l0]; omega)) (by first | omega | (simp only [g_l0]; omega)) hY (lv_sub hl [3, 4, 2, 1, 0] rfl) h
  ·
    rw [if_neg z_7] at h
    refine lv_iinc (v := ((r_3 >>> (2 &&& 31)) + 1)) (lv' := [(6, .int ((r_3 >>> (2 &&& 31)) + 1)), (7, .int 1), (4, .long r_1), (0, .ref (ad 106)), (1, .ref (ad r1)), (2, .long x2)]) hx hb dX9_tell_30 hl (k := 1) rfl rfl (by decide) rfl ?_
    clear hl
    intro ls hl
    refine lv_iload hx hb dX9_tell_33 (lv_at hl 0 rfl) ?_
    refine lv_aload_n hx hb dX9_tell_35 rfl (lv_at hl 4 rfl) ?_
    obtain ⟨r_9, e_10, h⟩ := g_bind h
    refine G_ai hY hA (va_runV (As := []) (rest := [.int ((r_3 >>> (2 &&& 31)) + 1)]) ⟨hx, hb, hml, hown, hg⟩ (kX3_allowed l D y aS H.size L hL ad N σ r1 _ hr1 e_10) (cwV 0 hg ggV_RX9_37_X3_allowed rfl rfl rfl (by decide +kernel) ⟨Nat.le_of_ble_eq_true rfl, Nat.le_of_ble_eq_true rfl⟩) (G_pV (q := (RX3, TX3, 10)) hK hY (hL _ (gcl_lt hr1 (by decide))) hr1 (by decide) rfl) rfl rfl hl.1 rfl (lv_room (Nat.le_of_ble_eq_true rfl)) dX9_tell_36 ⟨(by dsimp only; omega), (by dsimp only; omega)⟩) ?_
    clear hY
    rintro _ H locs rfl hY
    refine lv_icmp_lt (tgt := 46) hx hb dX9_tell_39 (by decide) (fun z_11 => ?_) (fun z_11 => ?_)
    ·
      rw [if_pos z_11] at h
      refine lv_iconst (v := 0) hx hb dX9_tell_46 (by decide) ?_
      exact wX9_tell_47 hx hb hr hml hown hg hlocks hK hA hL hL2 ha hr1 (by first | omega | (simp only [g_l0]; omega)) (by first | omega | (simp only [g_l0]; omega)) hY (lv_sub hl [3, 4, 2, 0] rfl) h
    ·
      rw [if_neg z_11] at h
      refine lv_iconst (v := 2) hx hb dX9_tell_42 (by decide) ?_
      refine lv_goto (tgt := 47) hx hb dX9_tell_43 (by decide) ?_
      exact wX9_tell_47 hx hb hr hml hown hg hlocks hK hA hL hL2 ha hr1 (by first | omega | (simp only [g_l0]; omega)) (by first | omega | (simp only [g_l0]; omega)) hY (lv_sub hl [3, 4, 2, 0] rfl) h
theorem ggV_RX11_491_X9_tell : GoodIn wsL_law (wsV RX11 491 RX9 yX9_tell (Cond.code yX9_tell cX9_tell 8 none :: wsL_law)) := g_gi (fun _ h => h) gW_good (List.forall_mem_cons.mpr ⟨⟨gw_760, rfl⟩, List.forall_mem_cons.mpr ⟨⟨gw_761, rfl⟩, List.forall_mem_cons.mpr ⟨⟨gw_762, rfl⟩, List.forall_mem_cons.mpr ⟨⟨gw_23, rfl⟩, fun _ h => nomatch h⟩⟩⟩⟩) ⟨gw_763, rfl⟩
section
variable {p : Program} {l : Launch} {e : Env} {s : State} {m : MethodId} {args : Array Value} {below : List Frame} {meth : Method} {c : Code} {D : va_G} {y : Nat → ClassId} {aS : Nat → Nat} {A : Nat → Prop} {L : List Nat} {ad0 : Nat → Nat} {N : Nat} {res : gS}
def fX11_tellRun_35 (N : Nat) (σ : gS) (r1 : Nat) : Option gS := some (sI (sI (sI σ r1 1 (σ.1 r1 2)) r1 2 (-1)) 0 18 0)
set_option maxRecDepth 100000 in
set_option maxHeartbeats 4000000 in
theorem wX11_tellRun_35 {σ : gS} {r1 : Nat} {ad : Nat → Nat} {kc ns : Nat} (hx : p.tables.exec = Jvm.exec) (hb : c.code = cX11_tellRun) (hr : meth.sig.returnType = none) (hml : c.maxLocals = 3) (hown : s.vm.findClass RX11 = some m.cls) (hg : ∀ w ∈ wsL_law, w.before args s = true) (hlocks : meth.locks = false) (hK : gK D y aS s) (hA : ∀ q, s.heap.size ≤ q → A q) (hL : ∀ k, k < 179 → k ∈ L) (hL2 : ∀ k ∈ L, k < 182) (ha : ∀ k, k ≠ 107 → k ≠ 108 → ad k = ad0 k) (hr1 : gcl r1 = 6) (hkc : kc ≤ 2) (hns : ns ≤ 4096) {H : Heap} {locs : List Loc} {ls : Array Slot} (hY : gY D y A s L ad σ H locs) (hl : lv_has ls 3 [(0, .ref (ad 0)), (1, .ref (ad r1))]) (h : fX11_tellRun_35 N σ r1 = some res) : W p l e ({ frames := 4, cells := 2, slots := 4096, locals := 100 } : Room) s m args below meth c H locs kc ns (MQ below (va_Qv (fun (u : Nat → Nat) => ∀ k, k ≠ 107 → k ≠ 108 → u k = ad0 k) (fun u => gO D A (GW L y u res)) A) args s 2 4096 A) (F0 m 35 ls []) := by
  unfold fX11_tellRun_35 at h
  refine lv_aload_n hx hb dX11_tellRun_35 rfl (lv_at hl 1 rfl) ?_
  refine lv_aload_n hx hb dX11_tellRun_36 rfl (lv_at hl 1 rfl) ?_
  refine G_get (ci := 6) (j := 2) (C := RX6) (T := TX6) (N := 6) (v := .int (σ.1 r1 2)) hx hb hg inlX6 hown hK hY (hL _ (gcl_lt hr1 (by decide))) hr1 (by decide) rfl (by decide) tX6_2 (hg _ gw_546) rfl dX11_tellRun_37 ?_
  refine G_putI (ci := 6) (j := 1) (C := RX6) (T := TX6) (N := 6) (v := (σ.1 r1 2)) (ty := .int) hx hb hg inlX6 tyX6 tyX6_ok nmX6 hown hK hY (hL _ (gcl_lt hr1 (by decide))) hr1 (by decide) rfl (by decide) tX6_1 (hg _ gw_759) (by decide +kernel) rfl rfl (fun _ _ => rfl) (fun _ _ => Nat.le_of_ble_eq_true rfl) dX11_tellRun_40 ?_
  clear hY
  intro H locs hY
  refine lv_aload_n hx hb dX11_tellRun_43 rfl (lv_at hl 1 rfl) ?_
  refine lv_iconst (v := (-1)) hx hb dX11_tellRun_44 (by decide) ?_
  refine G_putI (ci := 6) (j := 2) (C := RX6) (T := TX6) (N := 6) (v := (-1)) (ty := .int) hx hb hg inlX6 tyX6 tyX6_ok nmX6 hown hK hY (hL _ (gcl_lt hr1 (by decide))) hr1 (by decide) rfl (by decide) tX6_2 (hg _ gw_546) (by decide +kernel) rfl rfl (fun _ _ => rfl) (fun _ _ => Nat.le_of_ble_eq_true rfl) dX11_tellRun_45 ?_
  clear hY
  intro H locs hY
  refine lv_aload_n hx hb dX11_tellRun_48 rfl (lv_at hl 0 rfl) ?_
  refine lv_iconst (v := 0) hx hb dX11_tellRun_49 (by decide) ?_
  refine G_putI (ci := 11) (j := 18) (C := RX11) (T := TX11) (N := 19) (v := 0) (ty := .boolean) hx hb hg inlX11 tyX11 tyX11_ok nmX11 hown hK hY (hL 0 (by decide)) gk_0 (by decide) rfl (by decide) tX11_18 (hg _ gw_408) (by decide +kernel) rfl rfl (fun _ _ => rfl) (fun _ _ => Nat.le_of_ble_eq_true rfl) dX11_tellRun_50 ?_
  clear hY
  intro H locs hY
  cases h
  exact g_vret hx hb hr hlocks ad hY.1 hY.2.1 hY.2.2 ha (by omega) (by omega) dX11_tellRun_53
end
def fX11_tellRun (N : Nat) (σ : gS) (r1 : Nat) : Option gS := (fX7_at N σ (σ.1 r1 2)).bind fun r_1 => if (σ.1 r1 4) = (σ.1 r_1 7) then ((fX9_tell N σ r_1 (σ.2.1 r1 3)).bind fun r_5 => fX11_tellRun_35 N r_5 r1) else (fX11_tellRun_35 N σ r1)
set_option maxRecDepth 100000 in
set_option maxHeartbeats 4000000 in
theorem kX11_tellRun (l : Launch) (D : va_G) (y : Nat → ClassId) (aS : Nat → Nat) (sz : Nat) (L : List Nat) (hL : ∀ k, k < 179 → k ∈ L) (hL2 : ∀ k ∈ L, k < 182) (ad : Nat → Nat) (ad0 : Nat → Nat) (ha : ∀ k, k ≠ 107 → k ≠ 108 → ad k = ad0 k) (N : Nat) (σ : gS) (r1 : Nat) (res : gS) (hr1 : gcl r1 = 6) (h : fX11_tellRun N σ r1 = some res) : Met l yX11_tellRun (Cond.code yX11_tellRun cX11_tellRun 3 none :: wsL_law) ({ frames := 4, cells := 2, slots := 4096, locals := 100 } : Room) (va_Pc [.ref (ad 0), .ref (ad r1)] (gI D y aS (GW L y ad σ) sz)) (va_Qv (fun (u : Nat → Nat) => ∀ k, k ≠ 107 → k ≠ 108 → u k = ad0 k) (fun u => gO D (va_A (GW L y ad σ) sz) (GW L y u res)) (va_A (GW L y ad σ) sz)) 2 4096 (va_A (GW L y ad σ) sz) := by
  refine g_of (by decide) (Nat.le_of_ble_eq_true rfl) ?_
  intro p e s m below meth c ls A hx hb hr hml hown hg hlocks hin hsz hK hP hD hS hA hAe hl
  rw [← hAe]
  replace hown : s.vm.findClass RX11 = some m.cls := hown
  have hY : gY D y A s L ad σ s.heap [] := ⟨hP, hD, hS⟩
  clear hP hD hS
  replace hl : lv_has ls 3 [(0, .ref (ad 0)), (1, .ref (ad r1))] := hl
  unfold fX11_tellRun at h
  refine lv_aload_n hx hb dX11_tellRun_0 rfl (lv_at hl 0 rfl) ?_
  refine G_get (ci := 11) (j := 1) (C := RX11) (T := TX11) (N := 19) (v := .ref (ad 65)) hx hb hg inlX11 hown hK hY (hL 0 (by decide)) gk_0 (by decide) rfl (by decide) tX11_1 (hg _ gw_20) rfl dX11_tellRun_1 ?_
  refine lv_aload_n hx hb dX11_tellRun_4 rfl (lv_at hl 1 rfl) ?_
  refine G_get (ci := 6) (j := 2) (C := RX6) (T := TX6) (N := 6) (v := .int (σ.1 r1 2)) hx hb hg inlX6 hown hK hY (hL _ (gcl_lt hr1 (by decide))) hr1 (by decide) rfl (by decide) tX6_2 (hg _ gw_546) rfl dX11_tellRun_5 ?_
  obtain ⟨r_1, e_2, h⟩ := g_bind h
  refine G_ar hY hA (va_runV (As := [.int (σ.1 r1 2)]) (rest := []) ⟨hx, hb, hml, hown, hg⟩ (kX7_at l D y aS s.heap.size L hL ad N σ (σ.1 r1 2) _ e_2) (cwV 1 hg ggV_RX11_237_X7_at rfl rfl rfl (by decide +kernel) ⟨Nat.le_of_ble_eq_true rfl, Nat.le_of_ble_eq_true rfl⟩) (G_pV (q := (RX7, TX7, 6)) hK hY (hL 65 (by decide)) gk_65 (by decide) rfl) rfl rfl hl.1 rfl (lv_room (Nat.le_of_ble_eq_true rfl)) dX11_tellRun_8 ⟨(by dsimp only; omega), (by dsimp only; omega)⟩) ?_
  clear hY
  rintro H locs k_3 hY
  refine lv_astore_n (lv' := [(2, .ref (ad r_1)), (0, .ref (ad 0)), (1, .ref (ad r1))]) hx hb dX11_tellRun_11 rfl hl (by decide) rfl ?_
  clear hl
  intro ls hl
  refine lv_aload_n hx hb dX11_tellRun_12 rfl (lv_at hl 2 rfl) ?_
  refine G_get (ci := 6) (j := 4) (C := RX6) (T := TX6) (N := 6) (v := .int (σ.1 r1 4)) hx hb hg inlX6 hown hK hY (hL _ (gcl_lt hr1 (by decide))) hr1 (by decide) rfl (by decide) tX6_4 (hg _ gw_756) rfl dX11_tellRun_13 ?_
  refine lv_aload_n hx hb dX11_tellRun_16 rfl (lv_at hl 0 rfl) ?_
  refine G_get (ci := 3) (j := 7) (C := RX3) (T := TX3) (N := 10) (v := .int (σ.1 r_1 7)) hx hb hg inlX3 hown hK hY (hL _ (gcl_lt k_3 (by decide))) k_3 (by decide) rfl (by decide) tX3_7 (hg _ gw_757) rfl dX11_tellRun_17 ?_
  refine lv_icmp_ne (tgt := 35) hx hb dX11_tellRun_20 (by decide) (fun z_4 => ?_) (fun z_4 => ?_)
  ·
    rw [if_neg z_4] at h
    exact wX11_tellRun_35 hx hb hr hml hown hg hlocks hK hA hL hL2 ha hr1 (by first | omega | (simp only [g_l0]; omega)) (by first | omega | (simp only [g_l0]; omega)) hY (lv_sub hl [1, 2] rfl) h
  ·
    rw [if_pos z_4] at h
    refine lv_aload_n hx hb dX11_tellRun_23 rfl (lv_at hl 1 rfl) ?_
    refine G_get (ci := 11) (j := 2) (C := RX11) (T := TX11) (N := 19) (v := .ref (ad 106)) hx hb hg inlX11 hown hK hY (hL 0 (by decide)) gk_0 (by decide) rfl (by decide) tX11_2 (hg _ gw_24) rfl dX11_tellRun_24 ?_
    refine lv_aload_n hx hb dX11_tellRun_27 rfl (lv_at hl 0 rfl) ?_
    refine lv_aload_n hx hb dX11_tellRun_28 rfl (lv_at hl 2 rfl) ?_
    refine G_get (ci := 6) (j := 3) (C := RX6) (T := TX6) (N := 6) (v := .long (σ.2.1 r1 3)) hx hb hg inlX6 hown hK hY (hL _ (gcl_lt hr1 (by decide))) hr1 (by decide) rfl (by decide) tX6_3 (hg _ gw_758) rfl dX11_tellRun_29 ?_
    obtain ⟨r_5, e_6, h⟩ := g_bind h
    refine G_avA hY hA (va_runV (As := [.ref (ad r_1), .long (σ.2.1 r1 3)]) (rest := []) ⟨hx, hb, hml, hown, hg⟩ (kX9_tell l D y aS H.size L hL hL2 ad ad (fun _ _ _ => rfl) N σ r_1 (σ.2.1 r1 3) _ k_3 e_6) (cwV 2 hg ggV_RX11_491_X9_tell rfl rfl rfl (by decide +kernel) ⟨Nat.le_of_ble_eq_true rfl, Nat.le_of_ble_eq_true rfl⟩) (G_pV (q := (RX9, TX9, 3)) hK hY (hL 106 (by decide)) gk_106 (by decide) rfl) rfl rfl hl.1 rfl (lv_room (Nat.le_of_ble_eq_true rfl)) dX11_tellRun_32 ⟨(by dsimp only; omega), (by dsimp only; omega)⟩) ?_
    clear hY
    rintro ad hu H locs hY
    replace hl : lv_has ls 3 [(2, .ref (ad r_1)), (0, .ref (ad 0)), (1, .ref (ad r1))] := by rw [hu r_1 (g_nk k_3 (by decide)).1 (g_nk k_3 (by decide)).2, hu 0 (by decide) (by decide), hu r1 (g_nk hr1 (by decide)).1 (g_nk hr1 (by decide)).2]; exact hl
    replace ha : ∀ k, k ≠ 107 → k ≠ 108 → ad k = ad0 k := fun k h1 h2 => (hu k h1 h2).trans (ha k h1 h2)
    clear hu
    exact wX11_tellRun_35 hx hb hr hml hown hg hlocks hK hA hL hL2 ha hr1 (by first | omega | (simp only [g_l0]; omega)) (by first | omega | (simp only [g_l0]; omega)) hY (lv_sub hl [1, 2] rfl) h
theorem ggV_RX11_481_X11_takeWanted : GoodIn wsL_law (wsV RX11 481 RX11 yX11_takeWanted (Cond.code yX11_takeWanted cX11_takeWanted 5 none :: wsL_law)) := g_gi (fun _ h => h) gW_good (List.forall_mem_cons.mpr ⟨⟨gw_856, rfl⟩, List.forall_mem_cons.mpr ⟨⟨gw_857, rfl⟩, List.forall_mem_cons.mpr ⟨⟨gw_858, rfl⟩, List.forall_mem_cons.mpr ⟨⟨gw_2, rfl⟩, fun _ h => nomatch h⟩⟩⟩⟩) ⟨gw_859, rfl⟩
theorem ggV_RX11_475_X11_endFullRun : GoodIn wsL_law (wsV RX11 475 RX11 yX11_endFullRun (Cond.code yX11_endFullRun cX11_endFullRun 4 none :: wsL_law)) := g_gi (fun _ h => h) gW_good (List.forall_mem_cons.mpr ⟨⟨gw_816, rfl⟩, List.forall_mem_cons.mpr ⟨⟨gw_817, rfl⟩, List.forall_mem_cons.mpr ⟨⟨gw_818, rfl⟩, List.forall_mem_cons.mpr ⟨⟨gw_2, rfl⟩, fun _ h => nomatch h⟩⟩⟩⟩) ⟨gw_819, rfl⟩
theorem ggV_RX11_478_X11_listWanted : GoodIn wsL_law (wsV RX11 478 RX11 yX11_listWanted (Cond.code yX11_listWanted cX11_listWanted 2 none :: wsL_law)) := g_gi (fun _ h => h) gW_good (List.forall_mem_cons.mpr ⟨⟨gw_820, rfl⟩, List.forall_mem_cons.mpr ⟨⟨gw_821, rfl⟩, List.forall_mem_cons.mpr ⟨⟨gw_822, rfl⟩, List.forall_mem_cons.mpr ⟨⟨gw_2, rfl⟩, fun _ h => nomatch h⟩⟩⟩⟩) ⟨gw_823, rfl⟩
theorem ggV_RX11_472_X11_decideOnce : GoodIn wsL_law (wsV RX11 472 RX11 yX11_decideOnce (Cond.code yX11_decideOnce cX11_decideOnce 3 (some .boolean) :: wsL_law)) := g_gi (fun _ h => h) gW_good (List.forall_mem_cons.mpr ⟨⟨gw_806, rfl⟩, List.forall_mem_cons.mpr ⟨⟨gw_807, rfl⟩, List.forall_mem_cons.mpr ⟨⟨gw_808, rfl⟩, List.forall_mem_cons.mpr ⟨⟨gw_2, rfl⟩, fun _ h => nomatch h⟩⟩⟩⟩) ⟨gw_809, rfl⟩
theorem ggV_RX11_465_X6_isDoneByTick : GoodIn wsL_law (wsV RX11 465 RX6 yX6_isDoneByTick (Cond.code yX6_isDoneByTick cX6_isDoneByTick 1 (some .boolean) :: wsL_law)) := g_gi (fun _ h => h) gW_good (List.forall_mem_cons.mpr ⟨⟨gw_747, rfl⟩, List.forall_mem_cons.mpr ⟨⟨gw_748, rfl⟩, List.forall_mem_cons.mpr ⟨⟨gw_749, rfl⟩, List.forall_mem_cons.mpr ⟨⟨gw_44, rfl⟩, fun _ h => nomatch h⟩⟩⟩⟩) ⟨gw_750, rfl⟩
theorem ggV_RX11_468_X11_tellRun : GoodIn wsL_law (wsV RX11 468 RX11 yX11_tellRun (Cond.code yX11_tellRun cX11_tellRun 3 none :: wsL_law)) := g_gi (fun _ h => h) gW_good (List.forall_mem_cons.mpr ⟨⟨gw_752, rfl⟩, List.forall_mem_cons.mpr ⟨⟨gw_753, rfl⟩, List.forall_mem_cons.mpr ⟨⟨gw_754, rfl⟩, List.forall_mem_cons.mpr ⟨⟨gw_2, rfl⟩, fun _ h => nomatch h⟩⟩⟩⟩) ⟨gw_755, rfl⟩
section
variable {p : Program} {l : Launch} {e : Env} {s : State} {m : MethodId} {args : Array Value} {below : List Frame} {meth : Method} {c : Code} {D : va_G} {y : Nat → ClassId} {aS : Nat → Nat} {A : Nat → Prop} {L : List Nat} {ad0 : Nat → Nat} {N : Nat} {res : gS}
def fX11_passTick_116 (N : Nat) (rec84 : (gS × Int32) → Option gS) (σ : gS) (x1 : Int32) : Option gS := rec84 (σ, (x1 + 1))
set_option maxRecDepth 100000 in
set_option maxHeartbeats 4000000 in
theorem wX11_passTick_116 {rec84 : (gS × Int32) → Option gS} {σ : gS} {x1 : Int32} {ad : Nat → Nat} {kc ns : Nat} (hx : p.tables.exec = Jvm.exec) (hb : c.code = cX11_passTick) (hr : meth.sig.returnType = none) (hml : c.maxLocals = 3) (hown : s.vm.findClass RX11 = some m.cls) (hg : ∀ w ∈ wsL_law, w.before args s = true) (hlocks : meth.locks = false) (hK : gK D y aS s) (hA : ∀ q, s.heap.size ≤ q → A q) (hL : ∀ k, k < 179 → k ∈ L) (hL2 : ∀ k ∈ L, k < 182) (ha : ∀ k, k ≠ 107 → k ≠ 108 → ad k = ad0 k) (hrec84 : ∀ {ad : Nat → Nat} {kc ns : Nat} (ha : ∀ k, k ≠ 107 → k ≠ 108 → ad k = ad0 k) {σ9 : gS} {x1n9 : Int32} (hkc : kc ≤ 12) (hns : ns ≤ 24576) (H : Heap) (locs : List Loc) (ls : Array Slot), gY D y A s L ad σ9 H locs → lv_has ls 3 [(0, .ref (ad 0)), (1, .int x1n9)] → rec84 (σ9, x1n9) = some res → W p l e ({ frames := 5, cells := 12, slots := 24576, locals := 123 } : Room) s m args below meth c H locs kc ns (MQ below (va_Qv (fun (u : Nat → Nat) => ∀ k, k ≠ 107 → k ≠ 108 → u k = ad0 k) (fun u => gO D A (GW L y u res)) A) args s 12 24576 A) (F0 m 84 ls [])) (hkc : kc ≤ 12) (hns : ns ≤ 24576) {H : Heap} {locs : List Loc} {ls : Array Slot} (hY : gY D y A s L ad σ H locs) (hl : lv_has ls 3 [(0, .ref (ad 0)), (1, .int x1)]) (h : fX11_passTick_116 N rec84 σ x1 = some res) : W p l e ({ frames := 5, cells := 12, slots := 24576, locals := 123 } : Room) s m args below meth c H locs kc ns (MQ below (va_Qv (fun (u : Nat → Nat) => ∀ k, k ≠ 107 → k ≠ 108 → u k = ad0 k) (fun u => gO D A (GW L y u res)) A) args s 12 24576 A) (F0 m 116 ls []) := by
  unfold fX11_passTick_116 at h
  refine lv_iinc (v := (x1 + 1)) (lv' := [(1, .int (x1 + 1)), (0, .ref (ad 0))]) hx hb dX11_passTick_116 hl (k := 1) rfl rfl (by decide) rfl ?_
  clear hl
  intro ls hl
  refine lv_goto (tgt := 84) hx hb dX11_passTick_119 (by decide) ?_
  exact hrec84 ha (by first | omega | (simp only [g_l0]; omega)) (by first | omega | (simp only [g_l0]; omega)) _ _ _ hY (lv_sub hl [1, 0] rfl) h
def fX11_passTick_84 (N : Nat) (rec84 : (gS × Int32) → Option gS) (xx : gS × Int32) : Option gS := match xx with
  | (σ, x1) => if 6 ≤ x1 then (some (sI σ 0 18 1)) else ((fX11_machineAt N σ x1).bind fun r_2 => if (σ.1 r_2 0) = 0 then (fX11_passTick_116 N rec84 σ x1) else (if (σ.1 r_2 2) = (-1) then ((fX11_takeWanted N σ r_2).bind fun r_7 => fX11_passTick_116 N rec84 r_7 x1) else (fX11_passTick_116 N rec84 σ x1)))
set_option maxRecDepth 100000 in
set_option maxHeartbeats 4000000 in
theorem wX11_passTick_84 (hx : p.tables.exec = Jvm.exec) (hb : c.code = cX11_passTick) (hr : meth.sig.returnType = none) (hml : c.maxLocals = 3) (hown : s.vm.findClass RX11 = some m.cls) (hg : ∀ w ∈ wsL_law, w.before args s = true) (hlocks : meth.locks = false) (hK : gK D y aS s) (hA : ∀ q, s.heap.size ≤ q → A q) (hL : ∀ k, k < 179 → k ∈ L) (hL2 : ∀ k ∈ L, k < 182) : ∀ (n : Nat) {ad : Nat → Nat} {kc ns : Nat} (ha : ∀ k, k ≠ 107 → k ≠ 108 → ad k = ad0 k) {σ : gS} {x1 : Int32} (hkc : kc ≤ 12) (hns : ns ≤ 24576) (H : Heap) (locs : List Loc) (ls : Array Slot), gY D y A s L ad σ H locs → lv_has ls 3 [(0, .ref (ad 0)), (1, .int x1)] → lp (fX11_passTick_84 N) n (σ, x1) = some res → W p l e ({ frames := 5, cells := 12, slots := 24576, locals := 123 } : Room) s m args below meth c H locs kc ns (MQ below (va_Qv (fun (u : Nat → Nat) => ∀ k, k ≠ 107 → k ≠ 108 → u k = ad0 k) (fun u => gO D A (GW L y u res)) A) args s 12 24576 A) (F0 m 84 ls []) := by
  intro n
  induction n with
  | zero => intro ad kc ns ha σ x1 hkc hns H locs ls hY hl h; exact nomatch (show none = some res from h)
  | succ n hrec84 =>
    intro ad kc ns ha σ x1 hkc hns H locs ls hY hl h
    replace h : fX11_passTick_84 N (lp (fX11_passTick_84 N) n) (σ, x1) = some res := h
    generalize lp (fX11_passTick_84 N) n = rec84 at h hrec84
    unfold fX11_passTick_84 at h
    try dsimp only at h
    refine lv_iload_n hx hb dX11_passTick_84 rfl (lv_at hl 1 rfl) ?_
    refine lv_bipush (v := 6) hx hb dX11_passTick_85 (by decide +kernel) ?_
    refine lv_icmp_ge (tgt := 122) hx hb dX11_passTick_87 (by decide) (fun z_1 => ?_) (fun z_1 => ?_)
    ·
      rw [if_pos z_1] at h
      have qz_1 := g_get z_1; (try simp only [g_l0, g_l3, g_l6] at qz_1)
      refine lv_aload_n hx hb dX11_passTick_122 rfl (lv_at hl 0 rfl) ?_
      refine lv_iconst (v := 1) hx hb dX11_passTick_123 (by decide) ?_
      refine G_putI (ci := 11) (j := 18) (C := RX11) (T := TX11) (N := 19) (v := 1) (ty := .boolean) hx hb hg inlX11 tyX11 tyX11_ok nmX11 hown hK hY (hL 0 (by decide)) gk_0 (by decide) rfl (by decide) tX11_18 (hg _ gw_408) (by decide +kernel) rfl rfl (fun _ _ => rfl) (fun _ _ => Nat.le_of_ble_eq_true rfl) dX11_passTick_124 ?_
      clear hY
      intro H locs hY
      cases h
      exact g_vret hx hb hr hlocks ad hY.1 hY.2.1 hY.2.2 ha (by omega) (by omega) dX11_passTick_127
    ·
      rw [if_neg z_1] at h
      have qz_1 := g_gef z_1; (try simp only [g_l0, g_l3, g_l6] at qz_1)
      refine lv_aload_n hx hb dX11_passTick_90 rfl (lv_at hl 0 rfl) ?_
      refine lv_iload_n hx hb dX11_passTick_91 rfl (lv_at hl 1 rfl) ?_
      obtain ⟨r_2, e_3, h⟩ := g_bind h
      refine G_ar hY hA (va_runV (As := [.int x1]) (rest := []) ⟨hx, hb, hml, hown, hg⟩ (kX11_machineAt l D y aS H.size L hL ad N σ x1 _ e_3) (cwV 1 hg ggV_RX11_273_X11_machineAt rfl rfl rfl (by decide +kernel) ⟨Nat.le_of_ble_eq_true rfl, Nat.le_of_ble_eq_true rfl⟩) (G_pV (q := (RX11, TX11, 19)) hK hY (hL 0 (by decide)) gk_0 (by decide) rfl) rfl rfl hl.1 rfl (lv_room (Nat.le_of_ble_eq_true rfl)) dX11_passTick_92 ⟨(by dsimp only; omega), (by dsimp only; omega)⟩) ?_
      clear hY
      rintro H locs k_4 hY
      refine lv_astore_n (lv' := [(2, .ref (ad r_2)), (0, .ref (ad 0)), (1, .int x1)]) hx hb dX11_passTick_95 rfl hl (by decide) rfl ?_
      clear hl
      intro ls hl
      refine lv_aload_n hx hb dX11_passTick_96 rfl (lv_at hl 0 rfl) ?_
      refine G_get (ci := 6) (j := 0) (C := RX6) (T := TX6) (N := 6) (v := .int (σ.1 r_2 0)) hx hb hg inlX6 hown hK hY (hL _ (gcl_lt k_4 (by decide))) k_4 (by decide) rfl (by decide) tX6_0 (hg _ gw_685) rfl dX11_passTick_97 ?_
      refine lv_if_eq (tgt := 116) hx hb dX11_passTick_100 (by decide) (fun z_5 => ?_) (fun z_5 => ?_)
      ·
        rw [if_pos z_5] at h
        exact wX11_passTick_116 hx hb hr hml hown hg hlocks hK hA hL hL2 ha hrec84 (by first | omega | (simp only [g_l0]; omega)) (by first | omega | (simp only [g_l0]; omega)) hY (lv_sub hl [1, 2] rfl) h
      ·
        rw [if_neg z_5] at h
        refine lv_aload_n hx hb dX11_passTick_103 rfl (lv_at hl 0 rfl) ?_
        refine G_get (ci := 6) (j := 2) (C := RX6) (T := TX6) (N := 6) (v := .int (σ.1 r_2 2)) hx hb hg inlX6 hown hK hY (hL _ (gcl_lt k_4 (by decide))) k_4 (by decide) rfl (by decide) tX6_2 (hg _ gw_546) rfl dX11_passTick_104 ?_
        refine lv_iconst (v := (-1)) hx hb dX11_passTick_107 (by decide) ?_
        refine lv_icmp_ne (tgt := 116) hx hb dX11_passTick_108 (by decide) (fun z_6 => ?_) (fun z_6 => ?_)
        ·
          rw [if_neg z_6] at h
          exact wX11_passTick_116 hx hb hr hml hown hg hlocks hK hA hL hL2 ha hrec84 (by first | omega | (simp only [g_l0]; omega)) (by first | omega | (simp only [g_l0]; omega)) hY (lv_sub hl [1, 2] rfl) h
        ·
          rw [if_pos z_6] at h
          refine lv_aload_n hx hb dX11_passTick_111 rfl (lv_at hl 1 rfl) ?_
          refine lv_aload_n hx hb dX11_passTick_112 rfl (lv_at hl 0 rfl) ?_
          obtain ⟨r_7, e_8, h⟩ := g_bind h
          refine G_av hY hA (va_runV (As := [.ref (ad r_2)]) (rest := []) ⟨hx, hb, hml, hown, hg⟩ (kX11_takeWanted l D y aS H.size L hL ad N σ r_2 _ k_4 e_8) (cwV 1 hg ggV_RX11_481_X11_takeWanted rfl rfl rfl (by decide +kernel) ⟨Nat.le_of_ble_eq_true rfl, Nat.le_of_ble_eq_true rfl⟩) (G_pV (q := (RX11, TX11, 19)) hK hY (hL 0 (by decide)) gk_0 (by decide) rfl) rfl rfl hl.1 rfl (lv_room (Nat.le_of_ble_eq_true rfl)) dX11_passTick_113 ⟨(by dsimp only; omega), (by dsimp only; omega)⟩) ?_
          clear hY
          rintro H locs hY
          exact wX11_passTick_116 hx hb hr hml hown hg hlocks hK hA hL hL2 ha hrec84 (by first | omega | (simp only [g_l0]; omega)) (by first | omega | (simp only [g_l0]; omega)) hY (lv_sub hl [1, 2] rfl) h
def fX11_passTick_74 (N : Nat) (σ : gS) : Option gS := (fX11_endFullRun N σ).bind fun r_1 => (fX11_listWanted N r_1).bind fun r_3 => lp (fX11_passTick_84 N) N (r_3, 0)
set_option maxRecDepth 100000 in
set_option maxHeartbeats 4000000 in
theorem wX11_passTick_74 {σ : gS} {ad : Nat → Nat} {kc ns : Nat} (hx : p.tables.exec = Jvm.exec) (hb : c.code = cX11_passTick) (hr : meth.sig.returnType = none) (hml : c.maxLocals = 3) (hown : s.vm.findClass RX11 = some m.cls) (hg : ∀ w ∈ wsL_law, w.before args s = true) (hlocks : meth.locks = false) (hK : gK D y aS s) (hA : ∀ q, s.heap.size ≤ q → A q) (hL : ∀ k, k < 179 → k ∈ L) (hL2 : ∀ k ∈ L, k < 182) (ha : ∀ k, k ≠ 107 → k ≠ 108 → ad k = ad0 k) (hkc : kc ≤ 12) (hns : ns ≤ 24576) {H : Heap} {locs : List Loc} {ls : Array Slot} (hY : gY D y A s L ad σ H locs) (hl : lv_has ls 3 [(0, .ref (ad 0))]) (h : fX11_passTick_74 N σ = some res) : W p l e ({ frames := 5, cells := 12, slots := 24576, locals := 123 } : Room) s m args below meth c H locs kc ns (MQ below (va_Qv (fun (u : Nat → Nat) => ∀ k, k ≠ 107 → k ≠ 108 → u k = ad0 k) (fun u => gO D A (GW L y u res)) A) args s 12 24576 A) (F0 m 74 ls []) := by
  unfold fX11_passTick_74 at h
  refine lv_aload_n hx hb dX11_passTick_74 rfl (lv_at hl 0 rfl) ?_
  obtain ⟨r_1, e_2, h⟩ := g_bind h
  refine G_av hY hA (va_runV (As := []) (rest := []) ⟨hx, hb, hml, hown, hg⟩ (kX11_endFullRun l D y aS H.size L hL ad N σ _ e_2) (cwV 0 hg ggV_RX11_475_X11_endFullRun rfl rfl rfl (by decide +kernel) ⟨Nat.le_of_ble_eq_true rfl, Nat.le_of_ble_eq_true rfl⟩) (G_pV (q := (RX11, TX11, 19)) hK hY (hL 0 (by decide)) gk_0 (by decide) rfl) rfl rfl hl.1 rfl (lv_room (Nat.le_of_ble_eq_true rfl)) dX11_passTick_75 ⟨(by dsimp only; omega), (by dsimp only; omega)⟩) ?_
  clear hY
  rintro H locs hY
  refine lv_aload_n hx hb dX11_passTick_78 rfl (lv_at hl 0 rfl) ?_
  obtain ⟨r_3, e_4, h⟩ := g_bind h
  refine G_av hY hA (va_runV (As := []) (rest := []) ⟨hx, hb, hml, hown, hg⟩ (kX11_listWanted l D y aS H.size L hL ad N r_1 _ e_4) (cwV 0 hg ggV_RX11_478_X11_listWanted rfl rfl rfl (by decide +kernel) ⟨Nat.le_of_ble_eq_true rfl, Nat.le_of_ble_eq_true rfl⟩) (G_pV (q := (RX11, TX11, 19)) hK hY (hL 0 (by decide)) gk_0 (by decide) rfl) rfl rfl hl.1 rfl (lv_room (Nat.le_of_ble_eq_true rfl)) dX11_passTick_79 ⟨(by dsimp only; omega), (by dsimp only; omega)⟩) ?_
  clear hY
  rintro H locs hY
  refine lv_iconst (v := 0) hx hb dX11_passTick_82 (by decide) ?_
  refine lv_istore_n (lv' := [(1, .int 0), (0, .ref (ad 0))]) hx hb dX11_passTick_83 rfl hl (by decide) rfl ?_
  clear hl
  intro ls hl
  exact wX11_passTick_84 hx hb hr hml hown hg hlocks hK hA hL hL2 N ha (by first | omega | (simp only [g_l0]; omega)) (by first | omega | (simp only [g_l0]; omega)) _ _ _ hY (lv_sub hl [1, 0] rfl) h
def fX11_passTick_52 (N : Nat) (rec52 : (gS × Int32) → Option gS) (xx : gS × Int32) : Option gS := match xx with
  | (σ, x1) => if 60 < x1 then (fX11_passTick_74 N σ) else ((fX11_decideOnce N σ).bind fun r_2 => if r_2.1 = 0 then (fX11_passTick_74 N r_2.2) else (rec52 (r_2.2, (x1 + 1))))
set_option maxRecDepth 100000 in
set_option maxHeartbeats 4000000 in
theorem wX11_passTick_52 (hx : p.tables.exec = Jvm.exec) (hb : c.code = cX11_passTick) (hr : meth.sig.returnType = none) (hml : c.maxLocals = 3) (hown : s.vm.findClass RX11 = some m.cls) (hg : ∀ w ∈ wsL_law, w.before args s = true) (hlocks : meth.locks = false) (hK : gK D y aS s) (hA : ∀ q, s.heap.size ≤ q → A q) (hL : ∀ k, k < 179 → k ∈ L) (hL2 : ∀ k ∈ L, k < 182) : ∀ (n : Nat) {ad : Nat → Nat} {kc ns : Nat} (ha : ∀ k, k ≠ 107 → k ≠ 108 → ad k = ad0 k) {σ : gS} {x1 : Int32} (hkc : kc ≤ 12) (hns : ns ≤ 24576) (H : Heap) (locs : List Loc) (ls : Array Slot), gY D y A s L ad σ H locs → lv_has ls 3 [(0, .ref (ad 0)), (1, .int x1)] → lp (fX11_passTick_52 N) n (σ, x1) = some res → W p l e ({ frames := 5, cells := 12, slots := 24576, locals := 123 } : Room) s m args below meth c H locs kc ns (MQ below (va_Qv (fun (u : Nat → Nat) => ∀ k, k ≠ 107 → k ≠ 108 → u k = ad0 k) (fun u => gO D A (GW L y u res)) A) args s 12 24576 A) (F0 m 52 ls []) := by
  intro n
  induction n with
  | zero => intro ad kc ns ha σ x1 hkc hns H locs ls hY hl h; exact nomatch (show none = some res from h)
  | succ n hrec52 =>
    intro ad kc ns ha σ x1 hkc hns H locs ls hY hl h
    replace h : fX11_passTick_52 N (lp (fX11_passTick_52 N) n) (σ, x1) = some res := h
    generalize lp (fX11_passTick_52 N) n = rec52 at h hrec52
    unfold fX11_passTick_52 at h
    try dsimp only at h
    refine lv_iload_n hx hb dX11_passTick_52 rfl (lv_at hl 1 rfl) ?_
    refine lv_bipush (v := 60) hx hb dX11_passTick_53 (by decide +kernel) ?_
    refine lv_icmp_gt (tgt := 74) hx hb dX11_passTick_55 (by decide) (fun z_1 => ?_) (fun z_1 => ?_)
    ·
      rw [if_pos z_1] at h
      have qz_1 := g_gtt z_1; (try simp only [g_l0, g_l3, g_l6] at qz_1)
      exact wX11_passTick_74 hx hb hr hml hown hg hlocks hK hA hL hL2 ha (by first | omega | (simp only [g_l0]; omega)) (by first | omega | (simp only [g_l0]; omega)) hY (lv_sub hl [0] rfl) h
    ·
      rw [if_neg z_1] at h
      have qz_1 := g_gtf z_1; (try simp only [g_l0, g_l3, g_l6] at qz_1)
      refine lv_aload_n hx hb dX11_passTick_58 rfl (lv_at hl 0 rfl) ?_
      obtain ⟨r_2, e_3, h⟩ := g_bind h
      refine G_ai hY hA (va_runV (As := []) (rest := []) ⟨hx, hb, hml, hown, hg⟩ (kX11_decideOnce l D y aS H.size L hL ad N σ _ e_3) (cwV 0 hg ggV_RX11_472_X11_decideOnce rfl rfl rfl (by decide +kernel) ⟨Nat.le_of_ble_eq_true rfl, Nat.le_of_ble_eq_true rfl⟩) (G_pV (q := (RX11, TX11, 19)) hK hY (hL 0 (by decide)) gk_0 (by decide) rfl) rfl rfl hl.1 rfl (lv_room (Nat.le_of_ble_eq_true rfl)) dX11_passTick_59 ⟨(by dsimp only; omega), (by dsimp only; omega)⟩) ?_
      clear hY
      rintro _ H locs rfl hY
      refine lv_if_ne (tgt := 68) hx hb dX11_passTick_62 (by decide) (fun z_4 => ?_) (fun z_4 => ?_)
      ·
        rw [if_neg z_4] at h
        refine lv_iinc (v := (x1 + 1)) (lv' := [(1, .int (x1 + 1)), (0, .ref (ad 0))]) hx hb dX11_passTick_68 hl (k := 1) rfl rfl (by decide) rfl ?_
        clear hl
        intro ls hl
        refine lv_goto (tgt := 52) hx hb dX11_passTick_71 (by decide) ?_
        exact hrec52 ha (by first | omega | (simp only [g_l0]; omega)) (by first | omega | (simp only [g_l0]; omega)) _ _ _ hY (lv_sub hl [1, 0] rfl) h
      ·
        rw [if_pos z_4] at h
        refine lv_goto (tgt := 74) hx hb dX11_passTick_65 (by decide) ?_
        exact wX11_passTick_74 hx hb hr hml hown hg hlocks hK hA hL hL2 ha (by first | omega | (simp only [g_l0]; omega)) (by first | omega | (simp only [g_l0]; omega)) hY (lv_sub hl [0] rfl) h
def fX11_passTick_36 (N : Nat) (rec12 : (gS × Int32) → Option gS) (σ : gS) (x1 : Int32) : Option gS := rec12 (σ, (x1 + 1))
set_option maxRecDepth 100000 in
set_option maxHeartbeats 4000000 in
theorem wX11_passTick_36 {rec12 : (gS × Int32) → Option gS} {σ : gS} {x1 : Int32} {ad : Nat → Nat} {kc ns : Nat} (hx : p.tables.exec = Jvm.exec) (hb : c.code = cX11_passTick) (hr : meth.sig.returnType = none) (hml : c.maxLocals = 3) (hown : s.vm.findClass RX11 = some m.cls) (hg : ∀ w ∈ wsL_law, w.before args s = true) (hlocks : meth.locks = false) (hK : gK D y aS s) (hA : ∀ q, s.heap.size ≤ q → A q) (hL : ∀ k, k < 179 → k ∈ L) (hL2 : ∀ k ∈ L, k < 182) (ha : ∀ k, k ≠ 107 → k ≠ 108 → ad k = ad0 k) (hrec12 : ∀ {ad : Nat → Nat} {kc ns : Nat} (ha : ∀ k, k ≠ 107 → k ≠ 108 → ad k = ad0 k) {σ9 : gS} {x1n9 : Int32} (hkc : kc ≤ 2 * x1n9.toInt.toNat) (hns : ns ≤ 4096 * x1n9.toInt.toNat) (hi0 : 0 ≤ x1n9.toInt) (hi6 : x1n9.toInt ≤ 6) (H : Heap) (locs : List Loc) (ls : Array Slot), gY D y A s L ad σ9 H locs → lv_has ls 3 [(0, .ref (ad 0)), (1, .int x1n9)] → rec12 (σ9, x1n9) = some res → W p l e ({ frames := 5, cells := 12, slots := 24576, locals := 123 } : Room) s m args below meth c H locs kc ns (MQ below (va_Qv (fun (u : Nat → Nat) => ∀ k, k ≠ 107 → k ≠ 108 → u k = ad0 k) (fun u => gO D A (GW L y u res)) A) args s 12 24576 A) (F0 m 12 ls [])) (hkc : kc ≤ 2 * (x1.toInt.toNat + 1)) (hns : ns ≤ 4096 * (x1.toInt.toNat + 1)) (hi0 : 0 ≤ x1.toInt) (hi6 : x1.toInt < 6) {H : Heap} {locs : List Loc} {ls : Array Slot} (hY : gY D y A s L ad σ H locs) (hl : lv_has ls 3 [(0, .ref (ad 0)), (1, .int x1)]) (h : fX11_passTick_36 N rec12 σ x1 = some res) : W p l e ({ frames := 5, cells := 12, slots := 24576, locals := 123 } : Room) s m args below meth c H locs kc ns (MQ below (va_Qv (fun (u : Nat → Nat) => ∀ k, k ≠ 107 → k ≠ 108 → u k = ad0 k) (fun u => gO D A (GW L y u res)) A) args s 12 24576 A) (F0 m 36 ls []) := by
  unfold fX11_passTick_36 at h
  refine lv_iinc (v := (x1 + 1)) (lv' := [(1, .int (x1 + 1)), (0, .ref (ad 0))]) hx hb dX11_passTick_36 hl (k := 1) rfl rfl (by decide) rfl ?_
  clear hl
  intro ls hl
  refine lv_goto (tgt := 12) hx hb dX11_passTick_39 (by decide) ?_
  have hinc : (x1 + 1).toInt = x1.toInt + 1 := g_inc (by omega)
  exact hrec12 ha (by first | omega | (simp only [g_l0]; omega)) (by first | omega | (simp only [g_l0]; omega)) (by first | omega | (simp only [g_l0]; omega)) (by first | omega | (simp only [g_l0]; omega)) _ _ _ hY (lv_sub hl [1, 0] rfl) h
def fX11_passTick_12 (N : Nat) (rec12 : (gS × Int32) → Option gS) (xx : gS × Int32) : Option gS := match xx with
  | (σ, x1) => if 6 ≤ x1 then (if (σ.1 0 18) = 0 then (lp (fX11_passTick_52 N) N (σ, 0)) else (some σ)) else ((fX11_machineAt N σ x1).bind fun r_3 => (fX6_isDoneByTick N σ r_3).bind fun r_6 => if r_6.1 = 0 then (fX11_passTick_36 N rec12 r_6.2 x1) else ((fX11_tellRun N r_6.2 r_3).bind fun r_9 => fX11_passTick_36 N rec12 r_9 x1))
set_option maxRecDepth 100000 in
set_option maxHeartbeats 4000000 in
theorem wX11_passTick_12 (hx : p.tables.exec = Jvm.exec) (hb : c.code = cX11_passTick) (hr : meth.sig.returnType = none) (hml : c.maxLocals = 3) (hown : s.vm.findClass RX11 = some m.cls) (hg : ∀ w ∈ wsL_law, w.before args s = true) (hlocks : meth.locks = false) (hK : gK D y aS s) (hA : ∀ q, s.heap.size ≤ q → A q) (hL : ∀ k, k < 179 → k ∈ L) (hL2 : ∀ k ∈ L, k < 182) : ∀ (n : Nat) {ad : Nat → Nat} {kc ns : Nat} (ha : ∀ k, k ≠ 107 → k ≠ 108 → ad k = ad0 k) {σ : gS} {x1 : Int32} (hkc : kc ≤ 2 * x1.toInt.toNat) (hns : ns ≤ 4096 * x1.toInt.toNat) (hi0 : 0 ≤ x1.toInt) (hi6 : x1.toInt ≤ 6) (H : Heap) (locs : List Loc) (ls : Array Slot), gY D y A s L ad σ H locs → lv_has ls 3 [(0, .ref (ad 0)), (1, .int x1)] → lp (fX11_passTick_12 N) n (σ, x1) = some res → W p l e ({ frames := 5, cells := 12, slots := 24576, locals := 123 } : Room) s m args below meth c H locs kc ns (MQ below (va_Qv (fun (u : Nat → Nat) => ∀ k, k ≠ 107 → k ≠ 108 → u k = ad0 k) (fun u => gO D A (GW L y u res)) A) args s 12 24576 A) (F0 m 12 ls []) := by
  intro n
  induction n with
  | zero => intro ad kc ns ha σ x1 hkc hns hi0 hi6 H locs ls hY hl h; exact nomatch (show none = some res from h)
  | succ n hrec12 =>
    intro ad kc ns ha σ x1 hkc hns hi0 hi6 H locs ls hY hl h
    replace h : fX11_passTick_12 N (lp (fX11_passTick_12 N) n) (σ, x1) = some res := h
    generalize lp (fX11_passTick_12 N) n = rec12 at h hrec12
    unfold fX11_passTick_12 at h
    try dsimp only at h
    refine lv_iload_n hx hb dX11_passTick_12 rfl (lv_at hl 1 rfl) ?_
    refine lv_bipush (v := 6) hx hb dX11_passTick_13 (by decide +kernel) ?_
    refine lv_icmp_ge (tgt := 42) hx hb dX11_passTick_15 (by decide) (fun z_1 => ?_) (fun z_1 => ?_)
    ·
      rw [if_pos z_1] at h
      have qz_1 := g_get z_1; (try simp only [g_l0, g_l3, g_l6] at qz_1)
      refine lv_aload_n hx hb dX11_passTick_42 rfl (lv_at hl 0 rfl) ?_
      refine G_get (ci := 11) (j := 18) (C := RX11) (T := TX11) (N := 19) (v := .int (σ.1 0 18)) hx hb hg inlX11 hown hK hY (hL 0 (by decide)) gk_0 (by decide) rfl (by decide) tX11_18 (hg _ gw_408) rfl dX11_passTick_43 ?_
      refine lv_if_eq (tgt := 50) hx hb dX11_passTick_46 (by decide) (fun z_2 => ?_) (fun z_2 => ?_)
      ·
        rw [if_pos z_2] at h
        refine lv_iconst (v := 0) hx hb dX11_passTick_50 (by decide) ?_
        refine lv_istore_n (lv' := [(1, .int 0), (0, .ref (ad 0))]) hx hb dX11_passTick_51 rfl hl (by decide) rfl ?_
        clear hl
        intro ls hl
        exact wX11_passTick_52 hx hb hr hml hown hg hlocks hK hA hL hL2 N ha (by first | omega | (simp only [g_l0]; omega)) (by first | omega | (simp only [g_l0]; omega)) _ _ _ hY (lv_sub hl [1, 0] rfl) h
      ·
        rw [if_neg z_2] at h
        cases h
        exact g_vret hx hb hr hlocks ad hY.1 hY.2.1 hY.2.2 ha (by omega) (by omega) dX11_passTick_49
    ·
      rw [if_neg z_1] at h
      have qz_1 := g_gef z_1; (try simp only [g_l0, g_l3, g_l6] at qz_1)
      refine lv_aload_n hx hb dX11_passTick_18 rfl (lv_at hl 0 rfl) ?_
      refine lv_iload_n hx hb dX11_passTick_19 rfl (lv_at hl 1 rfl) ?_
      obtain ⟨r_3, e_4, h⟩ := g_bind h
      refine G_ar hY hA (va_runV (As := [.int x1]) (rest := []) ⟨hx, hb, hml, hown, hg⟩ (kX11_machineAt l D y aS H.size L hL ad N σ x1 _ e_4) (cwV 1 hg ggV_RX11_273_X11_machineAt rfl rfl rfl (by decide +kernel) ⟨Nat.le_of_ble_eq_true rfl, Nat.le_of_ble_eq_true rfl⟩) (G_pV (q := (RX11, TX11, 19)) hK hY (hL 0 (by decide)) gk_0 (by decide) rfl) rfl rfl hl.1 rfl (lv_room (Nat.le_of_ble_eq_true rfl)) dX11_passTick_20 ⟨(by dsimp only; omega), (by dsimp only; omega)⟩) ?_
      clear hY
      rintro H locs k_5 hY
      refine lv_astore_n (lv' := [(2, .ref (ad r_3)), (0, .ref (ad 0)), (1, .int x1)]) hx hb dX11_passTick_23 rfl hl (by decide) rfl ?_
      clear hl
      intro ls hl
      refine lv_aload_n hx hb dX11_passTick_24 rfl (lv_at hl 0 rfl) ?_
      obtain ⟨r_6, e_7, h⟩ := g_bind h
      refine G_ai hY hA (va_runV (As := []) (rest := []) ⟨hx, hb, hml, hown, hg⟩ (kX6_isDoneByTick l D y aS H.size L hL ad N σ r_3 _ k_5 e_7) (cwV 0 hg ggV_RX11_465_X6_isDoneByTick rfl rfl rfl (by decide +kernel) ⟨Nat.le_of_ble_eq_true rfl, Nat.le_of_ble_eq_true rfl⟩) (G_pV (q := (RX6, TX6, 6)) hK hY (hL _ (gcl_lt k_5 (by decide))) k_5 (by decide) rfl) rfl rfl hl.1 rfl (lv_room (Nat.le_of_ble_eq_true rfl)) dX11_passTick_25 ⟨(by dsimp only; omega), (by dsimp only; omega)⟩) ?_
      clear hY
      rintro _ H locs rfl hY
      refine lv_if_eq (tgt := 36) hx hb dX11_passTick_28 (by decide) (fun z_8 => ?_) (fun z_8 => ?_)
      ·
        rw [if_pos z_8] at h
        exact wX11_passTick_36 hx hb hr hml hown hg hlocks hK hA hL hL2 ha hrec12 (by first | omega | (simp only [g_l0]; omega)) (by first | omega | (simp only [g_l0]; omega)) (by first | omega | (simp only [g_l0]; omega)) (by first | omega | (simp only [g_l0]; omega)) hY (lv_sub hl [1, 2] rfl) h
      ·
        rw [if_neg z_8] at h
        refine lv_aload_n hx hb dX11_passTick_31 rfl (lv_at hl 1 rfl) ?_
        refine lv_aload_n hx hb dX11_passTick_32 rfl (lv_at hl 0 rfl) ?_
        obtain ⟨r_9, e_10, h⟩ := g_bind h
        refine G_avA hY hA (va_runV (As := [.ref (ad r_3)]) (rest := []) ⟨hx, hb, hml, hown, hg⟩ (kX11_tellRun l D y aS H.size L hL hL2 ad ad (fun _ _ _ => rfl) N r_6.2 r_3 _ k_5 e_10) (cwV 1 hg ggV_RX11_468_X11_tellRun rfl rfl rfl (by decide +kernel) ⟨Nat.le_of_ble_eq_true rfl, Nat.le_of_ble_eq_true rfl⟩) (G_pV (q := (RX11, TX11, 19)) hK hY (hL 0 (by decide)) gk_0 (by decide) rfl) rfl rfl hl.1 rfl (lv_room (Nat.le_of_ble_eq_true rfl)) dX11_passTick_33 ⟨(by dsimp only; omega), (by dsimp only; omega)⟩) ?_
        clear hY
        rintro ad hu H locs hY
        replace hl : lv_has ls 3 [(2, .ref (ad r_3)), (0, .ref (ad 0)), (1, .int x1)] := by rw [hu r_3 (g_nk k_5 (by decide)).1 (g_nk k_5 (by decide)).2, hu 0 (by decide) (by decide)]; exact hl
        replace ha : ∀ k, k ≠ 107 → k ≠ 108 → ad k = ad0 k := fun k h1 h2 => (hu k h1 h2).trans (ha k h1 h2)
        clear hu
        exact wX11_passTick_36 hx hb hr hml hown hg hlocks hK hA hL hL2 ha hrec12 (by first | omega | (simp only [g_l0]; omega)) (by first | omega | (simp only [g_l0]; omega)) (by first | omega | (simp only [g_l0]; omega)) (by first | omega | (simp only [g_l0]; omega)) hY (lv_sub hl [1, 2] rfl) h
end
def fX11_passTick (N : Nat) (σ : gS) : Option gS := lp (fX11_passTick_12 N) N ((sI σ 0 14 ((σ.1 0 14) + 1)), 0)
set_option maxRecDepth 100000 in
set_option maxHeartbeats 4000000 in
theorem kX11_passTick (l : Launch) (D : va_G) (y : Nat → ClassId) (aS : Nat → Nat) (sz : Nat) (L : List Nat) (hL : ∀ k, k < 179 → k ∈ L) (hL2 : ∀ k ∈ L, k < 182) (ad : Nat → Nat) (ad0 : Nat → Nat) (ha : ∀ k, k ≠ 107 → k ≠ 108 → ad k = ad0 k) (N : Nat) (σ : gS) (res : gS) (h : fX11_passTick N σ = some res) : Met l yX11_passTick (Cond.code yX11_passTick cX11_passTick 3 none :: wsL_law) ({ frames := 5, cells := 12, slots := 24576, locals := 123 } : Room) (va_Pc [.ref (ad 0)] (gI D y aS (GW L y ad σ) sz)) (va_Qv (fun (u : Nat → Nat) => ∀ k, k ≠ 107 → k ≠ 108 → u k = ad0 k) (fun u => gO D (va_A (GW L y ad σ) sz) (GW L y u res)) (va_A (GW L y ad σ) sz)) 12 24576 (va_A (GW L y ad σ) sz) := by
  refine g_of (by decide) (Nat.le_of_ble_eq_true rfl) ?_
  intro p e s m below meth c ls A hx hb hr hml hown hg hlocks hin hsz hK hP hD hS hA hAe hl
  rw [← hAe]
  replace hown : s.vm.findClass RX11 = some m.cls := hown
  have hY : gY D y A s L ad σ s.heap [] := ⟨hP, hD, hS⟩
  clear hP hD hS
  replace hl : lv_has ls 3 [(0, .ref (ad 0))] := hl
  unfold fX11_passTick at h
  refine lv_aload_n hx hb dX11_passTick_0 rfl (lv_at hl 0 rfl) ?_
  refine lv_dup hx hb dX11_passTick_1 rfl ?_
  refine G_get (ci := 11) (j := 14) (C := RX11) (T := TX11) (N := 19) (v := .int (σ.1 0 14)) hx hb hg inlX11 hown hK hY (hL 0 (by decide)) gk_0 (by decide) rfl (by decide) tX11_14 (hg _ gw_168) rfl dX11_passTick_2 ?_
  refine lv_iconst (v := 1) hx hb dX11_passTick_5 (by decide) ?_
  refine lv_iadd hx hb dX11_passTick_6 ?_
  refine G_putI (ci := 11) (j := 14) (C := RX11) (T := TX11) (N := 19) (v := ((σ.1 0 14) + 1)) (ty := .int) hx hb hg inlX11 tyX11 tyX11_ok nmX11 hown hK hY (hL 0 (by decide)) gk_0 (by decide) rfl (by decide) tX11_14 (hg _ gw_168) (by decide +kernel) rfl rfl (fun _ _ => rfl) (fun _ _ => Nat.le_of_ble_eq_true rfl) dX11_passTick_7 ?_
  clear hY
  intro H locs hY
  refine lv_iconst (v := 0) hx hb dX11_passTick_10 (by decide) ?_
  refine lv_istore_n (lv' := [(1, .int 0), (0, .ref (ad 0))]) hx hb dX11_passTick_11 rfl hl (by decide) rfl ?_
  clear hl
  intro ls hl
  exact wX11_passTick_12 hx hb hr hml hown hg hlocks hK hA hL hL2 N ha (by first | omega | (simp only [g_l0]; omega)) (by first | omega | (simp only [g_l0]; omega)) (by first | omega | (simp only [g_l0]; omega)) (by first | omega | (simp only [g_l0]; omega)) _ _ _ hY (lv_sub hl [1, 0] rfl) h
theorem ggV_RX11_292_X11_passTick : GoodIn wsL_law (wsV RX11 292 RX11 yX11_passTick (Cond.code yX11_passTick cX11_passTick 3 none :: wsL_law)) := g_gi (fun _ h => h) gW_good (List.forall_mem_cons.mpr ⟨⟨gw_743, rfl⟩, List.forall_mem_cons.mpr ⟨⟨gw_744, rfl⟩, List.forall_mem_cons.mpr ⟨⟨gw_745, rfl⟩, List.forall_mem_cons.mpr ⟨⟨gw_2, rfl⟩, fun _ h => nomatch h⟩⟩⟩⟩) ⟨gw_746, rfl⟩
section
variable {p : Program} {l : Launch} {e : Env} {s : State} {m : MethodId} {args : Array Value} {below : List Frame} {meth : Method} {c : Code} {D : va_G} {y : Nat → ClassId} {aS : Nat → Nat} {A : Nat → Prop} {L : List Nat} {ad0 : Nat → Nat} {N : Nat} {res : (Int32 × gS)}
def fX11_tick_14 (N : Nat) (x1 : Int32) (x2 : Int32) (rec14 : (gS × Int32) → Option (Int32 × gS)) (xx : gS × Int32) : Option (Int32 × gS) := match xx with
  | (σ, x3) => if x1 ≤ x3 then (some (((σ.1 0 15) - x2), σ)) else ((fX11_passTick N σ).bind fun r_2 => rec14 (r_2, (x3 + 1)))
set_option maxRecDepth 100000 in
set_option maxHeartbeats 4000000 in
theorem wX11_tick_14 {x1 : Int32} {x2 : Int32} (hx : p.tables.exec = Jvm.exec) (hb : c.code = cX11_tick) (hr : meth.sig.returnType = (some .int)) (hml : c.maxLocals = 4) (hown : s.vm.findClass RX11 = some m.cls) (hg : ∀ w ∈ wsL_law, w.before args s = true) (hlocks : meth.locks = false) (hK : gK D y aS s) (hA : ∀ q, s.heap.size ≤ q → A q) (hL : ∀ k, k < 179 → k ∈ L) (hL2 : ∀ k ∈ L, k < 182) (h3 : x1.toInt ≤ 3) : ∀ (n : Nat) {ad : Nat → Nat} {kc ns : Nat} (ha : ∀ k, k ≠ 107 → k ≠ 108 → ad k = ad0 k) {σ : gS} {x3 : Int32} (hkc : kc ≤ 12 * x3.toInt.toNat) (hns : ns ≤ 24576 * x3.toInt.toNat) (hi0 : 0 ≤ x3.toInt) (hi6 : x3.toInt ≤ 3) (H : Heap) (locs : List Loc) (ls : Array Slot), gY D y A s L ad σ H locs → lv_has ls 4 [(0, .ref (ad 0)), (1, .int x1), (2, .int x2), (3, .int x3)] → lp (fX11_tick_14 N x1 x2) n (σ, x3) = some res → W p l e ({ frames := 6, cells := 36, slots := 73728, locals := 145 } : Room) s m args below meth c H locs kc ns (MQ below (va_Qi (fun (r : Int32) (u : Nat → Nat) => r = res.1 ∧ ∀ k, k ≠ 107 → k ≠ 108 → u k = ad0 k) (fun u => gO D A (GW L y u res.2)) A) args s 36 73728 A) (F0 m 14 ls []) := by
  intro n
  induction n with
  | zero => intro ad kc ns ha σ x3 hkc hns hi0 hi6 H locs ls hY hl h; exact nomatch (show none = some res from h)
  | succ n hrec14 =>
    intro ad kc ns ha σ x3 hkc hns hi0 hi6 H locs ls hY hl h
    replace h : fX11_tick_14 N x1 x2 (lp (fX11_tick_14 N x1 x2) n) (σ, x3) = some res := h
    generalize lp (fX11_tick_14 N x1 x2) n = rec14 at h hrec14
    unfold fX11_tick_14 at h
    try dsimp only at h
    refine lv_iload_n hx hb dX11_tick_14 rfl (lv_at hl 3 rfl) ?_
    refine lv_iload_n hx hb dX11_tick_15 rfl (lv_at hl 1 rfl) ?_
    refine lv_icmp_ge (tgt := 29) hx hb dX11_tick_16 (by decide) (fun z_1 => ?_) (fun z_1 => ?_)
    ·
      rw [if_pos z_1] at h
      have qz_1 := g_get z_1; (try simp only [g_l0, g_l3, g_l6] at qz_1)
      refine lv_aload_n hx hb dX11_tick_29 rfl (lv_at hl 0 rfl) ?_
      refine G_get (ci := 11) (j := 15) (C := RX11) (T := TX11) (N := 19) (v := .int (σ.1 0 15)) hx hb hg inlX11 hown hK hY (hL 0 (by decide)) gk_0 (by decide) rfl (by decide) tX11_15 (hg _ gw_742) rfl dX11_tick_30 ?_
      refine lv_iload_n hx hb dX11_tick_33 rfl (lv_at hl 2 rfl) ?_
      refine lv_isub hx hb dX11_tick_34 ?_
      cases h
      exact g_iret hx hb hr hlocks ad hY.1 hY.2.1 hY.2.2 rfl ⟨rfl, ha⟩ (by omega) (by omega) dX11_tick_35
    ·
      rw [if_neg z_1] at h
      have qz_1 := g_gef z_1; (try simp only [g_l0, g_l3, g_l6] at qz_1)
      refine lv_aload_n hx hb dX11_tick_19 rfl (lv_at hl 0 rfl) ?_
      obtain ⟨r_2, e_3, h⟩ := g_bind h
      refine G_avA hY hA (va_runV (As := []) (rest := []) ⟨hx, hb, hml, hown, hg⟩ (kX11_passTick l D y aS H.size L hL hL2 ad ad (fun _ _ _ => rfl) N σ _ e_3) (cwV 0 hg ggV_RX11_292_X11_passTick rfl rfl rfl (by decide +kernel) ⟨Nat.le_of_ble_eq_true rfl, Nat.le_of_ble_eq_true rfl⟩) (G_pV (q := (RX11, TX11, 19)) hK hY (hL 0 (by decide)) gk_0 (by decide) rfl) rfl rfl hl.1 rfl (lv_room (Nat.le_of_ble_eq_true rfl)) dX11_tick_20 ⟨(by dsimp only; omega), (by dsimp only; omega)⟩) ?_
      clear hY
      rintro ad hu H locs hY
      replace hl : lv_has ls 4 [(0, .ref (ad 0)), (1, .int x1), (2, .int x2), (3, .int x3)] := by rw [hu 0 (by decide) (by decide)]; exact hl
      replace ha : ∀ k, k ≠ 107 → k ≠ 108 → ad k = ad0 k := fun k h1 h2 => (hu k h1 h2).trans (ha k h1 h2)
      clear hu
      refine lv_iinc (v := (x3 + 1)) (lv' := [(3, .int (x3 + 1)), (0, .ref (ad 0)), (1, .int x1), (2, .int x2)]) hx hb dX11_tick_23 hl (k := 3) rfl rfl (by decide) rfl ?_
      clear hl
      intro ls hl
      refine lv_goto (tgt := 14) hx hb dX11_tick_26 (by decide) ?_
      have hinc : (x3 + 1).toInt = x3.toInt + 1 := g_inc (by omega)
      exact hrec14 ha (by first | omega | (simp only [g_l0]; omega)) (by first | omega | (simp only [g_l0]; omega)) (by first | omega | (simp only [g_l0]; omega)) (by first | omega | (simp only [g_l0]; omega)) _ _ _ hY (lv_sub hl [1, 2, 3, 0] rfl) h
end
def fX11_tick (N : Nat) (σ : gS) (x1 : Int32) : Option (Int32 × gS) := (fX11_needRange N σ x1 (1 : Int32) (30 : Int32)).bind fun r_1 => lp (fX11_tick_14 N x1 (σ.1 0 15)) N (σ, 0)
set_option maxRecDepth 100000 in
set_option maxHeartbeats 4000000 in
theorem kX11_tick (l : Launch) (D : va_G) (y : Nat → ClassId) (aS : Nat → Nat) (sz : Nat) (L : List Nat) (hL : ∀ k, k < 179 → k ∈ L) (hL2 : ∀ k ∈ L, k < 182) (ad : Nat → Nat) (ad0 : Nat → Nat) (ha : ∀ k, k ≠ 107 → k ≠ 108 → ad k = ad0 k) (N : Nat) (σ : gS) (x1 : Int32) (res : (Int32 × gS)) (h3 : x1.toInt ≤ 3) (h : fX11_tick N σ x1 = some res) : Met l yX11_tick (Cond.code yX11_tick cX11_tick 4 (some .int) :: wsL_law) ({ frames := 6, cells := 36, slots := 73728, locals := 145 } : Room) (va_Pc [.ref (ad 0), .int x1] (gI D y aS (GW L y ad σ) sz)) (va_Qi (fun (r : Int32) (u : Nat → Nat) => r = res.1 ∧ ∀ k, k ≠ 107 → k ≠ 108 → u k = ad0 k) (fun u => gO D (va_A (GW L y ad σ) sz) (GW L y u res.2)) (va_A (GW L y ad σ) sz)) 36 73728 (va_A (GW L y ad σ) sz) := by
  refine g_of (by decide) (Nat.le_of_ble_eq_true rfl) ?_
  intro p e s m below meth c ls A hx hb hr hml hown hg hlocks hin hsz hK hP hD hS hA hAe hl
  rw [← hAe]
  replace hown : s.vm.findClass RX11 = some m.cls := hown
  have hY : gY D y A s L ad σ s.heap [] := ⟨hP, hD, hS⟩
  clear hP hD hS
  replace hl : lv_has ls 4 [(0, .ref (ad 0)), (1, .int x1)] := hl
  unfold fX11_tick at h
  refine lv_iload_n hx hb dX11_tick_0 rfl (lv_at hl 1 rfl) ?_
  refine lv_iconst (v := 1) hx hb dX11_tick_1 (by decide) ?_
  refine lv_bipush (v := 30) hx hb dX11_tick_2 (by decide +kernel) ?_
  obtain ⟨r_1, e_2, h⟩ := g_bind h
  refine G_av hY hA (va_runS (As := [.int x1, .int 1, .int 30]) (rest := []) ⟨hx, hb, hml, hown, hg⟩ (kX11_needRange l D y aS s.heap.size L hL ad N σ x1 (1 : Int32) (30 : Int32) _ e_2) (va_cwS 3 hg ggS_RX11_133_X11_needRange rfl rfl rfl (by decide +kernel) ⟨Nat.le_of_ble_eq_true rfl, Nat.le_of_ble_eq_true rfl⟩) (G_pS hK hY) rfl rfl hl.1 rfl (lv_room (Nat.le_of_ble_eq_true rfl)) dX11_tick_4 ⟨(by dsimp only; omega), (by dsimp only; omega)⟩) ?_
  clear hY
  rintro H locs hY
  refine lv_aload_n hx hb dX11_tick_7 rfl (lv_at hl 0 rfl) ?_
  refine G_get (ci := 11) (j := 15) (C := RX11) (T := TX11) (N := 19) (v := .int (σ.1 0 15)) hx hb hg inlX11 hown hK hY (hL 0 (by decide)) gk_0 (by decide) rfl (by decide) tX11_15 (hg _ gw_742) rfl dX11_tick_8 ?_
  refine lv_istore_n (lv' := [(2, .int (σ.1 0 15)), (0, .ref (ad 0)), (1, .int x1)]) hx hb dX11_tick_11 rfl hl (by decide) rfl ?_
  clear hl
  intro ls hl
  refine lv_iconst (v := 0) hx hb dX11_tick_12 (by decide) ?_
  refine lv_istore_n (lv' := [(3, .int 0), (2, .int (σ.1 0 15)), (0, .ref (ad 0)), (1, .int x1)]) hx hb dX11_tick_13 rfl hl (by decide) rfl ?_
  clear hl
  intro ls hl
  exact wX11_tick_14 hx hb hr hml hown hg hlocks hK hA hL hL2 h3 N ha (by first | omega | (simp only [g_l0]; omega)) (by first | omega | (simp only [g_l0]; omega)) (by first | omega | (simp only [g_l0]; omega)) (by first | omega | (simp only [g_l0]; omega)) _ _ _ hY (lv_sub hl [2, 3, 1, 0] rfl) h
