def dt228_L_secret : List (Nat × Instr × Nat) := [(0, (.aload 4, 2)), (2, (.iconst 0, 1)), (3, (.aload_n 0, 1)), (4, (.iload_n 1, 1)), (5, (.iload_n 2, 1)), (6, (.iload_n 3, 1)), (7, (.invokevirtual 122, 3)), (15, (.astore 5, 2)), (17, (.iconst 1, 1)), (18, (.ireturn, 1)), (19, (.astore 5, 2)), (21, (.iconst 2, 1)), (22, (.ireturn, 1)), (10, (.i2l, 1)), (11, (.lastore, 1)), (12, (.goto 11, 3)), (23, (.iconst 0, 1)), (24, (.ireturn, 1))]
theorem dt228_L_secret_ok : ∀ q ∈ dt228_L_secret, decode cL_secret q.1 = .ok q.2 := by decide +kernel
theorem dL_secret_0 : decode cL_secret 0 = .ok (.aload 4, 2) := g_dec dt228_L_secret_ok (k := 0) rfl
theorem dL_secret_2 : decode cL_secret 2 = .ok (.iconst 0, 1) := g_dec dt228_L_secret_ok (k := 1) rfl
theorem dL_secret_3 : decode cL_secret 3 = .ok (.aload_n 0, 1) := g_dec dt228_L_secret_ok (k := 2) rfl
theorem dL_secret_4 : decode cL_secret 4 = .ok (.iload_n 1, 1) := g_dec dt228_L_secret_ok (k := 3) rfl
theorem dL_secret_5 : decode cL_secret 5 = .ok (.iload_n 2, 1) := g_dec dt228_L_secret_ok (k := 4) rfl
theorem dL_secret_6 : decode cL_secret 6 = .ok (.iload_n 3, 1) := g_dec dt228_L_secret_ok (k := 5) rfl
theorem dL_secret_7 : decode cL_secret 7 = .ok (.invokevirtual 122, 3) := g_dec dt228_L_secret_ok (k := 6) rfl
theorem dL_secret_15 : decode cL_secret 15 = .ok (.astore 5, 2) := g_dec dt228_L_secret_ok (k := 7) rfl
theorem dL_secret_17 : decode cL_secret 17 = .ok (.iconst 1, 1) := g_dec dt228_L_secret_ok (k := 8) rfl
theorem dL_secret_18 : decode cL_secret 18 = .ok (.ireturn, 1) := g_dec dt228_L_secret_ok (k := 9) rfl
theorem dL_secret_19 : decode cL_secret 19 = .ok (.astore 5, 2) := g_dec dt228_L_secret_ok (k := 10) rfl
theorem dL_secret_21 : decode cL_secret 21 = .ok (.iconst 2, 1) := g_dec dt228_L_secret_ok (k := 11) rfl
theorem dL_secret_22 : decode cL_secret 22 = .ok (.ireturn, 1) := g_dec dt228_L_secret_ok (k := 12) rfl
theorem dL_secret_10 : decode cL_secret 10 = .ok (.i2l, 1) := g_dec dt228_L_secret_ok (k := 13) rfl
theorem dL_secret_11 : decode cL_secret 11 = .ok (.lastore, 1) := g_dec dt228_L_secret_ok (k := 14) rfl
theorem dL_secret_12 : decode cL_secret 12 = .ok (.goto 11, 3) := g_dec dt228_L_secret_ok (k := 15) rfl
theorem dL_secret_23 : decode cL_secret 23 = .ok (.iconst 0, 1) := g_dec dt228_L_secret_ok (k := 16) rfl
theorem dL_secret_24 : decode cL_secret 24 = .ok (.ireturn, 1) := g_dec dt228_L_secret_ok (k := 17) rfl
def dt229_X12_power : List (Nat × Instr × Nat) := [(0, (.iconst 1, 1)), (1, (.istore_n 1, 1)), (2, (.iconst 0, 1)), (3, (.istore_n 2, 1)), (4, (.iload_n 2, 1)), (5, (.iload_n 0, 1)), (6, (.if_icmp .ge 14, 3)), (9, (.iload_n 1, 1)), (10, (.bipush 10, 2)), (12, (.imul, 1)), (13, (.istore_n 1, 1)), (14, (.iinc 2 1, 3)), (17, (.goto (-13), 3)), (20, (.iload_n 1, 1)), (21, (.ireturn, 1))]
theorem dt229_X12_power_ok : ∀ q ∈ dt229_X12_power, decode cX12_power q.1 = .ok q.2 := by decide +kernel
theorem dX12_power_0 : decode cX12_power 0 = .ok (.iconst 1, 1) := g_dec dt229_X12_power_ok (k := 0) rfl
theorem dX12_power_1 : decode cX12_power 1 = .ok (.istore_n 1, 1) := g_dec dt229_X12_power_ok (k := 1) rfl
theorem dX12_power_2 : decode cX12_power 2 = .ok (.iconst 0, 1) := g_dec dt229_X12_power_ok (k := 2) rfl
theorem dX12_power_3 : decode cX12_power 3 = .ok (.istore_n 2, 1) := g_dec dt229_X12_power_ok (k := 3) rfl
theorem dX12_power_4 : decode cX12_power 4 = .ok (.iload_n 2, 1) := g_dec dt229_X12_power_ok (k := 4) rfl
theorem dX12_power_5 : decode cX12_power 5 = .ok (.iload_n 0, 1) := g_dec dt229_X12_power_ok (k := 5) rfl
theorem dX12_power_6 : decode cX12_power 6 = .ok (.if_icmp .ge 14, 3) := g_dec dt229_X12_power_ok (k := 6) rfl
theorem dX12_power_9 : decode cX12_power 9 = .ok (.iload_n 1, 1) := g_dec dt229_X12_power_ok (k := 7) rfl
theorem dX12_power_10 : decode cX12_power 10 = .ok (.bipush 10, 2) := g_dec dt229_X12_power_ok (k := 8) rfl
theorem dX12_power_12 : decode cX12_power 12 = .ok (.imul, 1) := g_dec dt229_X12_power_ok (k := 9) rfl
theorem dX12_power_13 : decode cX12_power 13 = .ok (.istore_n 1, 1) := g_dec dt229_X12_power_ok (k := 10) rfl
theorem dX12_power_14 : decode cX12_power 14 = .ok (.iinc 2 1, 3) := g_dec dt229_X12_power_ok (k := 11) rfl
theorem dX12_power_17 : decode cX12_power 17 = .ok (.goto (-13), 3) := g_dec dt229_X12_power_ok (k := 12) rfl
theorem dX12_power_20 : decode cX12_power 20 = .ok (.iload_n 1, 1) := g_dec dt229_X12_power_ok (k := 13) rfl
theorem dX12_power_21 : decode cX12_power 21 = .ok (.ireturn, 1) := g_dec dt229_X12_power_ok (k := 14) rfl
def dt230_X12_digitOf : List (Nat × Instr × Nat) := [(0, (.iload_n 0, 1)), (1, (.iload_n 1, 1)), (2, (.iconst 1, 1)), (3, (.isub, 1)), (4, (.iload_n 2, 1)), (5, (.isub, 1)), (6, (.invokestatic 481, 3)), (9, (.idiv, 1)), (10, (.bipush 10, 2)), (12, (.irem, 1)), (13, (.ireturn, 1))]
theorem dt230_X12_digitOf_ok : ∀ q ∈ dt230_X12_digitOf, decode cX12_digitOf q.1 = .ok q.2 := by decide +kernel
theorem dX12_digitOf_0 : decode cX12_digitOf 0 = .ok (.iload_n 0, 1) := g_dec dt230_X12_digitOf_ok (k := 0) rfl
theorem dX12_digitOf_1 : decode cX12_digitOf 1 = .ok (.iload_n 1, 1) := g_dec dt230_X12_digitOf_ok (k := 1) rfl
theorem dX12_digitOf_2 : decode cX12_digitOf 2 = .ok (.iconst 1, 1) := g_dec dt230_X12_digitOf_ok (k := 2) rfl
theorem dX12_digitOf_3 : decode cX12_digitOf 3 = .ok (.isub, 1) := g_dec dt230_X12_digitOf_ok (k := 3) rfl
theorem dX12_digitOf_4 : decode cX12_digitOf 4 = .ok (.iload_n 2, 1) := g_dec dt230_X12_digitOf_ok (k := 4) rfl
theorem dX12_digitOf_5 : decode cX12_digitOf 5 = .ok (.isub, 1) := g_dec dt230_X12_digitOf_ok (k := 5) rfl
theorem dX12_digitOf_6 : decode cX12_digitOf 6 = .ok (.invokestatic 481, 3) := g_dec dt230_X12_digitOf_ok (k := 6) rfl
theorem dX12_digitOf_9 : decode cX12_digitOf 9 = .ok (.idiv, 1) := g_dec dt230_X12_digitOf_ok (k := 7) rfl
theorem dX12_digitOf_10 : decode cX12_digitOf 10 = .ok (.bipush 10, 2) := g_dec dt230_X12_digitOf_ok (k := 8) rfl
theorem dX12_digitOf_12 : decode cX12_digitOf 12 = .ok (.irem, 1) := g_dec dt230_X12_digitOf_ok (k := 9) rfl
theorem dX12_digitOf_13 : decode cX12_digitOf 13 = .ok (.ireturn, 1) := g_dec dt230_X12_digitOf_ok (k := 10) rfl
def dt231_X12_secret : List (Nat × Instr × Nat) := [(0, (.aload_n 0, 1)), (1, (.iload_n 1, 1)), (2, (.iconst 0, 1)), (3, (.iconst 2, 1)), (4, (.invokestatic 217, 3)), (7, (.ifCond .ne 7, 3)), (10, (.iconst 1, 1)), (11, (.goto 30, 3)), (41, (.putfield 211, 3)), (44, (.aload_n 0, 1)), (45, (.getfield 211, 3)), (48, (.ifCond .le 5, 3)), (51, (.iconst 0, 1)), (52, (.ireturn, 1)), (14, (.iload_n 3, 1)), (15, (.iconst 2, 1)), (16, (.bipush 6, 2)), (18, (.invokestatic 217, 3)), (21, (.ifCond .eq 15, 3)), (36, (.iconst 2, 1)), (37, (.goto 4, 3)), (24, (.iload_n 2, 1)), (25, (.ifCond .lt 11, 3)), (28, (.iload_n 2, 1)), (29, (.iload_n 3, 1)), (30, (.invokestatic 481, 3)), (33, (.if_icmp .lt 7, 3)), (40, (.iconst 0, 1)), (53, (.aload_n 0, 1)), (54, (.getfield 135, 3)), (57, (.iload_n 1, 1)), (58, (.iload_n 3, 1)), (59, (.iastore, 1)), (60, (.iconst 0, 1)), (61, (.istore 4, 2)), (63, (.iload 4, 2)), (65, (.iload_n 3, 1)), (66, (.if_icmp .ge 28, 3)), (69, (.aload_n 0, 1)), (70, (.getfield 138, 3)), (73, (.bipush 6, 2)), (75, (.iload_n 1, 1)), (76, (.imul, 1)), (77, (.iload 4, 2)), (79, (.iadd, 1)), (80, (.iload_n 2, 1)), (81, (.iload_n 3, 1)), (82, (.iload 4, 2)), (84, (.invokestatic 484, 3)), (87, (.iastore, 1)), (88, (.iinc 4 1, 3)), (91, (.goto (-28), 3)), (94, (.iconst 0, 1)), (95, (.istore 4, 2)), (97, (.iconst 0, 1)), (98, (.istore 5, 2)), (100, (.iload 5, 2)), (102, (.iconst 3, 1)), (103, (.if_icmp .ge 29, 3)), (106, (.iload 4, 2))]
theorem dt231_X12_secret_ok : ∀ q ∈ dt231_X12_secret, decode cX12_secret q.1 = .ok q.2 := by decide +kernel
theorem dX12_secret_0 : decode cX12_secret 0 = .ok (.aload_n 0, 1) := g_dec dt231_X12_secret_ok (k := 0) rfl
theorem dX12_secret_1 : decode cX12_secret 1 = .ok (.iload_n 1, 1) := g_dec dt231_X12_secret_ok (k := 1) rfl
theorem dX12_secret_2 : decode cX12_secret 2 = .ok (.iconst 0, 1) := g_dec dt231_X12_secret_ok (k := 2) rfl
theorem dX12_secret_3 : decode cX12_secret 3 = .ok (.iconst 2, 1) := g_dec dt231_X12_secret_ok (k := 3) rfl
theorem dX12_secret_4 : decode cX12_secret 4 = .ok (.invokestatic 217, 3) := g_dec dt231_X12_secret_ok (k := 4) rfl
theorem dX12_secret_7 : decode cX12_secret 7 = .ok (.ifCond .ne 7, 3) := g_dec dt231_X12_secret_ok (k := 5) rfl
theorem dX12_secret_10 : decode cX12_secret 10 = .ok (.iconst 1, 1) := g_dec dt231_X12_secret_ok (k := 6) rfl
theorem dX12_secret_11 : decode cX12_secret 11 = .ok (.goto 30, 3) := g_dec dt231_X12_secret_ok (k := 7) rfl
theorem dX12_secret_41 : decode cX12_secret 41 = .ok (.putfield 211, 3) := g_dec dt231_X12_secret_ok (k := 8) rfl
theorem dX12_secret_44 : decode cX12_secret 44 = .ok (.aload_n 0, 1) := g_dec dt231_X12_secret_ok (k := 9) rfl
theorem dX12_secret_45 : decode cX12_secret 45 = .ok (.getfield 211, 3) := g_dec dt231_X12_secret_ok (k := 10) rfl
theorem dX12_secret_48 : decode cX12_secret 48 = .ok (.ifCond .le 5, 3) := g_dec dt231_X12_secret_ok (k := 11) rfl
theorem dX12_secret_51 : decode cX12_secret 51 = .ok (.iconst 0, 1) := g_dec dt231_X12_secret_ok (k := 12) rfl
theorem dX12_secret_52 : decode cX12_secret 52 = .ok (.ireturn, 1) := g_dec dt231_X12_secret_ok (k := 13) rfl
theorem dX12_secret_14 : decode cX12_secret 14 = .ok (.iload_n 3, 1) := g_dec dt231_X12_secret_ok (k := 14) rfl
theorem dX12_secret_15 : decode cX12_secret 15 = .ok (.iconst 2, 1) := g_dec dt231_X12_secret_ok (k := 15) rfl
theorem dX12_secret_16 : decode cX12_secret 16 = .ok (.bipush 6, 2) := g_dec dt231_X12_secret_ok (k := 16) rfl
theorem dX12_secret_18 : decode cX12_secret 18 = .ok (.invokestatic 217, 3) := g_dec dt231_X12_secret_ok (k := 17) rfl
theorem dX12_secret_21 : decode cX12_secret 21 = .ok (.ifCond .eq 15, 3) := g_dec dt231_X12_secret_ok (k := 18) rfl
theorem dX12_secret_36 : decode cX12_secret 36 = .ok (.iconst 2, 1) := g_dec dt231_X12_secret_ok (k := 19) rfl
theorem dX12_secret_37 : decode cX12_secret 37 = .ok (.goto 4, 3) := g_dec dt231_X12_secret_ok (k := 20) rfl
theorem dX12_secret_24 : decode cX12_secret 24 = .ok (.iload_n 2, 1) := g_dec dt231_X12_secret_ok (k := 21) rfl
theorem dX12_secret_25 : decode cX12_secret 25 = .ok (.ifCond .lt 11, 3) := g_dec dt231_X12_secret_ok (k := 22) rfl
theorem dX12_secret_28 : decode cX12_secret 28 = .ok (.iload_n 2, 1) := g_dec dt231_X12_secret_ok (k := 23) rfl
theorem dX12_secret_29 : decode cX12_secret 29 = .ok (.iload_n 3, 1) := g_dec dt231_X12_secret_ok (k := 24) rfl
theorem dX12_secret_30 : decode cX12_secret 30 = .ok (.invokestatic 481, 3) := g_dec dt231_X12_secret_ok (k := 25) rfl
theorem dX12_secret_33 : decode cX12_secret 33 = .ok (.if_icmp .lt 7, 3) := g_dec dt231_X12_secret_ok (k := 26) rfl
theorem dX12_secret_40 : decode cX12_secret 40 = .ok (.iconst 0, 1) := g_dec dt231_X12_secret_ok (k := 27) rfl
theorem dX12_secret_53 : decode cX12_secret 53 = .ok (.aload_n 0, 1) := g_dec dt231_X12_secret_ok (k := 28) rfl
theorem dX12_secret_54 : decode cX12_secret 54 = .ok (.getfield 135, 3) := g_dec dt231_X12_secret_ok (k := 29) rfl
theorem dX12_secret_57 : decode cX12_secret 57 = .ok (.iload_n 1, 1) := g_dec dt231_X12_secret_ok (k := 30) rfl
theorem dX12_secret_58 : decode cX12_secret 58 = .ok (.iload_n 3, 1) := g_dec dt231_X12_secret_ok (k := 31) rfl
theorem dX12_secret_59 : decode cX12_secret 59 = .ok (.iastore, 1) := g_dec dt231_X12_secret_ok (k := 32) rfl
theorem dX12_secret_60 : decode cX12_secret 60 = .ok (.iconst 0, 1) := g_dec dt231_X12_secret_ok (k := 33) rfl
theorem dX12_secret_61 : decode cX12_secret 61 = .ok (.istore 4, 2) := g_dec dt231_X12_secret_ok (k := 34) rfl
theorem dX12_secret_63 : decode cX12_secret 63 = .ok (.iload 4, 2) := g_dec dt231_X12_secret_ok (k := 35) rfl
theorem dX12_secret_65 : decode cX12_secret 65 = .ok (.iload_n 3, 1) := g_dec dt231_X12_secret_ok (k := 36) rfl
theorem dX12_secret_66 : decode cX12_secret 66 = .ok (.if_icmp .ge 28, 3) := g_dec dt231_X12_secret_ok (k := 37) rfl
theorem dX12_secret_69 : decode cX12_secret 69 = .ok (.aload_n 0, 1) := g_dec dt231_X12_secret_ok (k := 38) rfl
theorem dX12_secret_70 : decode cX12_secret 70 = .ok (.getfield 138, 3) := g_dec dt231_X12_secret_ok (k := 39) rfl
theorem dX12_secret_73 : decode cX12_secret 73 = .ok (.bipush 6, 2) := g_dec dt231_X12_secret_ok (k := 40) rfl
theorem dX12_secret_75 : decode cX12_secret 75 = .ok (.iload_n 1, 1) := g_dec dt231_X12_secret_ok (k := 41) rfl
theorem dX12_secret_76 : decode cX12_secret 76 = .ok (.imul, 1) := g_dec dt231_X12_secret_ok (k := 42) rfl
theorem dX12_secret_77 : decode cX12_secret 77 = .ok (.iload 4, 2) := g_dec dt231_X12_secret_ok (k := 43) rfl
theorem dX12_secret_79 : decode cX12_secret 79 = .ok (.iadd, 1) := g_dec dt231_X12_secret_ok (k := 44) rfl
theorem dX12_secret_80 : decode cX12_secret 80 = .ok (.iload_n 2, 1) := g_dec dt231_X12_secret_ok (k := 45) rfl
theorem dX12_secret_81 : decode cX12_secret 81 = .ok (.iload_n 3, 1) := g_dec dt231_X12_secret_ok (k := 46) rfl
theorem dX12_secret_82 : decode cX12_secret 82 = .ok (.iload 4, 2) := g_dec dt231_X12_secret_ok (k := 47) rfl
theorem dX12_secret_84 : decode cX12_secret 84 = .ok (.invokestatic 484, 3) := g_dec dt231_X12_secret_ok (k := 48) rfl
theorem dX12_secret_87 : decode cX12_secret 87 = .ok (.iastore, 1) := g_dec dt231_X12_secret_ok (k := 49) rfl
theorem dX12_secret_88 : decode cX12_secret 88 = .ok (.iinc 4 1, 3) := g_dec dt231_X12_secret_ok (k := 50) rfl
theorem dX12_secret_91 : decode cX12_secret 91 = .ok (.goto (-28), 3) := g_dec dt231_X12_secret_ok (k := 51) rfl
theorem dX12_secret_94 : decode cX12_secret 94 = .ok (.iconst 0, 1) := g_dec dt231_X12_secret_ok (k := 52) rfl
theorem dX12_secret_95 : decode cX12_secret 95 = .ok (.istore 4, 2) := g_dec dt231_X12_secret_ok (k := 53) rfl
theorem dX12_secret_97 : decode cX12_secret 97 = .ok (.iconst 0, 1) := g_dec dt231_X12_secret_ok (k := 54) rfl
theorem dX12_secret_98 : decode cX12_secret 98 = .ok (.istore 5, 2) := g_dec dt231_X12_secret_ok (k := 55) rfl
theorem dX12_secret_100 : decode cX12_secret 100 = .ok (.iload 5, 2) := g_dec dt231_X12_secret_ok (k := 56) rfl
theorem dX12_secret_102 : decode cX12_secret 102 = .ok (.iconst 3, 1) := g_dec dt231_X12_secret_ok (k := 57) rfl
theorem dX12_secret_103 : decode cX12_secret 103 = .ok (.if_icmp .ge 29, 3) := g_dec dt231_X12_secret_ok (k := 58) rfl
theorem dX12_secret_106 : decode cX12_secret 106 = .ok (.iload 4, 2) := g_dec dt231_X12_secret_ok (k := 59) rfl
def dt232_X12_secret : List (Nat × Instr × Nat) := [(108, (.aload_n 0, 1)), (109, (.getfield 135, 3)), (112, (.iload 5, 2)), (114, (.iaload, 1)), (115, (.ifCond .le 7, 3)), (118, (.iconst 1, 1)), (119, (.goto 4, 3)), (123, (.iadd, 1)), (124, (.istore 4, 2)), (126, (.iinc 5 1, 3)), (129, (.goto (-29), 3)), (122, (.iconst 0, 1)), (132, (.iload 4, 2)), (134, (.ireturn, 1))]
theorem dt232_X12_secret_ok : ∀ q ∈ dt232_X12_secret, decode cX12_secret q.1 = .ok q.2 := by decide +kernel
theorem dX12_secret_108 : decode cX12_secret 108 = .ok (.aload_n 0, 1) := g_dec dt232_X12_secret_ok (k := 0) rfl
theorem dX12_secret_109 : decode cX12_secret 109 = .ok (.getfield 135, 3) := g_dec dt232_X12_secret_ok (k := 1) rfl
theorem dX12_secret_112 : decode cX12_secret 112 = .ok (.iload 5, 2) := g_dec dt232_X12_secret_ok (k := 2) rfl
theorem dX12_secret_114 : decode cX12_secret 114 = .ok (.iaload, 1) := g_dec dt232_X12_secret_ok (k := 3) rfl
theorem dX12_secret_115 : decode cX12_secret 115 = .ok (.ifCond .le 7, 3) := g_dec dt232_X12_secret_ok (k := 4) rfl
theorem dX12_secret_118 : decode cX12_secret 118 = .ok (.iconst 1, 1) := g_dec dt232_X12_secret_ok (k := 5) rfl
theorem dX12_secret_119 : decode cX12_secret 119 = .ok (.goto 4, 3) := g_dec dt232_X12_secret_ok (k := 6) rfl
theorem dX12_secret_123 : decode cX12_secret 123 = .ok (.iadd, 1) := g_dec dt232_X12_secret_ok (k := 7) rfl
theorem dX12_secret_124 : decode cX12_secret 124 = .ok (.istore 4, 2) := g_dec dt232_X12_secret_ok (k := 8) rfl
theorem dX12_secret_126 : decode cX12_secret 126 = .ok (.iinc 5 1, 3) := g_dec dt232_X12_secret_ok (k := 9) rfl
theorem dX12_secret_129 : decode cX12_secret 129 = .ok (.goto (-29), 3) := g_dec dt232_X12_secret_ok (k := 10) rfl
theorem dX12_secret_122 : decode cX12_secret 122 = .ok (.iconst 0, 1) := g_dec dt232_X12_secret_ok (k := 11) rfl
theorem dX12_secret_132 : decode cX12_secret 132 = .ok (.iload 4, 2) := g_dec dt232_X12_secret_ok (k := 12) rfl
theorem dX12_secret_134 : decode cX12_secret 134 = .ok (.ireturn, 1) := g_dec dt232_X12_secret_ok (k := 13) rfl
theorem ggV_RL_122_X11_secret : GoodIn wsL_law (wsV RL 122 RX11 yX11_secret (Cond.code yX11_secret cX11_secret 4 (some .int) :: wsL_law)) := g_gi (fun _ h => h) gW_good (List.forall_mem_cons.mpr ⟨⟨gw_1425, rfl⟩, List.forall_mem_cons.mpr ⟨⟨gw_1426, rfl⟩, List.forall_mem_cons.mpr ⟨⟨gw_1427, rfl⟩, List.forall_mem_cons.mpr ⟨⟨gw_2, rfl⟩, fun _ h => nomatch h⟩⟩⟩⟩) ⟨gw_1428, rfl⟩
set_option maxRecDepth 100000 in
set_option maxHeartbeats 4000000 in
theorem k_L_secret_0 (l : Launch) (hfl : l.stackTraces = false) (D : va_G) (y : Nat → ClassId) (aS : Nat → Nat) (sz : Nat) (h0 : Nat) (p1 : Int32) (p2 : Int32) (p3 : Int32) (h4 : Nat) (h5 : Nat) (h6 : Nat) (h7 : Nat) (h8 : Nat) (h9 : Nat) (h10 : Nat) (h11 : Nat) (h12 : Nat) (h13 : Nat) (h14 : Nat) (h15 : Nat) (h16 : Nat) (h17 : Nat) (h18 : Nat) (wp19576 : Int32) (wp19577 : Int32) (wp19578 : Int32) (wp19579 : Int32) (wp19580 : Int32) (h24 : Nat) (h25 : Nat) (h26 : Nat) (h27 : Nat) (wp19581 : Int32) (h29 : Nat) (wp19582 : Int32) (wf19583 : Nat → Int64) (h32 : Nat) (wp19584 : Int32) (h34 : Nat) (wf19585 : Nat → Int64) : Met l yL_secret (Cond.codeWith yL_secret cL_secret 6 (some .int) [(0, 12, 15, 13), (0, 12, 19, 21)] :: wsL_law) ({ frames := 8, cells := 3, slots := 18, locals := 127 } : Room) (va_Pc [.ref h0, .int p1, .int p2, .int p3, .ref h4] (gIX D y aS [(h0, .inr (11, [.ref h5, .ref h6, .ref h7, .ref h8, .ref h9, .ref h10, .ref h11, .ref h12, .ref h13, .ref h14, .ref h15, .ref h16, .ref h17, .ref h18, .int wp19576, .int wp19577, .int wp19578, .int wp19579, .int wp19580])), (h11, .inr (5, [.ref h24, .ref h25, .ref h26, .ref h27, .int wp19581])), (h26, .inr (8, [.ref h29, .int wp19582])), (h29, .inl (y 1, 18, .inr (.inl wf19583))), (h27, .inr (8, [.ref h32, .int wp19584])), (h32, .inl (y 1, 3, .inr (.inl (fun _ => 0)))), (h24, .inr (8, [.ref h34, .int 0])), (h4, .inl (y 1, 1, .inr (.inl wf19585)))] sz)) (va_Qi (fun (r : Int32) (u : Int32 × (Nat → Int64) × (Nat → Int64) × (Nat → Int64)) => (1 = r ∧ wp19581 = u.1 ∧ wf19583 = u.2.1 ∧ (fun _ => 0) = u.2.2.1 ∧ wf19585 = u.2.2.2 ∧ p1.toInt ≤ (-1)) ∨ (1 = r ∧ wp19581 = u.1 ∧ wf19583 = u.2.1 ∧ (fun _ => 0) = u.2.2.1 ∧ wf19585 = u.2.2.2 ∧ 3 ≤ p1.toInt) ∨ (2 = r ∧ wp19581 = u.1 ∧ wf19583 = u.2.1 ∧ (fun _ => 0) = u.2.2.1 ∧ wf19585 = u.2.2.2 ∧ 0 ≤ p1.toInt ∧ p1.toInt ≤ 2 ∧ p3.toInt ≤ 1) ∨ (2 = r ∧ wp19581 = u.1 ∧ wf19583 = u.2.1 ∧ (fun _ => 0) = u.2.2.1 ∧ wf19585 = u.2.2.2 ∧ 0 ≤ p1.toInt ∧ p1.toInt ≤ 2 ∧ 7 ≤ p3.toInt) ∨ (2 = r ∧ wp19581 = u.1 ∧ wf19583 = u.2.1 ∧ (fun _ => 0) = u.2.2.1 ∧ wf19585 = u.2.2.2 ∧ 0 ≤ p1.toInt ∧ p1.toInt ≤ 2 ∧ 2 ≤ p3.toInt ∧ p3.toInt ≤ 2 ∧ p2.toInt ≤ (-1)) ∨ (2 = r ∧ wp19581 = u.1 ∧ wf19583 = u.2.1 ∧ (fun _ => 0) = u.2.2.1 ∧ wf19585 = u.2.2.2 ∧ 0 ≤ p1.toInt ∧ p1.toInt ≤ 2 ∧ 2 ≤ p3.toInt ∧ p3.toInt ≤ 2 ∧ 100 ≤ p2.toInt) ∨ (2 = r ∧ wp19581 = u.1 ∧ wf19583 = u.2.1 ∧ (fun _ => 0) = u.2.2.1 ∧ wf19585 = u.2.2.2 ∧ 0 ≤ p1.toInt ∧ p1.toInt ≤ 2 ∧ 3 ≤ p3.toInt ∧ p3.toInt ≤ 3 ∧ p2.toInt ≤ (-1)) ∨ (2 = r ∧ wp19581 = u.1 ∧ wf19583 = u.2.1 ∧ (fun _ => 0) = u.2.2.1 ∧ wf19585 = u.2.2.2 ∧ 0 ≤ p1.toInt ∧ p1.toInt ≤ 2 ∧ 3 ≤ p3.toInt ∧ p3.toInt ≤ 3 ∧ 1000 ≤ p2.toInt) ∨ (2 = r ∧ wp19581 = u.1 ∧ wf19583 = u.2.1 ∧ (fun _ => 0) = u.2.2.1 ∧ wf19585 = u.2.2.2 ∧ 0 ≤ p1.toInt ∧ p1.toInt ≤ 2 ∧ 4 ≤ p3.toInt ∧ p3.toInt ≤ 4 ∧ p2.toInt ≤ (-1)) ∨ (2 = r ∧ wp19581 = u.1 ∧ wf19583 = u.2.1 ∧ (fun _ => 0) = u.2.2.1 ∧ wf19585 = u.2.2.2 ∧ 0 ≤ p1.toInt ∧ p1.toInt ≤ 2 ∧ 4 ≤ p3.toInt ∧ p3.toInt ≤ 4 ∧ 10000 ≤ p2.toInt) ∨ (2 = r ∧ wp19581 = u.1 ∧ wf19583 = u.2.1 ∧ (fun _ => 0) = u.2.2.1 ∧ wf19585 = u.2.2.2 ∧ 0 ≤ p1.toInt ∧ p1.toInt ≤ 2 ∧ 5 ≤ p3.toInt ∧ p3.toInt ≤ 5 ∧ p2.toInt ≤ (-1)) ∨ (2 = r ∧ wp19581 = u.1 ∧ wf19583 = u.2.1 ∧ (fun _ => 0) = u.2.2.1 ∧ wf19585 = u.2.2.2 ∧ 0 ≤ p1.toInt ∧ p1.toInt ≤ 2 ∧ 5 ≤ p3.toInt ∧ p3.toInt ≤ 5 ∧ 100000 ≤ p2.toInt) ∨ (2 = r ∧ wp19581 = u.1 ∧ wf19583 = u.2.1 ∧ (fun _ => 0) = u.2.2.1 ∧ wf19585 = u.2.2.2 ∧ 0 ≤ p1.toInt ∧ p1.toInt ≤ 2 ∧ 6 ≤ p3.toInt ∧ p3.toInt ≤ 6 ∧ p2.toInt ≤ (-1)) ∨ (2 = r ∧ wp19581 = u.1 ∧ wf19583 = u.2.1 ∧ (fun _ => 0) = u.2.2.1 ∧ wf19585 = u.2.2.2 ∧ 0 ≤ p1.toInt ∧ p1.toInt ≤ 2 ∧ 6 ≤ p3.toInt ∧ p3.toInt ≤ 6 ∧ 1000000 ≤ p2.toInt) ∨ (0 = r ∧ 0 = u.1 ∧ (vp_updL (vp_updL wf19583 ((1 : Int32).toNatClampNeg) ((p2 - p2 / 10 * 10).toInt64)) ((0 : Int32).toNatClampNeg) (((p2 / 10) - (p2 / 10) / 10 * 10).toInt64)) = u.2.1 ∧ (vp_updL (fun _ => 0) ((0 : Int32).toNatClampNeg) 2) = u.2.2.1 ∧ (vp_updL wf19585 ((0 : Int32).toNatClampNeg) 1) = u.2.2.2 ∧ 0 ≤ p1.toInt ∧ p1.toInt ≤ 0 ∧ 2 ≤ p3.toInt ∧ p3.toInt ≤ 2 ∧ 0 ≤ p2.toInt ∧ p2.toInt ≤ 99) ∨ (0 = r ∧ 0 = u.1 ∧ (vp_updL (vp_updL wf19583 ((7 : Int32).toNatClampNeg) ((p2 - p2 / 10 * 10).toInt64)) ((6 : Int32).toNatClampNeg) (((p2 / 10) - (p2 / 10) / 10 * 10).toInt64)) = u.2.1 ∧ (vp_updL (fun _ => 0) ((1 : Int32).toNatClampNeg) 2) = u.2.2.1 ∧ (vp_updL wf19585 ((0 : Int32).toNatClampNeg) 1) = u.2.2.2 ∧ 1 ≤ p1.toInt ∧ p1.toInt ≤ 1 ∧ 2 ≤ p3.toInt ∧ p3.toInt ≤ 2 ∧ 0 ≤ p2.toInt ∧ p2.toInt ≤ 99) ∨ (0 = r ∧ 0 = u.1 ∧ (vp_updL (vp_updL wf19583 ((13 : Int32).toNatClampNeg) ((p2 - p2 / 10 * 10).toInt64)) ((12 : Int32).toNatClampNeg) (((p2 / 10) - (p2 / 10) / 10 * 10).toInt64)) = u.2.1 ∧ (vp_updL (fun _ => 0) ((2 : Int32).toNatClampNeg) 2) = u.2.2.1 ∧ (vp_updL wf19585 ((0 : Int32).toNatClampNeg) 1) = u.2.2.2 ∧ 2 ≤ p1.toInt ∧ p1.toInt ≤ 2 ∧ 2 ≤ p3.toInt ∧ p3.toInt ≤ 2 ∧ 0 ≤ p2.toInt ∧ p2.toInt ≤ 99) ∨ (0 = r ∧ 0 = u.1 ∧ (vp_updL (vp_updL (vp_updL wf19583 ((2 : Int32).toNatClampNeg) ((p2 - p2 / 10 * 10).toInt64)) ((1 : Int32).toNatClampNeg) (((p2 / 10) - (p2 / 10) / 10 * 10).toInt64)) ((0 : Int32).toNatClampNeg) ((((p2 / 10) / 10) - ((p2 / 10) / 10) / 10 * 10).toInt64)) = u.2.1 ∧ (vp_updL (fun _ => 0) ((0 : Int32).toNatClampNeg) 3) = u.2.2.1 ∧ (vp_updL wf19585 ((0 : Int32).toNatClampNeg) 1) = u.2.2.2 ∧ 0 ≤ p1.toInt ∧ p1.toInt ≤ 0 ∧ 3 ≤ p3.toInt ∧ p3.toInt ≤ 3 ∧ 0 ≤ p2.toInt ∧ p2.toInt ≤ 999) ∨ (0 = r ∧ 0 = u.1 ∧ (vp_updL (vp_updL (vp_updL wf19583 ((8 : Int32).toNatClampNeg) ((p2 - p2 / 10 * 10).toInt64)) ((7 : Int32).toNatClampNeg) (((p2 / 10) - (p2 / 10) / 10 * 10).toInt64)) ((6 : Int32).toNatClampNeg) ((((p2 / 10) / 10) - ((p2 / 10) / 10) / 10 * 10).toInt64)) = u.2.1 ∧ (vp_updL (fun _ => 0) ((1 : Int32).toNatClampNeg) 3) = u.2.2.1 ∧ (vp_updL wf19585 ((0 : Int32).toNatClampNeg) 1) = u.2.2.2 ∧ 1 ≤ p1.toInt ∧ p1.toInt ≤ 1 ∧ 3 ≤ p3.toInt ∧ p3.toInt ≤ 3 ∧ 0 ≤ p2.toInt ∧ p2.toInt ≤ 999) ∨ (0 = r ∧ 0 = u.1 ∧ (vp_updL (vp_updL (vp_updL wf19583 ((14 : Int32).toNatClampNeg) ((p2 - p2 / 10 * 10).toInt64)) ((13 : Int32).toNatClampNeg) (((p2 / 10) - (p2 / 10) / 10 * 10).toInt64)) ((12 : Int32).toNatClampNeg) ((((p2 / 10) / 10) - ((p2 / 10) / 10) / 10 * 10).toInt64)) = u.2.1 ∧ (vp_updL (fun _ => 0) ((2 : Int32).toNatClampNeg) 3) = u.2.2.1 ∧ (vp_updL wf19585 ((0 : Int32).toNatClampNeg) 1) = u.2.2.2 ∧ 2 ≤ p1.toInt ∧ p1.toInt ≤ 2 ∧ 3 ≤ p3.toInt ∧ p3.toInt ≤ 3 ∧ 0 ≤ p2.toInt ∧ p2.toInt ≤ 999) ∨ (0 = r ∧ 0 = u.1 ∧ (vp_updL (vp_updL (vp_updL (vp_updL wf19583 ((3 : Int32).toNatClampNeg) ((p2 - p2 / 10 * 10).toInt64)) ((2 : Int32).toNatClampNeg) (((p2 / 10) - (p2 / 10) / 10 * 10).toInt64)) ((1 : Int32).toNatClampNeg) ((((p2 / 10) / 10) - ((p2 / 10) / 10) / 10 * 10).toInt64)) ((0 : Int32).toNatClampNeg) (((((p2 / 10) / 10) / 10) - (((p2 / 10) / 10) / 10) / 10 * 10).toInt64)) = u.2.1 ∧ (vp_updL (fun _ => 0) ((0 : Int32).toNatClampNeg) 4) = u.2.2.1 ∧ (vp_updL wf19585 ((0 : Int32).toNatClampNeg) 1) = u.2.2.2 ∧ 0 ≤ p1.toInt ∧ p1.toInt ≤ 0 ∧ 4 ≤ p3.toInt ∧ p3.toInt ≤ 4 ∧ 0 ≤ p2.toInt ∧ p2.toInt ≤ 9999) ∨ (0 = r ∧ 0 = u.1 ∧ (vp_updL (vp_updL (vp_updL (vp_updL wf19583 ((9 : Int32).toNatClampNeg) ((p2 - p2 / 10 * 10).toInt64)) ((8 : Int32).toNatClampNeg) (((p2 / 10) - (p2 / 10) / 10 * 10).toInt64)) ((7 : Int32).toNatClampNeg) ((((p2 / 10) / 10) - ((p2 / 10) / 10) / 10 * 10).toInt64)) ((6 : Int32).toNatClampNeg) (((((p2 / 10) / 10) / 10) - (((p2 / 10) / 10) / 10) / 10 * 10).toInt64)) = u.2.1 ∧ (vp_updL (fun _ => 0) ((1 : Int32).toNatClampNeg) 4) = u.2.2.1 ∧ (vp_updL wf19585 ((0 : Int32).toNatClampNeg) 1) = u.2.2.2 ∧ 1 ≤ p1.toInt ∧ p1.toInt ≤ 1 ∧ 4 ≤ p3.toInt ∧ p3.toInt ≤ 4 ∧ 0 ≤ p2.toInt ∧ p2.toInt ≤ 9999) ∨ (0 = r ∧ 0 = u.1 ∧ (vp_updL (vp_updL (vp_updL (vp_updL wf19583 ((15 : Int32).toNatClampNeg) ((p2 - p2 / 10 * 10).toInt64)) ((14 : Int32).toNatClampNeg) (((p2 / 10) - (p2 / 10) / 10 * 10).toInt64)) ((13 : Int32).toNatClampNeg) ((((p2 / 10) / 10) - ((p2 / 10) / 10) / 10 * 10).toInt64)) ((12 : Int32).toNatClampNeg) (((((p2 / 10) / 10) / 10) - (((p2 / 10) / 10) / 10) / 10 * 10).toInt64)) = u.2.1 ∧ (vp_updL (fun _ => 0) ((2 : Int32).toNatClampNeg) 4) = u.2.2.1 ∧ (vp_updL wf19585 ((0 : Int32).toNatClampNeg) 1) = u.2.2.2 ∧ 2 ≤ p1.toInt ∧ p1.toInt ≤ 2 ∧ 4 ≤ p3.toInt ∧ p3.toInt ≤ 4 ∧ 0 ≤ p2.toInt ∧ p2.toInt ≤ 9999) ∨ (0 = r ∧ 0 = u.1 ∧ (vp_updL (vp_updL (vp_updL (vp_updL (vp_updL wf19583 ((4 : Int32).toNatClampNeg) ((p2 - p2 / 10 * 10).toInt64)) ((3 : Int32).toNatClampNeg) (((p2 / 10) - (p2 / 10) / 10 * 10).toInt64)) ((2 : Int32).toNatClampNeg) ((((p2 / 10) / 10) - ((p2 / 10) / 10) / 10 * 10).toInt64)) ((1 : Int32).toNatClampNeg) (((((p2 / 10) / 10) / 10) - (((p2 / 10) / 10) / 10) / 10 * 10).toInt64)) ((0 : Int32).toNatClampNeg) ((((((p2 / 10) / 10) / 10) / 10) - ((((p2 / 10) / 10) / 10) / 10) / 10 * 10).toInt64)) = u.2.1 ∧ (vp_updL (fun _ => 0) ((0 : Int32).toNatClampNeg) 5) = u.2.2.1 ∧ (vp_updL wf19585 ((0 : Int32).toNatClampNeg) 1) = u.2.2.2 ∧ 0 ≤ p1.toInt ∧ p1.toInt ≤ 0 ∧ 5 ≤ p3.toInt ∧ p3.toInt ≤ 5 ∧ 0 ≤ p2.toInt ∧ p2.toInt ≤ 99999) ∨ (0 = r ∧ 0 = u.1 ∧ (vp_updL (vp_updL (vp_updL (vp_updL (vp_updL wf19583 ((10 : Int32).toNatClampNeg) ((p2 - p2 / 10 * 10).toInt64)) ((9 : Int32).toNatClampNeg) (((p2 / 10) - (p2 / 10) / 10 * 10).toInt64)) ((8 : Int32).toNatClampNeg) ((((p2 / 10) / 10) - ((p2 / 10) / 10) / 10 * 10).toInt64)) ((7 : Int32).toNatClampNeg) (((((p2 / 10) / 10) / 10) - (((p2 / 10) / 10) / 10) / 10 * 10).toInt64)) ((6 : Int32).toNatClampNeg) ((((((p2 / 10) / 10) / 10) / 10) - ((((p2 / 10) / 10) / 10) / 10) / 10 * 10).toInt64)) = u.2.1 ∧ (vp_updL (fun _ => 0) ((1 : Int32).toNatClampNeg) 5) = u.2.2.1 ∧ (vp_updL wf19585 ((0 : Int32).toNatClampNeg) 1) = u.2.2.2 ∧ 1 ≤ p1.toInt ∧ p1.toInt ≤ 1 ∧ 5 ≤ p3.toInt ∧ p3.toInt ≤ 5 ∧ 0 ≤ p2.toInt ∧ p2.toInt ≤ 99999) ∨ (0 = r ∧ 0 = u.1 ∧ (vp_updL (vp_updL (vp_updL (vp_updL (vp_updL wf19583 ((16 : Int32).toNatClampNeg) ((p2 - p2 / 10 * 10).toInt64)) ((15 : Int32).toNatClampNeg) (((p2 / 10) - (p2 / 10) / 10 * 10).toInt64)) ((14 : Int32).toNatClampNeg) ((((p2 / 10) / 10) - ((p2 / 10) / 10) / 10 * 10).toInt64)) ((13 : Int32).toNatClampNeg) (((((p2 / 10) / 10) / 10) - (((p2 / 10) / 10) / 10) / 10 * 10).toInt64)) ((12 : Int32).toNatClampNeg) ((((((p2 / 10) / 10) / 10) / 10) - ((((p2 / 10) / 10) / 10) / 10) / 10 * 10).toInt64)) = u.2.1 ∧ (vp_updL (fun _ => 0) ((2 : Int32).toNatClampNeg) 5) = u.2.2.1 ∧ (vp_updL wf19585 ((0 : Int32).toNatClampNeg) 1) = u.2.2.2 ∧ 2 ≤ p1.toInt ∧ p1.toInt ≤ 2 ∧ 5 ≤ p3.toInt ∧ p3.toInt ≤ 5 ∧ 0 ≤ p2.toInt ∧ p2.toInt ≤ 99999) ∨ (0 = r ∧ 0 = u.1 ∧ (vp_updL (vp_updL (vp_updL (vp_updL (vp_updL (vp_updL wf19583 ((5 : Int32).toNatClampNeg) ((p2 - p2 / 10 * 10).toInt64)) ((4 : Int32).toNatClampNeg) (((p2 / 10) - (p2 / 10) / 10 * 10).toInt64)) ((3 : Int32).toNatClampNeg) ((((p2 / 10) / 10) - ((p2 / 10) / 10) / 10 * 10).toInt64)) ((2 : Int32).toNatClampNeg) (((((p2 / 10) / 10) / 10) - (((p2 / 10) / 10) / 10) / 10 * 10).toInt64)) ((1 : Int32).toNatClampNeg) ((((((p2 / 10) / 10) / 10) / 10) - ((((p2 / 10) / 10) / 10) / 10) / 10 * 10).toInt64)) ((0 : Int32).toNatClampNeg) (((((((p2 / 10) / 10) / 10) / 10) / 10) - (((((p2 / 10) / 10) / 10) / 10) / 10) / 10 * 10).toInt64)) = u.2.1 ∧ (vp_updL (fun _ => 0) ((0 : Int32).toNatClampNeg) 6) = u.2.2.1 ∧ (vp_updL wf19585 ((0 : Int32).toNatClampNeg) 1) = u.2.2.2 ∧ 0 ≤ p1.toInt ∧ p1.toInt ≤ 0 ∧ 6 ≤ p3.toInt ∧ p3.toInt ≤ 6 ∧ 0 ≤ p2.toInt ∧ p2.toInt ≤ 999999) ∨ (0 = r ∧ 0 = u.1 ∧ (vp_updL (vp_updL (vp_updL (vp_updL (vp_updL (vp_updL wf19583 ((11 : Int32).toNatClampNeg) ((p2 - p2 / 10 * 10).toInt64)) ((10 : Int32).toNatClampNeg) (((p2 / 10) - (p2 / 10) / 10 * 10).toInt64)) ((9 : Int32).toNatClampNeg) ((((p2 / 10) / 10) - ((p2 / 10) / 10) / 10 * 10).toInt64)) ((8 : Int32).toNatClampNeg) (((((p2 / 10) / 10) / 10) - (((p2 / 10) / 10) / 10) / 10 * 10).toInt64)) ((7 : Int32).toNatClampNeg) ((((((p2 / 10) / 10) / 10) / 10) - ((((p2 / 10) / 10) / 10) / 10) / 10 * 10).toInt64)) ((6 : Int32).toNatClampNeg) (((((((p2 / 10) / 10) / 10) / 10) / 10) - (((((p2 / 10) / 10) / 10) / 10) / 10) / 10 * 10).toInt64)) = u.2.1 ∧ (vp_updL (fun _ => 0) ((1 : Int32).toNatClampNeg) 6) = u.2.2.1 ∧ (vp_updL wf19585 ((0 : Int32).toNatClampNeg) 1) = u.2.2.2 ∧ 1 ≤ p1.toInt ∧ p1.toInt ≤ 1 ∧ 6 ≤ p3.toInt ∧ p3.toInt ≤ 6 ∧ 0 ≤ p2.toInt ∧ p2.toInt ≤ 999999) ∨ (0 = r ∧ 0 = u.1 ∧ (vp_updL (vp_updL (vp_updL (vp_updL (vp_updL (vp_updL wf19583 ((17 : Int32).toNatClampNeg) ((p2 - p2 / 10 * 10).toInt64)) ((16 : Int32).toNatClampNeg) (((p2 / 10) - (p2 / 10) / 10 * 10).toInt64)) ((15 : Int32).toNatClampNeg) ((((p2 / 10) / 10) - ((p2 / 10) / 10) / 10 * 10).toInt64)) ((14 : Int32).toNatClampNeg) (((((p2 / 10) / 10) / 10) - (((p2 / 10) / 10) / 10) / 10 * 10).toInt64)) ((13 : Int32).toNatClampNeg) ((((((p2 / 10) / 10) / 10) / 10) - ((((p2 / 10) / 10) / 10) / 10) / 10 * 10).toInt64)) ((12 : Int32).toNatClampNeg) (((((((p2 / 10) / 10) / 10) / 10) / 10) - (((((p2 / 10) / 10) / 10) / 10) / 10) / 10 * 10).toInt64)) = u.2.1 ∧ (vp_updL (fun _ => 0) ((2 : Int32).toNatClampNeg) 6) = u.2.2.1 ∧ (vp_updL wf19585 ((0 : Int32).toNatClampNeg) 1) = u.2.2.2 ∧ 2 ≤ p1.toInt ∧ p1.toInt ≤ 2 ∧ 6 ≤ p3.toInt ∧ p3.toInt ≤ 6 ∧ 0 ≤ p2.toInt ∧ p2.toInt ≤ 999999)) (fun u => gO D (va_A [(h0, .inr (11, [.ref h5, .ref h6, .ref h7, .ref h8, .ref h9, .ref h10, .ref h11, .ref h12, .ref h13, .ref h14, .ref h15, .ref h16, .ref h17, .ref h18, .int wp19576, .int wp19577, .int wp19578, .int wp19579, .int wp19580])), (h11, .inr (5, [.ref h24, .ref h25, .ref h26, .ref h27, .int wp19581])), (h26, .inr (8, [.ref h29, .int wp19582])), (h29, .inl (y 1, 18, .inr (.inl wf19583))), (h27, .inr (8, [.ref h32, .int wp19584])), (h32, .inl (y 1, 3, .inr (.inl (fun _ => 0)))), (h24, .inr (8, [.ref h34, .int 0])), (h4, .inl (y 1, 1, .inr (.inl wf19585)))] sz) [(h0, .inr (11, [.ref h5, .ref h6, .ref h7, .ref h8, .ref h9, .ref h10, .ref h11, .ref h12, .ref h13, .ref h14, .ref h15, .ref h16, .ref h17, .ref h18, .int wp19576, .int wp19577, .int wp19578, .int wp19579, .int wp19580])), (h11, .inr (5, [.ref h24, .ref h25, .ref h26, .ref h27, .int u.1])), (h26, .inr (8, [.ref h29, .int wp19582])), (h29, .inl (y 1, 18, .inr (.inl u.2.1))), (h27, .inr (8, [.ref h32, .int wp19584])), (h32, .inl (y 1, 3, .inr (.inl u.2.2.1))), (h24, .inr (8, [.ref h34, .int 0])), (h4, .inl (y 1, 1, .inr (.inl u.2.2.2)))]) (va_A [(h0, .inr (11, [.ref h5, .ref h6, .ref h7, .ref h8, .ref h9, .ref h10, .ref h11, .ref h12, .ref h13, .ref h14, .ref h15, .ref h16, .ref h17, .ref h18, .int wp19576, .int wp19577, .int wp19578, .int wp19579, .int wp19580])), (h11, .inr (5, [.ref h24, .ref h25, .ref h26, .ref h27, .int wp19581])), (h26, .inr (8, [.ref h29, .int wp19582])), (h29, .inl (y 1, 18, .inr (.inl wf19583))), (h27, .inr (8, [.ref h32, .int wp19584])), (h32, .inl (y 1, 3, .inr (.inl (fun _ => 0)))), (h24, .inr (8, [.ref h34, .int 0])), (h4, .inl (y 1, 1, .inr (.inl wf19585)))] sz)) 3 18 (va_A [(h0, .inr (11, [.ref h5, .ref h6, .ref h7, .ref h8, .ref h9, .ref h10, .ref h11, .ref h12, .ref h13, .ref h14, .ref h15, .ref h16, .ref h17, .ref h18, .int wp19576, .int wp19577, .int wp19578, .int wp19579, .int wp19580])), (h11, .inr (5, [.ref h24, .ref h25, .ref h26, .ref h27, .int wp19581])), (h26, .inr (8, [.ref h29, .int wp19582])), (h29, .inl (y 1, 18, .inr (.inl wf19583))), (h27, .inr (8, [.ref h32, .int wp19584])), (h32, .inl (y 1, 3, .inr (.inl (fun _ => 0)))), (h24, .inr (8, [.ref h34, .int 0])), (h4, .inl (y 1, 1, .inr (.inl wf19585)))] sz) := by
  refine g_ofH (by decide) (Nat.le_of_ble_eq_true rfl) ?_
  intro p e s m below meth c ls A hx hb hr hml hown hg hlocks hin hsz hK hP hD hS hA hAe hl htab hZ
  rw [← hAe]
  replace hown : s.vm.findClass RL = some m.cls := hown
  replace hl : lv_has ls 6 [(0, .ref h0), (1, .int p1), (2, .int p2), (3, .int p3), (4, .ref h4)] := hl
  refine lv_aload hx hb dL_secret_0 (lv_at hl 4 rfl) ?_
  refine lv_iconst (v := 0) hx hb dL_secret_2 (by decide) ?_
  refine lv_aload_n hx hb dL_secret_3 rfl (lv_at hl 0 rfl) ?_
  refine lv_iload_n hx hb dL_secret_4 rfl (lv_at hl 1 rfl) ?_
  refine lv_iload_n hx hb dL_secret_5 rfl (lv_at hl 2 rfl) ?_
  refine lv_iload_n hx hb dL_secret_6 rfl (lv_at hl 3 rfl) ?_
  refine gx_ai (wr := [(h4, .inl (y 1, 1, .inr (.inl wf19585)))]) (vx_runV (As := [.int p1, .int p2, .int p3]) (rest := [.int 0, .ref h4]) ⟨hx, hb, hml, hown, hg⟩ (k_X11_secret_0 l hfl D y aS s.heap.size h0 p1 p2 p3 h5 h6 h7 h8 h9 h10 h11 h12 h13 h14 h15 h16 h17 h18 wp19576 wp19577 wp19578 wp19579 wp19580 h24 h25 h26 h27 wp19581 h29 wp19582 wf19583 h32 wp19584 h34) (cwV 3 hg ggV_RL_122_X11_secret rfl rfl rfl (by decide +kernel) ⟨Nat.le_of_ble_eq_true rfl, Nat.le_of_ble_eq_true rfl⟩) (gx_preV hZ hS hA (q := (RX11, TX11, 19)) hK hP hD [0, 1, 2, 3, 4, 5, 6] rfl (by decide) (ci := 11) (q0 := 0) rfl rfl) rfl rfl hl.1 rfl (lv_room (Nat.le_of_ble_eq_true rfl)) dL_secret_7 ⟨Nat.le_of_ble_eq_true rfl, Nat.le_of_ble_eq_true rfl⟩) hP hD hS hA [0, 1, 2, 3, 4, 5, 6] [7] rfl rfl (by decide) (by decide) ?_ ?_
  ·
    clear hP hD hS
    refine fun E ce q9 H locs hq hP hD hS hce hcv hcl => ?_
    replace hP : va_P D vwCl [(h4, .inl (y 1, 1, .inr (.inl wf19585))), (h0, .inr (11, [.ref h5, .ref h6, .ref h7, .ref h8, .ref h9, .ref h10, .ref h11, .ref h12, .ref h13, .ref h14, .ref h15, .ref h16, .ref h17, .ref h18, .int wp19576, .int wp19577, .int wp19578, .int wp19579, .int wp19580])), (h11, .inr (5, [.ref h24, .ref h25, .ref h26, .ref h27, .int wp19581])), (h26, .inr (8, [.ref h29, .int wp19582])), (h29, .inl (y 1, 18, .inr (.inl wf19583))), (h27, .inr (8, [.ref h32, .int wp19584])), (h32, .inl (y 1, 3, .inr (.inl (fun _ => 0)))), (h24, .inr (8, [.ref h34, .int 0]))] H := hP
    replace hD : va_D A [(h4, .inl (y 1, 1, .inr (.inl wf19585))), (h0, .inr (11, [.ref h5, .ref h6, .ref h7, .ref h8, .ref h9, .ref h10, .ref h11, .ref h12, .ref h13, .ref h14, .ref h15, .ref h16, .ref h17, .ref h18, .int wp19576, .int wp19577, .int wp19578, .int wp19579, .int wp19580])), (h11, .inr (5, [.ref h24, .ref h25, .ref h26, .ref h27, .int wp19581])), (h26, .inr (8, [.ref h29, .int wp19582])), (h29, .inl (y 1, 18, .inr (.inl wf19583))), (h27, .inr (8, [.ref h32, .int wp19584])), (h32, .inl (y 1, 3, .inr (.inl (fun _ => 0)))), (h24, .inr (8, [.ref h34, .int 0]))] := hD
    rcases hq with ⟨rfl, z19589⟩ | ⟨rfl, z19590⟩ | ⟨rfl, z19591, z19592, z19593⟩ | ⟨rfl, z19594, z19595, z19596⟩ | ⟨rfl, z19597, z19598, z19599, z19600, z19601⟩ | ⟨rfl, z19602, z19603, z19604, z19605, z19606⟩ | ⟨rfl, z19607, z19608, z19609, z19610, z19611⟩ | ⟨rfl, z19612, z19613, z19614, z19615, z19616⟩ | ⟨rfl, z19617, z19618, z19619, z19620, z19621⟩ | ⟨rfl, z19622, z19623, z19624, z19625, z19626⟩ | ⟨rfl, z19627, z19628, z19629, z19630, z19631⟩ | ⟨rfl, z19632, z19633, z19634, z19635, z19636⟩ | ⟨rfl, z19637, z19638, z19639, z19640, z19641⟩ | ⟨rfl, z19642, z19643, z19644, z19645, z19646⟩
    ·
      refine vx_catch (own := RL) (name := "java/lang/IndexOutOfBoundsException") hown [] ⟨0, 12, 15, 13⟩ [⟨0, 12, 19, 21⟩] (htab.trans rfl) (fun _ h => nomatch h) (by decide) (by decide) (hg _ gw_236) (va_Nw.use rfl (hK.2.1 _ (List.mem_of_getElem? (i := 6) rfl))) hce hcv hcl ?_
      refine lv_astore (lv' := [(5, .ref q9), (0, .ref h0), (1, .int p1), (2, .int p2), (3, .int p3), (4, .ref h4)]) hx hb dL_secret_15 hl (by decide) rfl ?_
      clear hl
      clear ls
      intro ls hl
      refine lv_iconst (v := 1) hx hb dL_secret_17 (by decide) ?_
      exact g_iret hx hb hr hlocks ⟨wp19581, wf19583, (fun _ => 0), wf19585⟩ (hP.sub [1, 2, 3, 4, 5, 6, 7, 0] rfl) (hD.sub [1, 2, 3, 4, 5, 6, 7, 0] (by decide +kernel) rfl) hS rfl (Or.inl ⟨rfl, rfl, rfl, rfl, rfl, (by first | omega | (simp_all; done))⟩) (Nat.le_of_ble_eq_true rfl) (Nat.le_of_ble_eq_true rfl) dL_secret_18
    ·
      refine vx_catch (own := RL) (name := "java/lang/IndexOutOfBoundsException") hown [] ⟨0, 12, 15, 13⟩ [⟨0, 12, 19, 21⟩] (htab.trans rfl) (fun _ h => nomatch h) (by decide) (by decide) (hg _ gw_236) (va_Nw.use rfl (hK.2.1 _ (List.mem_of_getElem? (i := 6) rfl))) hce hcv hcl ?_
      refine lv_astore (lv' := [(5, .ref q9), (0, .ref h0), (1, .int p1), (2, .int p2), (3, .int p3), (4, .ref h4)]) hx hb dL_secret_15 hl (by decide) rfl ?_
      clear hl
      clear ls
      intro ls hl
      refine lv_iconst (v := 1) hx hb dL_secret_17 (by decide) ?_
      exact g_iret hx hb hr hlocks ⟨wp19581, wf19583, (fun _ => 0), wf19585⟩ (hP.sub [1, 2, 3, 4, 5, 6, 7, 0] rfl) (hD.sub [1, 2, 3, 4, 5, 6, 7, 0] (by decide +kernel) rfl) hS rfl (Or.inr (Or.inl ⟨rfl, rfl, rfl, rfl, rfl, (by first | omega | (simp_all; done))⟩)) (Nat.le_of_ble_eq_true rfl) (Nat.le_of_ble_eq_true rfl) dL_secret_18
    ·
      refine vx_catch (own := RL) (name := "java/lang/IllegalArgumentException") hown [⟨0, 12, 15, 13⟩] ⟨0, 12, 19, 21⟩ [] (htab.trans rfl) (List.forall_mem_cons.mpr ⟨Or.inr ⟨by decide, "java/lang/IndexOutOfBoundsException", hg _ gw_236, hK.2.2.2.2 _ (List.mem_of_getElem? (i := 1) rfl)⟩, fun _ h => nomatch h⟩) (by decide) (by decide) (hg _ gw_297) (va_Nw.use rfl (hK.2.1 _ (List.mem_of_getElem? (i := 14) rfl))) hce hcv hcl ?_
      refine lv_astore (lv' := [(5, .ref q9), (0, .ref h0), (1, .int p1), (2, .int p2), (3, .int p3), (4, .ref h4)]) hx hb dL_secret_19 hl (by decide) rfl ?_
      clear hl
      clear ls
      intro ls hl
      refine lv_iconst (v := 2) hx hb dL_secret_21 (by decide) ?_
      exact g_iret hx hb hr hlocks ⟨wp19581, wf19583, (fun _ => 0), wf19585⟩ (hP.sub [1, 2, 3, 4, 5, 6, 7, 0] rfl) (hD.sub [1, 2, 3, 4, 5, 6, 7, 0] (by decide +kernel) rfl) hS rfl (Or.inr (Or.inr (Or.inl ⟨rfl, rfl, rfl, rfl, rfl, (by first | omega | (simp_all; done)), (by first | omega | (simp_all; done)), (by first | omega | (simp_all; done))⟩))) (Nat.le_of_ble_eq_true rfl) (Nat.le_of_ble_eq_true rfl) dL_secret_22
    ·
      refine vx_catch (own := RL) (name := "java/lang/IllegalArgumentException") hown [⟨0, 12, 15, 13⟩] ⟨0, 12, 19, 21⟩ [] (htab.trans rfl) (List.forall_mem_cons.mpr ⟨Or.inr ⟨by decide, "java/lang/IndexOutOfBoundsException", hg _ gw_236, hK.2.2.2.2 _ (List.mem_of_getElem? (i := 1) rfl)⟩, fun _ h => nomatch h⟩) (by decide) (by decide) (hg _ gw_297) (va_Nw.use rfl (hK.2.1 _ (List.mem_of_getElem? (i := 14) rfl))) hce hcv hcl ?_
      refine lv_astore (lv' := [(5, .ref q9), (0, .ref h0), (1, .int p1), (2, .int p2), (3, .int p3), (4, .ref h4)]) hx hb dL_secret_19 hl (by decide) rfl ?_
      clear hl
      clear ls
      intro ls hl
      refine lv_iconst (v := 2) hx hb dL_secret_21 (by decide) ?_
      exact g_iret hx hb hr hlocks ⟨wp19581, wf19583, (fun _ => 0), wf19585⟩ (hP.sub [1, 2, 3, 4, 5, 6, 7, 0] rfl) (hD.sub [1, 2, 3, 4, 5, 6, 7, 0] (by decide +kernel) rfl) hS rfl (Or.inr (Or.inr (Or.inr (Or.inl ⟨rfl, rfl, rfl, rfl, rfl, (by first | omega | (simp_all; done)), (by first | omega | (simp_all; done)), (by first | omega | (simp_all; done))⟩)))) (Nat.le_of_ble_eq_true rfl) (Nat.le_of_ble_eq_true rfl) dL_secret_22
    ·
      refine vx_catch (own := RL) (name := "java/lang/IllegalArgumentException") hown [⟨0, 12, 15, 13⟩] ⟨0, 12, 19, 21⟩ [] (htab.trans rfl) (List.forall_mem_cons.mpr ⟨Or.inr ⟨by decide, "java/lang/IndexOutOfBoundsException", hg _ gw_236, hK.2.2.2.2 _ (List.mem_of_getElem? (i := 1) rfl)⟩, fun _ h => nomatch h⟩) (by decide) (by decide) (hg _ gw_297) (va_Nw.use rfl (hK.2.1 _ (List.mem_of_getElem? (i := 14) rfl))) hce hcv hcl ?_
      refine lv_astore (lv' := [(5, .ref q9), (0, .ref h0), (1, .int p1), (2, .int p2), (3, .int p3), (4, .ref h4)]) hx hb dL_secret_19 hl (by decide) rfl ?_
      clear hl
      clear ls
      intro ls hl
      refine lv_iconst (v := 2) hx hb dL_secret_21 (by decide) ?_
      exact g_iret hx hb hr hlocks ⟨wp19581, wf19583, (fun _ => 0), wf19585⟩ (hP.sub [1, 2, 3, 4, 5, 6, 7, 0] rfl) (hD.sub [1, 2, 3, 4, 5, 6, 7, 0] (by decide +kernel) rfl) hS rfl (Or.inr (Or.inr (Or.inr (Or.inr (Or.inl ⟨rfl, rfl, rfl, rfl, rfl, (by first | omega | (simp_all; done)), (by first | omega | (simp_all; done)), (by first | omega | (simp_all; done)), (by first | omega | (simp_all; done)), (by first | omega | (simp_all; done))⟩))))) (Nat.le_of_ble_eq_true rfl) (Nat.le_of_ble_eq_true rfl) dL_secret_22
    ·
      refine vx_catch (own := RL) (name := "java/lang/IllegalArgumentException") hown [⟨0, 12, 15, 13⟩] ⟨0, 12, 19, 21⟩ [] (htab.trans rfl) (List.forall_mem_cons.mpr ⟨Or.inr ⟨by decide, "java/lang/IndexOutOfBoundsException", hg _ gw_236, hK.2.2.2.2 _ (List.mem_of_getElem? (i := 1) rfl)⟩, fun _ h => nomatch h⟩) (by decide) (by decide) (hg _ gw_297) (va_Nw.use rfl (hK.2.1 _ (List.mem_of_getElem? (i := 14) rfl))) hce hcv hcl ?_
      refine lv_astore (lv' := [(5, .ref q9), (0, .ref h0), (1, .int p1), (2, .int p2), (3, .int p3), (4, .ref h4)]) hx hb dL_secret_19 hl (by decide) rfl ?_
      clear hl
      clear ls
      intro ls hl
      refine lv_iconst (v := 2) hx hb dL_secret_21 (by decide) ?_
      exact g_iret hx hb hr hlocks ⟨wp19581, wf19583, (fun _ => 0), wf19585⟩ (hP.sub [1, 2, 3, 4, 5, 6, 7, 0] rfl) (hD.sub [1, 2, 3, 4, 5, 6, 7, 0] (by decide +kernel) rfl) hS rfl (Or.inr (Or.inr (Or.inr (Or.inr (Or.inr (Or.inl ⟨rfl, rfl, rfl, rfl, rfl, (by first | omega | (simp_all; done)), (by first | omega | (simp_all; done)), (by first | omega | (simp_all; done)), (by first | omega | (simp_all; done)), (by first | omega | (simp_all; done))⟩)))))) (Nat.le_of_ble_eq_true rfl) (Nat.le_of_ble_eq_true rfl) dL_secret_22
    ·
      refine vx_catch (own := RL) (name := "java/lang/IllegalArgumentException") hown [⟨0, 12, 15, 13⟩] ⟨0, 12, 19, 21⟩ [] (htab.trans rfl) (List.forall_mem_cons.mpr ⟨Or.inr ⟨by decide, "java/lang/IndexOutOfBoundsException", hg _ gw_236, hK.2.2.2.2 _ (List.mem_of_getElem? (i := 1) rfl)⟩, fun _ h => nomatch h⟩) (by decide) (by decide) (hg _ gw_297) (va_Nw.use rfl (hK.2.1 _ (List.mem_of_getElem? (i := 14) rfl))) hce hcv hcl ?_
      refine lv_astore (lv' := [(5, .ref q9), (0, .ref h0), (1, .int p1), (2, .int p2), (3, .int p3), (4, .ref h4)]) hx hb dL_secret_19 hl (by decide) rfl ?_
      clear hl
      clear ls
      intro ls hl
      refine lv_iconst (v := 2) hx hb dL_secret_21 (by decide) ?_
      exact g_iret hx hb hr hlocks ⟨wp19581, wf19583, (fun _ => 0), wf19585⟩ (hP.sub [1, 2, 3, 4, 5, 6, 7, 0] rfl) (hD.sub [1, 2, 3, 4, 5, 6, 7, 0] (by decide +kernel) rfl) hS rfl (Or.inr (Or.inr (Or.inr (Or.inr (Or.inr (Or.inr (Or.inl ⟨rfl, rfl, rfl, rfl, rfl, (by first | omega | (simp_all; done)), (by first | omega | (simp_all; done)), (by first | omega | (simp_all; done)), (by first | omega | (simp_all; done)), (by first | omega | (simp_all; done))⟩))))))) (Nat.le_of_ble_eq_true rfl) (Nat.le_of_ble_eq_true rfl) dL_secret_22
    ·
      refine vx_catch (own := RL) (name := "java/lang/IllegalArgumentException") hown [⟨0, 12, 15, 13⟩] ⟨0, 12, 19, 21⟩ [] (htab.trans rfl) (List.forall_mem_cons.mpr ⟨Or.inr ⟨by decide, "java/lang/IndexOutOfBoundsException", hg _ gw_236, hK.2.2.2.2 _ (List.mem_of_getElem? (i := 1) rfl)⟩, fun _ h => nomatch h⟩) (by decide) (by decide) (hg _ gw_297) (va_Nw.use rfl (hK.2.1 _ (List.mem_of_getElem? (i := 14) rfl))) hce hcv hcl ?_
      refine lv_astore (lv' := [(5, .ref q9), (0, .ref h0), (1, .int p1), (2, .int p2), (3, .int p3), (4, .ref h4)]) hx hb dL_secret_19 hl (by decide) rfl ?_
      clear hl
      clear ls
      intro ls hl
      refine lv_iconst (v := 2) hx hb dL_secret_21 (by decide) ?_
      exact g_iret hx hb hr hlocks ⟨wp19581, wf19583, (fun _ => 0), wf19585⟩ (hP.sub [1, 2, 3, 4, 5, 6, 7, 0] rfl) (hD.sub [1, 2, 3, 4, 5, 6, 7, 0] (by decide +kernel) rfl) hS rfl (Or.inr (Or.inr (Or.inr (Or.inr (Or.inr (Or.inr (Or.inr (Or.inl ⟨rfl, rfl, rfl, rfl, rfl, (by first | omega | (simp_all; done)), (by first | omega | (simp_all; done)), (by first | omega | (simp_all; done)), (by first | omega | (simp_all; done)), (by first | omega | (simp_all; done))⟩)))))))) (Nat.le_of_ble_eq_true rfl) (Nat.le_of_ble_eq_true rfl) dL_secret_22
    ·
      refine vx_catch (own := RL) (name := "java/lang/IllegalArgumentException") hown [⟨0, 12, 15, 13⟩] ⟨0, 12, 19, 21⟩ [] (htab.trans rfl) (List.forall_mem_cons.mpr ⟨Or.inr ⟨by decide, "java/lang/IndexOutOfBoundsException", hg _ gw_236, hK.2.2.2.2 _ (List.mem_of_getElem? (i := 1) rfl)⟩, fun _ h => nomatch h⟩) (by decide) (by decide) (hg _ gw_297) (va_Nw.use rfl (hK.2.1 _ (List.mem_of_getElem? (i := 14) rfl))) hce hcv hcl ?_
      refine lv_astore (lv' := [(5, .ref q9), (0, .ref h0), (1, .int p1), (2, .int p2), (3, .int p3), (4, .ref h4)]) hx hb dL_secret_19 hl (by decide) rfl ?_
      clear hl
      clear ls
      intro ls hl
      refine lv_iconst (v := 2) hx hb dL_secret_21 (by decide) ?_
      exact g_iret hx hb hr hlocks ⟨wp19581, wf19583, (fun _ => 0), wf19585⟩ (hP.sub [1, 2, 3, 4, 5, 6, 7, 0] rfl) (hD.sub [1, 2, 3, 4, 5, 6, 7, 0] (by decide +kernel) rfl) hS rfl (Or.inr (Or.inr (Or.inr (Or.inr (Or.inr (Or.inr (Or.inr (Or.inr (Or.inl ⟨rfl, rfl, rfl, rfl, rfl, (by first | omega | (simp_all; done)), (by first | omega | (simp_all; done)), (by first | omega | (simp_all; done)), (by first | omega | (simp_all; done)), (by first | omega | (simp_all; done))⟩))))))))) (Nat.le_of_ble_eq_true rfl) (Nat.le_of_ble_eq_true rfl) dL_secret_22
    ·
      refine vx_catch (own := RL) (name := "java/lang/IllegalArgumentException") hown [⟨0, 12, 15, 13⟩] ⟨0, 12, 19, 21⟩ [] (htab.trans rfl) (List.forall_mem_cons.mpr ⟨Or.inr ⟨by decide, "java/lang/IndexOutOfBoundsException", hg _ gw_236, hK.2.2.2.2 _ (List.mem_of_getElem? (i := 1) rfl)⟩, fun _ h => nomatch h⟩) (by decide) (by decide) (hg _ gw_297) (va_Nw.use rfl (hK.2.1 _ (List.mem_of_getElem? (i := 14) rfl))) hce hcv hcl ?_
      refine lv_astore (lv' := [(5, .ref q9), (0, .ref h0), (1, .int p1), (2, .int p2), (3, .int p3), (4, .ref h4)]) hx hb dL_secret_19 hl (by decide) rfl ?_
      clear hl
      clear ls
      intro ls hl
      refine lv_iconst (v := 2) hx hb dL_secret_21 (by decide) ?_
      exact g_iret hx hb hr hlocks ⟨wp19581, wf19583, (fun _ => 0), wf19585⟩ (hP.sub [1, 2, 3, 4, 5, 6, 7, 0] rfl) (hD.sub [1, 2, 3, 4, 5, 6, 7, 0] (by decide +kernel) rfl) hS rfl (Or.inr (Or.inr (Or.inr (Or.inr (Or.inr (Or.inr (Or.inr (Or.inr (Or.inr (Or.inl ⟨rfl, rfl, rfl, rfl, rfl, (by first | omega | (simp_all; done)), (by first | omega | (simp_all; done)), (by first | omega | (simp_all; done)), (by first | omega | (simp_all; done)), (by first | omega | (simp_all; done))⟩)))))))))) (Nat.le_of_ble_eq_true rfl) (Nat.le_of_ble_eq_true rfl) dL_secret_22
    ·
      refine vx_catch (own := RL) (name := "java/lang/IllegalArgumentException") hown [⟨0, 12, 15, 13⟩] ⟨0, 12, 19, 21⟩ [] (htab.trans rfl) (List.forall_mem_cons.mpr ⟨Or.inr ⟨by decide, "java/lang/IndexOutOfBoundsException", hg _ gw_236, hK.2.2.2.2 _ (List.mem_of_getElem? (i := 1) rfl)⟩, fun _ h => nomatch h⟩) (by decide) (by decide) (hg _ gw_297) (va_Nw.use rfl (hK.2.1 _ (List.mem_of_getElem? (i := 14) rfl))) hce hcv hcl ?_
      refine lv_astore (lv' := [(5, .ref q9), (0, .ref h0), (1, .int p1), (2, .int p2), (3, .int p3), (4, .ref h4)]) hx hb dL_secret_19 hl (by decide) rfl ?_
      clear hl
      clear ls
      intro ls hl
      refine lv_iconst (v := 2) hx hb dL_secret_21 (by decide) ?_
      exact g_iret hx hb hr hlocks ⟨wp19581, wf19583, (fun _ => 0), wf19585⟩ (hP.sub [1, 2, 3, 4, 5, 6, 7, 0] rfl) (hD.sub [1, 2, 3, 4, 5, 6, 7, 0] (by decide +kernel) rfl) hS rfl (Or.inr (Or.inr (Or.inr (Or.inr (Or.inr (Or.inr (Or.inr (Or.inr (Or.inr (Or.inr (Or.inl ⟨rfl, rfl, rfl, rfl, rfl, (by first | omega | (simp_all; done)), (by first | omega | (simp_all; done)), (by first | omega | (simp_all; done)), (by first | omega | (simp_all; done)), (by first | omega | (simp_all; done))⟩))))))))))) (Nat.le_of_ble_eq_true rfl) (Nat.le_of_ble_eq_true rfl) dL_secret_22
    ·
      refine vx_catch (own := RL) (name := "java/lang/IllegalArgumentException") hown [⟨0, 12, 15, 13⟩] ⟨0, 12, 19, 21⟩ [] (htab.trans rfl) (List.forall_mem_cons.mpr ⟨Or.inr ⟨by decide, "java/lang/IndexOutOfBoundsException", hg _ gw_236, hK.2.2.2.2 _ (List.mem_of_getElem? (i := 1) rfl)⟩, fun _ h => nomatch h⟩) (by decide) (by decide) (hg _ gw_297) (va_Nw.use rfl (hK.2.1 _ (List.mem_of_getElem? (i := 14) rfl))) hce hcv hcl ?_
      refine lv_astore (lv' := [(5, .ref q9), (0, .ref h0), (1, .int p1), (2, .int p2), (3, .int p3), (4, .ref h4)]) hx hb dL_secret_19 hl (by decide) rfl ?_
      clear hl
      clear ls
      intro ls hl
      refine lv_iconst (v := 2) hx hb dL_secret_21 (by decide) ?_
      exact g_iret hx hb hr hlocks ⟨wp19581, wf19583, (fun _ => 0), wf19585⟩ (hP.sub [1, 2, 3, 4, 5, 6, 7, 0] rfl) (hD.sub [1, 2, 3, 4, 5, 6, 7, 0] (by decide +kernel) rfl) hS rfl (Or.inr (Or.inr (Or.inr (Or.inr (Or.inr (Or.inr (Or.inr (Or.inr (Or.inr (Or.inr (Or.inr (Or.inl ⟨rfl, rfl, rfl, rfl, rfl, (by first | omega | (simp_all; done)), (by first | omega | (simp_all; done)), (by first | omega | (simp_all; done)), (by first | omega | (simp_all; done)), (by first | omega | (simp_all; done))⟩)))))))))))) (Nat.le_of_ble_eq_true rfl) (Nat.le_of_ble_eq_true rfl) dL_secret_22
    ·
      refine vx_catch (own := RL) (name := "java/lang/IllegalArgumentException") hown [⟨0, 12, 15, 13⟩] ⟨0, 12, 19, 21⟩ [] (htab.trans rfl) (List.forall_mem_cons.mpr ⟨Or.inr ⟨by decide, "java/lang/IndexOutOfBoundsException", hg _ gw_236, hK.2.2.2.2 _ (List.mem_of_getElem? (i := 1) rfl)⟩, fun _ h => nomatch h⟩) (by decide) (by decide) (hg _ gw_297) (va_Nw.use rfl (hK.2.1 _ (List.mem_of_getElem? (i := 14) rfl))) hce hcv hcl ?_
      refine lv_astore (lv' := [(5, .ref q9), (0, .ref h0), (1, .int p1), (2, .int p2), (3, .int p3), (4, .ref h4)]) hx hb dL_secret_19 hl (by decide) rfl ?_
      clear hl
      clear ls
      intro ls hl
      refine lv_iconst (v := 2) hx hb dL_secret_21 (by decide) ?_
      exact g_iret hx hb hr hlocks ⟨wp19581, wf19583, (fun _ => 0), wf19585⟩ (hP.sub [1, 2, 3, 4, 5, 6, 7, 0] rfl) (hD.sub [1, 2, 3, 4, 5, 6, 7, 0] (by decide +kernel) rfl) hS rfl (Or.inr (Or.inr (Or.inr (Or.inr (Or.inr (Or.inr (Or.inr (Or.inr (Or.inr (Or.inr (Or.inr (Or.inr (Or.inl ⟨rfl, rfl, rfl, rfl, rfl, (by first | omega | (simp_all; done)), (by first | omega | (simp_all; done)), (by first | omega | (simp_all; done)), (by first | omega | (simp_all; done)), (by first | omega | (simp_all; done))⟩))))))))))))) (Nat.le_of_ble_eq_true rfl) (Nat.le_of_ble_eq_true rfl) dL_secret_22
    ·
      refine vx_catch (own := RL) (name := "java/lang/IllegalArgumentException") hown [⟨0, 12, 15, 13⟩] ⟨0, 12, 19, 21⟩ [] (htab.trans rfl) (List.forall_mem_cons.mpr ⟨Or.inr ⟨by decide, "java/lang/IndexOutOfBoundsException", hg _ gw_236, hK.2.2.2.2 _ (List.mem_of_getElem? (i := 1) rfl)⟩, fun _ h => nomatch h⟩) (by decide) (by decide) (hg _ gw_297) (va_Nw.use rfl (hK.2.1 _ (List.mem_of_getElem? (i := 14) rfl))) hce hcv hcl ?_
      refine lv_astore (lv' := [(5, .ref q9), (0, .ref h0), (1, .int p1), (2, .int p2), (3, .int p3), (4, .ref h4)]) hx hb dL_secret_19 hl (by decide) rfl ?_
      clear hl
      clear ls
      intro ls hl
      refine lv_iconst (v := 2) hx hb dL_secret_21 (by decide) ?_
      exact g_iret hx hb hr hlocks ⟨wp19581, wf19583, (fun _ => 0), wf19585⟩ (hP.sub [1, 2, 3, 4, 5, 6, 7, 0] rfl) (hD.sub [1, 2, 3, 4, 5, 6, 7, 0] (by decide +kernel) rfl) hS rfl (Or.inr (Or.inr (Or.inr (Or.inr (Or.inr (Or.inr (Or.inr (Or.inr (Or.inr (Or.inr (Or.inr (Or.inr (Or.inr (Or.inl ⟨rfl, rfl, rfl, rfl, rfl, (by first | omega | (simp_all; done)), (by first | omega | (simp_all; done)), (by first | omega | (simp_all; done)), (by first | omega | (simp_all; done)), (by first | omega | (simp_all; done))⟩)))))))))))))) (Nat.le_of_ble_eq_true rfl) (Nat.le_of_ble_eq_true rfl) dL_secret_22
  ·
    clear hP hD hS
    refine fun r19586 u H locs hq hP hD hS => ?_
    obtain ⟨cf019587, cf119588⟩ := u
    rcases hq with ⟨rfl, rfl, rfl, z19647, z19648, z19649, z19650, z19651, z19652⟩ | ⟨rfl, rfl, rfl, z19653, z19654, z19655, z19656, z19657, z19658⟩ | ⟨rfl, rfl, rfl, z19659, z19660, z19661, z19662, z19663, z19664⟩ | ⟨rfl, rfl, rfl, z19665, z19666, z19667, z19668, z19669, z19670⟩ | ⟨rfl, rfl, rfl, z19671, z19672, z19673, z19674, z19675, z19676⟩ | ⟨rfl, rfl, rfl, z19677, z19678, z19679, z19680, z19681, z19682⟩ | ⟨rfl, rfl, rfl, z19683, z19684, z19685, z19686, z19687, z19688⟩ | ⟨rfl, rfl, rfl, z19689, z19690, z19691, z19692, z19693, z19694⟩ | ⟨rfl, rfl, rfl, z19695, z19696, z19697, z19698, z19699, z19700⟩ | ⟨rfl, rfl, rfl, z19701, z19702, z19703, z19704, z19705, z19706⟩ | ⟨rfl, rfl, rfl, z19707, z19708, z19709, z19710, z19711, z19712⟩ | ⟨rfl, rfl, rfl, z19713, z19714, z19715, z19716, z19717, z19718⟩ | ⟨rfl, rfl, rfl, z19719, z19720, z19721, z19722, z19723, z19724⟩ | ⟨rfl, rfl, rfl, z19725, z19726, z19727, z19728, z19729, z19730⟩ | ⟨rfl, rfl, rfl, z19731, z19732, z19733, z19734, z19735, z19736⟩
    ·
      obtain rfl : p1 = 0 := Int32.toInt_inj.mp (by rw [g_l0]; omega)
      obtain rfl : p3 = 2 := Int32.toInt_inj.mp (by rw [g_l2]; omega)
      replace hP : va_P D vwCl [(h4, .inl (y 1, 1, .inr (.inl wf19585))), (h0, .inr (11, [.ref h5, .ref h6, .ref h7, .ref h8, .ref h9, .ref h10, .ref h11, .ref h12, .ref h13, .ref h14, .ref h15, .ref h16, .ref h17, .ref h18, .int wp19576, .int wp19577, .int wp19578, .int wp19579, .int wp19580])), (h11, .inr (5, [.ref h24, .ref h25, .ref h26, .ref h27, .int 0])), (h26, .inr (8, [.ref h29, .int wp19582])), (h29, .inl (y 1, 18, .inr (.inl (vp_updL (vp_updL wf19583 ((1 : Int32).toNatClampNeg) ((p2 - p2 / 10 * 10).toInt64)) ((0 : Int32).toNatClampNeg) (((p2 / 10) - (p2 / 10) / 10 * 10).toInt64))))), (h27, .inr (8, [.ref h32, .int wp19584])), (h32, .inl (y 1, 3, .inr (.inl (vp_updL (fun _ => 0) ((0 : Int32).toNatClampNeg) 2)))), (h24, .inr (8, [.ref h34, .int 0]))] H := hP
      replace hD : va_D A [(h4, .inl (y 1, 1, .inr (.inl wf19585))), (h0, .inr (11, [.ref h5, .ref h6, .ref h7, .ref h8, .ref h9, .ref h10, .ref h11, .ref h12, .ref h13, .ref h14, .ref h15, .ref h16, .ref h17, .ref h18, .int wp19576, .int wp19577, .int wp19578, .int wp19579, .int wp19580])), (h11, .inr (5, [.ref h24, .ref h25, .ref h26, .ref h27, .int 0])), (h26, .inr (8, [.ref h29, .int wp19582])), (h29, .inl (y 1, 18, .inr (.inl (vp_updL (vp_updL wf19583 ((1 : Int32).toNatClampNeg) ((p2 - p2 / 10 * 10).toInt64)) ((0 : Int32).toNatClampNeg) (((p2 / 10) - (p2 / 10) / 10 * 10).toInt64))))), (h27, .inr (8, [.ref h32, .int wp19584])), (h32, .inl (y 1, 3, .inr (.inl (vp_updL (fun _ => 0) ((0 : Int32).toNatClampNeg) 2)))), (h24, .inr (8, [.ref h34, .int 0]))] := hD
      refine lv_i2l (v := 1) hx hb dL_secret_10 (by decide +kernel) ?_
      refine va_last hx hb hK.1 hP hD hS 0 1 rfl rfl (by unfold vp_in; decide +kernel) dL_secret_11 ?_
      clear hP hD hS H locs
      refine fun H locs (hP : va_P D vwCl [(h4, .inl (y 1, 1, .inr (.inl (vp_updL wf19585 ((0 : Int32).toNatClampNeg) 1)))), (h0, .inr (11, [.ref h5, .ref h6, .ref h7, .ref h8, .ref h9, .ref h10, .ref h11, .ref h12, .ref h13, .ref h14, .ref h15, .ref h16, .ref h17, .ref h18, .int wp19576, .int wp19577, .int wp19578, .int wp19579, .int wp19580])), (h11, .inr (5, [.ref h24, .ref h25, .ref h26, .ref h27, .int 0])), (h26, .inr (8, [.ref h29, .int wp19582])), (h29, .inl (y 1, 18, .inr (.inl (vp_updL (vp_updL wf19583 ((1 : Int32).toNatClampNeg) ((p2 - p2 / 10 * 10).toInt64)) ((0 : Int32).toNatClampNeg) (((p2 / 10) - (p2 / 10) / 10 * 10).toInt64))))), (h27, .inr (8, [.ref h32, .int wp19584])), (h32, .inl (y 1, 3, .inr (.inl (vp_updL (fun _ => 0) ((0 : Int32).toNatClampNeg) 2)))), (h24, .inr (8, [.ref h34, .int 0]))] H) (hD : va_D A [(h4, .inl (y 1, 1, .inr (.inl (vp_updL wf19585 ((0 : Int32).toNatClampNeg) 1)))), (h0, .inr (11, [.ref h5, .ref h6, .ref h7, .ref h8, .ref h9, .ref h10, .ref h11, .ref h12, .ref h13, .ref h14, .ref h15, .ref h16, .ref h17, .ref h18, .int wp19576, .int wp19577, .int wp19578, .int wp19579, .int wp19580])), (h11, .inr (5, [.ref h24, .ref h25, .ref h26, .ref h27, .int 0])), (h26, .inr (8, [.ref h29, .int wp19582])), (h29, .inl (y 1, 18, .inr (.inl (vp_updL (vp_updL wf19583 ((1 : Int32).toNatClampNeg) ((p2 - p2 / 10 * 10).toInt64)) ((0 : Int32).toNatClampNeg) (((p2 / 10) - (p2 / 10) / 10 * 10).toInt64))))), (h27, .inr (8, [.ref h32, .int wp19584])), (h32, .inl (y 1, 3, .inr (.inl (vp_updL (fun _ => 0) ((0 : Int32).toNatClampNeg) 2)))), (h24, .inr (8, [.ref h34, .int 0]))]) hS => ?_
      refine lv_goto (tgt := 23) hx hb dL_secret_12 (by decide) ?_
      refine lv_iconst (v := 0) hx hb dL_secret_23 (by decide) ?_
      exact g_iret hx hb hr hlocks ⟨0, (vp_updL (vp_updL wf19583 ((1 : Int32).toNatClampNeg) ((p2 - p2 / 10 * 10).toInt64)) ((0 : Int32).toNatClampNeg) (((p2 / 10) - (p2 / 10) / 10 * 10).toInt64)), (vp_updL (fun _ => 0) ((0 : Int32).toNatClampNeg) 2), (vp_updL wf19585 ((0 : Int32).toNatClampNeg) 1)⟩ (hP.sub [1, 2, 3, 4, 5, 6, 7, 0] rfl) (hD.sub [1, 2, 3, 4, 5, 6, 7, 0] (by decide +kernel) rfl) hS rfl (Or.inr (Or.inr (Or.inr (Or.inr (Or.inr (Or.inr (Or.inr (Or.inr (Or.inr (Or.inr (Or.inr (Or.inr (Or.inr (Or.inr (Or.inl ⟨rfl, rfl, rfl, rfl, rfl, (by first | omega | (simp_all; done)), (by first | omega | (simp_all; done)), (by first | omega | (simp_all; done)), (by first | omega | (simp_all; done)), (by first | omega | (simp_all; done)), (by first | omega | (simp_all; done))⟩))))))))))))))) (Nat.le_of_ble_eq_true rfl) (Nat.le_of_ble_eq_true rfl) dL_secret_24
    ·
      obtain rfl : p1 = 1 := Int32.toInt_inj.mp (by rw [g_l1]; omega)
      obtain rfl : p3 = 2 := Int32.toInt_inj.mp (by rw [g_l2]; omega)
      replace hP : va_P D vwCl [(h4, .inl (y 1, 1, .inr (.inl wf19585))), (h0, .inr (11, [.ref h5, .ref h6, .ref h7, .ref h8, .ref h9, .ref h10, .ref h11, .ref h12, .ref h13, .ref h14, .ref h15, .ref h16, .ref h17, .ref h18, .int wp19576, .int wp19577, .int wp19578, .int wp19579, .int wp19580])), (h11, .inr (5, [.ref h24, .ref h25, .ref h26, .ref h27, .int 0])), (h26, .inr (8, [.ref h29, .int wp19582])), (h29, .inl (y 1, 18, .inr (.inl (vp_updL (vp_updL wf19583 ((7 : Int32).toNatClampNeg) ((p2 - p2 / 10 * 10).toInt64)) ((6 : Int32).toNatClampNeg) (((p2 / 10) - (p2 / 10) / 10 * 10).toInt64))))), (h27, .inr (8, [.ref h32, .int wp19584])), (h32, .inl (y 1, 3, .inr (.inl (vp_updL (fun _ => 0) ((1 : Int32).toNatClampNeg) 2)))), (h24, .inr (8, [.ref h34, .int 0]))] H := hP
      replace hD : va_D A [(h4, .inl (y 1, 1, .inr (.inl wf19585))), (h0, .inr (11, [.ref h5, .ref h6, .ref h7, .ref h8, .ref h9, .ref h10, .ref h11, .ref h12, .ref h13, .ref h14, .ref h15, .ref h16, .ref h17, .ref h18, .int wp19576, .int wp19577, .int wp19578, .int wp19579, .int wp19580])), (h11, .inr (5, [.ref h24, .ref h25, .ref h26, .ref h27, .int 0])), (h26, .inr (8, [.ref h29, .int wp19582])), (h29, .inl (y 1, 18, .inr (.inl (vp_updL (vp_updL wf19583 ((7 : Int32).toNatClampNeg) ((p2 - p2 / 10 * 10).toInt64)) ((6 : Int32).toNatClampNeg) (((p2 / 10) - (p2 / 10) / 10 * 10).toInt64))))), (h27, .inr (8, [.ref h32, .int wp19584])), (h32, .inl (y 1, 3, .inr (.inl (vp_updL (fun _ => 0) ((1 : Int32).toNatClampNeg) 2)))), (h24, .inr (8, [.ref h34, .int 0]))] := hD
      refine lv_i2l (v := 1) hx hb dL_secret_10 (by decide +kernel) ?_
      refine va_last hx hb hK.1 hP hD hS 0 1 rfl rfl (by unfold vp_in; decide +kernel) dL_secret_11 ?_
      clear hP hD hS H locs
      refine fun H locs (hP : va_P D vwCl [(h4, .inl (y 1, 1, .inr (.inl (vp_updL wf19585 ((0 : Int32).toNatClampNeg) 1)))), (h0, .inr (11, [.ref h5, .ref h6, .ref h7, .ref h8, .ref h9, .ref h10, .ref h11, .ref h12, .ref h13, .ref h14, .ref h15, .ref h16, .ref h17, .ref h18, .int wp19576, .int wp19577, .int wp19578, .int wp19579, .int wp19580])), (h11, .inr (5, [.ref h24, .ref h25, .ref h26, .ref h27, .int 0])), (h26, .inr (8, [.ref h29, .int wp19582])), (h29, .inl (y 1, 18, .inr (.inl (vp_updL (vp_updL wf19583 ((7 : Int32).toNatClampNeg) ((p2 - p2 / 10 * 10).toInt64)) ((6 : Int32).toNatClampNeg) (((p2 / 10) - (p2 / 10) / 10 * 10).toInt64))))), (h27, .inr (8, [.ref h32, .int wp19584])), (h32, .inl (y 1, 3, .inr (.inl (vp_updL (fun _ => 0) ((1 : Int32).toNatClampNeg) 2)))), (h24, .inr (8, [.ref h34, .int 0]))] H) (hD : va_D A [(h4, .inl (y 1, 1, .inr (.inl (vp_updL wf19585 ((0 : Int32).toNatClampNeg) 1)))), (h0, .inr (11, [.ref h5, .ref h6, .ref h7, .ref h8, .ref h9, .ref h10, .ref h11, .ref h12, .ref h13, .ref h14, .ref h15, .ref h16, .ref h17, .ref h18, .int wp19576, .int wp19577, .int wp19578, .int wp19579, .int wp19580])), (h11, .inr (5, [.ref h24, .ref h25, .ref h26, .ref h27, .int 0])), (h26, .inr (8, [.ref h29, .int wp19582])), (h29, .inl (y 1, 18, .inr (.inl (vp_updL (vp_updL wf19583 ((7 : Int32).toNatClampNeg) ((p2 - p2 / 10 * 10).toInt64)) ((6 : Int32).toNatClampNeg) (((p2 / 10) - (p2 / 10) / 10 * 10).toInt64))))), (h27, .inr (8, [.ref h32, .int wp19584])), (h32, .inl (y 1, 3, .inr (.inl (vp_updL (fun _ => 0) ((1 : Int32).toNatClampNeg) 2)))), (h24, .inr (8, [.ref h34, .int 0]))]) hS => ?_
      refine lv_goto (tgt := 23) hx hb dL_secret_12 (by decide) ?_
      refine lv_iconst (v := 0) hx hb dL_secret_23 (by decide) ?_
      exact g_iret hx hb hr hlocks ⟨0, (vp_updL (vp_updL wf19583 ((7 : Int32).toNatClampNeg) ((p2 - p2 / 10 * 10).toInt64)) ((6 : Int32).toNatClampNeg) (((p2 / 10) - (p2 / 10) / 10 * 10).toInt64)), (vp_updL (fun _ => 0) ((1 : Int32).toNatClampNeg) 2), (vp_updL wf19585 ((0 : Int32).toNatClampNeg) 1)⟩ (hP.sub [1, 2, 3, 4, 5, 6, 7, 0] rfl) (hD.sub [1, 2, 3, 4, 5, 6, 7, 0] (by decide +kernel) rfl) hS rfl (Or.inr (Or.inr (Or.inr (Or.inr (Or.inr (Or.inr (Or.inr (Or.inr (Or.inr (Or.inr (Or.inr (Or.inr (Or.inr (Or.inr (Or.inr (Or.inl ⟨rfl, rfl, rfl, rfl, rfl, (by first | omega | (simp_all; done)), (by first | omega | (simp_all; done)), (by first | omega | (simp_all; done)), (by first | omega | (simp_all; done)), (by first | omega | (simp_all; done)), (by first | omega | (simp_all; done))⟩)))))))))))))))) (Nat.le_of_ble_eq_true rfl) (Nat.le_of_ble_eq_true rfl) dL_secret_24
    ·
      obtain rfl : p1 = 2 := Int32.toInt_inj.mp (by rw [g_l2]; omega)
      obtain rfl : p3 = 2 := Int32.toInt_inj.mp (by rw [g_l2]; omega)
      replace hP : va_P D vwCl [(h4, .inl (y 1, 1, .inr (.inl wf19585))), (h0, .inr (11, [.ref h5, .ref h6, .ref h7, .ref h8, .ref h9, .ref h10, .ref h11, .ref h12, .ref h13, .ref h14, .ref h15, .ref h16, .ref h17, .ref h18, .int wp19576, .int wp19577, .int wp19578, .int wp19579, .int wp19580])), (h11, .inr (5, [.ref h24, .ref h25, .ref h26, .ref h27, .int 0])), (h26, .inr (8, [.ref h29, .int wp19582])), (h29, .inl (y 1, 18, .inr (.inl (vp_updL (vp_updL wf19583 ((13 : Int32).toNatClampNeg) ((p2 - p2 / 10 * 10).toInt64)) ((12 : Int32).toNatClampNeg) (((p2 / 10) - (p2 / 10) / 10 * 10).toInt64))))), (h27, .inr (8, [.ref h32, .int wp19584])), (h32, .inl (y 1, 3, .inr (.inl (vp_updL (fun _ => 0) ((2 : Int32).toNatClampNeg) 2)))), (h24, .inr (8, [.ref h34, .int 0]))] H := hP
      replace hD : va_D A [(h4, .inl (y 1, 1, .inr (.inl wf19585))), (h0, .inr (11, [.ref h5, .ref h6, .ref h7, .ref h8, .ref h9, .ref h10, .ref h11, .ref h12, .ref h13, .ref h14, .ref h15, .ref h16, .ref h17, .ref h18, .int wp19576, .int wp19577, .int wp19578, .int wp19579, .int wp19580])), (h11, .inr (5, [.ref h24, .ref h25, .ref h26, .ref h27, .int 0])), (h26, .inr (8, [.ref h29, .int wp19582])), (h29, .inl (y 1, 18, .inr (.inl (vp_updL (vp_updL wf19583 ((13 : Int32).toNatClampNeg) ((p2 - p2 / 10 * 10).toInt64)) ((12 : Int32).toNatClampNeg) (((p2 / 10) - (p2 / 10) / 10 * 10).toInt64))))), (h27, .inr (8, [.ref h32, .int wp19584])), (h32, .inl (y 1, 3, .inr (.inl (vp_updL (fun _ => 0) ((2 : Int32).toNatClampNeg) 2)))), (h24, .inr (8, [.ref h34, .int 0]))] := hD
      refine lv_i2l (v := 1) hx hb dL_secret_10 (by decide +kernel) ?_
      refine va_last hx hb hK.1 hP hD hS 0 1 rfl rfl (by unfold vp_in; decide +kernel) dL_secret_11 ?_
      clear hP hD hS H locs
      refine fun H locs (hP : va_P D vwCl [(h4, .inl (y 1, 1, .inr (.inl (vp_updL wf19585 ((0 : Int32).toNatClampNeg) 1)))), (h0, .inr (11, [.ref h5, .ref h6, .ref h7, .ref h8, .ref h9, .ref h10, .ref h11, .ref h12, .ref h13, .ref h14, .ref h15, .ref h16, .ref h17, .ref h18, .int wp19576, .int wp19577, .int wp19578, .int wp19579, .int wp19580])), (h11, .inr (5, [.ref h24, .ref h25, .ref h26, .ref h27, .int 0])), (h26, .inr (8, [.ref h29, .int wp19582])), (h29, .inl (y 1, 18, .inr (.inl (vp_updL (vp_updL wf19583 ((13 : Int32).toNatClampNeg) ((p2 - p2 / 10 * 10).toInt64)) ((12 : Int32).toNatClampNeg) (((p2 / 10) - (p2 / 10) / 10 * 10).toInt64))))), (h27, .inr (8, [.ref h32, .int wp19584])), (h32, .inl (y 1, 3, .inr (.inl (vp_updL (fun _ => 0) ((2 : Int32).toNatClampNeg) 2)))), (h24, .inr (8, [.ref h34, .int 0]))] H) (hD : va_D A [(h4, .inl (y 1, 1, .inr (.inl (vp_updL wf19585 ((0 : Int32).toNatClampNeg) 1)))), (h0, .inr (11, [.ref h5, .ref h6, .ref h7, .ref h8, .ref h9, .ref h10, .ref h11, .ref h12, .ref h13, .ref h14, .ref h15, .ref h16, .ref h17, .ref h18, .int wp19576, .int wp19577, .int wp19578, .int wp19579, .int wp19580])), (h11, .inr (5, [.ref h24, .ref h25, .ref h26, .ref h27, .int 0])), (h26, .inr (8, [.ref h29, .int wp19582])), (h29, .inl (y 1, 18, .inr (.inl (vp_updL (vp_updL wf19583 ((13 : Int32).toNatClampNeg) ((p2 - p2 / 10 * 10).toInt64)) ((12 : Int32).toNatClampNeg) (((p2 / 10) - (p2 / 10) / 10 * 10).toInt64))))), (h27, .inr (8, [.ref h32, .int wp19584])), (h32, .inl (y 1, 3, .inr (.inl (vp_updL (fun _ => 0) ((2 : Int32).toNatClampNeg) 2)))), (h24, .inr (8, [.ref h34, .int 0]))]) hS => ?_
      refine lv_goto (tgt := 23) hx hb dL_secret_12 (by decide) ?_
      refine lv_iconst (v := 0) hx hb dL_secret_23 (by decide) ?_
      exact g_iret hx hb hr hlocks ⟨0, (vp_updL (vp_updL wf19583 ((13 : Int32).toNatClampNeg) ((p2 - p2 / 10 * 10).toInt64)) ((12 : Int32).toNatClampNeg) (((p2 / 10) - (p2 / 10) / 10 * 10).toInt64)), (vp_updL (fun _ => 0) ((2 : Int32).toNatClampNeg) 2), (vp_updL wf19585 ((0 : Int32).toNatClampNeg) 1)⟩ (hP.sub [1, 2, 3, 4, 5, 6, 7, 0] rfl) (hD.sub [1, 2, 3, 4, 5, 6, 7, 0] (by decide +kernel) rfl) hS rfl (Or.inr (Or.inr (Or.inr (Or.inr (Or.inr (Or.inr (Or.inr (Or.inr (Or.inr (Or.inr (Or.inr (Or.inr (Or.inr (Or.inr (Or.inr (Or.inr (Or.inl ⟨rfl, rfl, rfl, rfl, rfl, (by first | omega | (simp_all; done)), (by first | omega | (simp_all; done)), (by first | omega | (simp_all; done)), (by first | omega | (simp_all; done)), (by first | omega | (simp_all; done)), (by first | omega | (simp_all; done))⟩))))))))))))))))) (Nat.le_of_ble_eq_true rfl) (Nat.le_of_ble_eq_true rfl) dL_secret_24
    ·
      obtain rfl : p1 = 0 := Int32.toInt_inj.mp (by rw [g_l0]; omega)
      obtain rfl : p3 = 3 := Int32.toInt_inj.mp (by rw [g_l3]; omega)
      replace hP : va_P D vwCl [(h4, .inl (y 1, 1, .inr (.inl wf19585))), (h0, .inr (11, [.ref h5, .ref h6, .ref h7, .ref h8, .ref h9, .ref h10, .ref h11, .ref h12, .ref h13, .ref h14, .ref h15, .ref h16, .ref h17, .ref h18, .int wp19576, .int wp19577, .int wp19578, .int wp19579, .int wp19580])), (h11, .inr (5, [.ref h24, .ref h25, .ref h26, .ref h27, .int 0])), (h26, .inr (8, [.ref h29, .int wp19582])), (h29, .inl (y 1, 18, .inr (.inl (vp_updL (vp_updL (vp_updL wf19583 ((2 : Int32).toNatClampNeg) ((p2 - p2 / 10 * 10).toInt64)) ((1 : Int32).toNatClampNeg) (((p2 / 10) - (p2 / 10) / 10 * 10).toInt64)) ((0 : Int32).toNatClampNeg) ((((p2 / 10) / 10) - ((p2 / 10) / 10) / 10 * 10).toInt64))))), (h27, .inr (8, [.ref h32, .int wp19584])), (h32, .inl (y 1, 3, .inr (.inl (vp_updL (fun _ => 0) ((0 : Int32).toNatClampNeg) 3)))), (h24, .inr (8, [.ref h34, .int 0]))] H := hP
      replace hD : va_D A [(h4, .inl (y 1, 1, .inr (.inl wf19585))), (h0, .inr (11, [.ref h5, .ref h6, .ref h7, .ref h8, .ref h9, .ref h10, .ref h11, .ref h12, .ref h13, .ref h14, .ref h15, .ref h16, .ref h17, .ref h18, .int wp19576, .int wp19577, .int wp19578, .int wp19579, .int wp19580])), (h11, .inr (5, [.ref h24, .ref h25, .ref h26, .ref h27, .int 0])), (h26, .inr (8, [.ref h29, .int wp19582])), (h29, .inl (y 1, 18, .inr (.inl (vp_updL (vp_updL (vp_updL wf19583 ((2 : Int32).toNatClampNeg) ((p2 - p2 / 10 * 10).toInt64)) ((1 : Int32).toNatClampNeg) (((p2 / 10) - (p2 / 10) / 10 * 10).toInt64)) ((0 : Int32).toNatClampNeg) ((((p2 / 10) / 10) - ((p2 / 10) / 10) / 10 * 10).toInt64))))), (h27, .inr (8, [.ref h32, .int wp19584])), (h32, .inl (y 1, 3, .inr (.inl (vp_updL (fun _ => 0) ((0 : Int32).toNatClampNeg) 3)))), (h24, .inr (8, [.ref h34, .int 0]))] := hD
      refine lv_i2l (v := 1) hx hb dL_secret_10 (by decide +kernel) ?_
      refine va_last hx hb hK.1 hP hD hS 0 1 rfl rfl (by unfold vp_in; decide +kernel) dL_secret_11 ?_
      clear hP hD hS H locs
      refine fun H locs (hP : va_P D vwCl [(h4, .inl (y 1, 1, .inr (.inl (vp_updL wf19585 ((0 : Int32).toNatClampNeg) 1)))), (h0, .inr (11, [.ref h5, .ref h6, .ref h7, .ref h8, .ref h9, .ref h10, .ref h11, .ref h12, .ref h13, .ref h14, .ref h15, .ref h16, .ref h17, .ref h18, .int wp19576, .int wp19577, .int wp19578, .int wp19579, .int wp19580])), (h11, .inr (5, [.ref h24, .ref h25, .ref h26, .ref h27, .int 0])), (h26, .inr (8, [.ref h29, .int wp19582])), (h29, .inl (y 1, 18, .inr (.inl (vp_updL (vp_updL (vp_updL wf19583 ((2 : Int32).toNatClampNeg) ((p2 - p2 / 10 * 10).toInt64)) ((1 : Int32).toNatClampNeg) (((p2 / 10) - (p2 / 10) / 10 * 10).toInt64)) ((0 : Int32).toNatClampNeg) ((((p2 / 10) / 10) - ((p2 / 10) / 10) / 10 * 10).toInt64))))), (h27, .inr (8, [.ref h32, .int wp19584])), (h32, .inl (y 1, 3, .inr (.inl (vp_updL (fun _ => 0) ((0 : Int32).toNatClampNeg) 3)))), (h24, .inr (8, [.ref h34, .int 0]))] H) (hD : va_D A [(h4, .inl (y 1, 1, .inr (.inl (vp_updL wf19585 ((0 : Int32).toNatClampNeg) 1)))), (h0, .inr (11, [.ref h5, .ref h6, .ref h7, .ref h8, .ref h9, .ref h10, .ref h11, .ref h12, .ref h13, .ref h14, .ref h15, .ref h16, .ref h17, .ref h18, .int wp19576, .int wp19577, .int wp19578, .int wp19579, .int wp19580])), (h11, .inr (5, [.ref h24, .ref h25, .ref h26, .ref h27, .int 0])), (h26, .inr (8, [.ref h29, .int wp19582])), (h29, .inl (y 1, 18, .inr (.inl (vp_updL (vp_updL (vp_updL wf19583 ((2 : Int32).toNatClampNeg) ((p2 - p2 / 10 * 10).toInt64)) ((1 : Int32).toNatClampNeg) (((p2 / 10) - (p2 / 10) / 10 * 10).toInt64)) ((0 : Int32).toNatClampNeg) ((((p2 / 10) / 10) - ((p2 / 10) / 10) / 10 * 10).toInt64))))), (h27, .inr (8, [.ref h32, .int wp19584])), (h32, .inl (y 1, 3, .inr (.inl (vp_updL (fun _ => 0) ((0 : Int32).toNatClampNeg) 3)))), (h24, .inr (8, [.ref h34, .int 0]))]) hS => ?_
      refine lv_goto (tgt := 23) hx hb dL_secret_12 (by decide) ?_
      refine lv_iconst (v := 0) hx hb dL_secret_23 (by decide) ?_
      exact g_iret hx hb hr hlocks ⟨0, (vp_updL (vp_updL (vp_updL wf19583 ((2 : Int32).toNatClampNeg) ((p2 - p2 / 10 * 10).toInt64)) ((1 : Int32).toNatClampNeg) (((p2 / 10) - (p2 / 10) / 10 * 10).toInt64)) ((0 : Int32).toNatClampNeg) ((((p2 / 10) / 10) - ((p2 / 10) / 10) / 10 * 10).toInt64)), (vp_updL (fun _ => 0) ((0 : Int32).toNatClampNeg) 3), (vp_updL wf19585 ((0 : Int32).toNatClampNeg) 1)⟩ (hP.sub [1, 2, 3, 4, 5, 6, 7, 0] rfl) (hD.sub [1, 2, 3, 4, 5, 6, 7, 0] (by decide +kernel) rfl) hS rfl (Or.inr (Or.inr (Or.inr (Or.inr (Or.inr (Or.inr (Or.inr (Or.inr (Or.inr (Or.inr (Or.inr (Or.inr (Or.inr (Or.inr (Or.inr (Or.inr (Or.inr (Or.inl ⟨rfl, rfl, rfl, rfl, rfl, (by first | omega | (simp_all; done)), (by first | omega | (simp_all; done)), (by first | omega | (simp_all; done)), (by first | omega | (simp_all; done)), (by first | omega | (simp_all; done)), (by first | omega | (simp_all; done))⟩)))))))))))))))))) (Nat.le_of_ble_eq_true rfl) (Nat.le_of_ble_eq_true rfl) dL_secret_24
    ·
      obtain rfl : p1 = 1 := Int32.toInt_inj.mp (by rw [g_l1]; omega)
      obtain rfl : p3 = 3 := Int32.toInt_inj.mp (by rw [g_l3]; omega)
      replace hP : va_P D vwCl [(h4, .inl (y 1, 1, .inr (.inl wf19585))), (h0, .inr (11, [.ref h5, .ref h6, .ref h7, .ref h8, .ref h9, .ref h10, .ref h11, .ref h12, .ref h13, .ref h14, .ref h15, .ref h16, .ref h17, .ref h18, .int wp19576, .int wp19577, .int wp19578, .int wp19579, .int wp19580])), (h11, .inr (5, [.ref h24, .ref h25, .ref h26, .ref h27, .int 0])), (h26, .inr (8, [.ref h29, .int wp19582])), (h29, .inl (y 1, 18, .inr (.inl (vp_updL (vp_updL (vp_updL wf19583 ((8 : Int32).toNatClampNeg) ((p2 - p2 / 10 * 10).toInt64)) ((7 : Int32).toNatClampNeg) (((p2 / 10) - (p2 / 10) / 10 * 10).toInt64)) ((6 : Int32).toNatClampNeg) ((((p2 / 10) / 10) - ((p2 / 10) / 10) / 10 * 10).toInt64))))), (h27, .inr (8, [.ref h32, .int wp19584])), (h32, .inl (y 1, 3, .inr (.inl (vp_updL (fun _ => 0) ((1 : Int32).toNatClampNeg) 3)))), (h24, .inr (8, [.ref h34, .int 0]))] H := hP
      replace hD : va_D A [(h4, .inl (y 1, 1, .inr (.inl wf19585))), (h0, .inr (11, [.ref h5, .ref h6, .ref h7, .ref h8, .ref h9, .ref h10, .ref h11, .ref h12, .ref h13, .ref h14, .ref h15, .ref h16, .ref h17, .ref h18, .int wp19576, .int wp19577, .int wp19578, .int wp19579, .int wp19580])), (h11, .inr (5, [.ref h24, .ref h25, .ref h26, .ref h27, .int 0])), (h26, .inr (8, [.ref h29, .int wp19582])), (h29, .inl (y 1, 18, .inr (.inl (vp_updL (vp_updL (vp_updL wf19583 ((8 : Int32).toNatClampNeg) ((p2 - p2 / 10 * 10).toInt64)) ((7 : Int32).toNatClampNeg) (((p2 / 10) - (p2 / 10) / 10 * 10).toInt64)) ((6 : Int32).toNatClampNeg) ((((p2 / 10) / 10) - ((p2 / 10) / 10) / 10 * 10).toInt64))))), (h27, .inr (8, [.ref h32, .int wp19584])), (h32, .inl (y 1, 3, .inr (.inl (vp_updL (fun _ => 0) ((1 : Int32).toNatClampNeg) 3)))), (h24, .inr (8, [.ref h34, .int 0]))] := hD
      refine lv_i2l (v := 1) hx hb dL_secret_10 (by decide +kernel) ?_
      refine va_last hx hb hK.1 hP hD hS 0 1 rfl rfl (by unfold vp_in; decide +kernel) dL_secret_11 ?_
      clear hP hD hS H locs
      refine fun H locs (hP : va_P D vwCl [(h4, .inl (y 1, 1, .inr (.inl (vp_updL wf19585 ((0 : Int32).toNatClampNeg) 1)))), (h0, .inr (11, [.ref h5, .ref h6, .ref h7, .ref h8, .ref h9, .ref h10, .ref h11, .ref h12, .ref h13, .ref h14, .ref h15, .ref h16, .ref h17, .ref h18, .int wp19576, .int wp19577, .int wp19578, .int wp19579, .int wp19580])), (h11, .inr (5, [.ref h24, .ref h25, .ref h26, .ref h27, .int 0])), (h26, .inr (8, [.ref h29, .int wp19582])), (h29, .inl (y 1, 18, .inr (.inl (vp_updL (vp_updL (vp_updL wf19583 ((8 : Int32).toNatClampNeg) ((p2 - p2 / 10 * 10).toInt64)) ((7 : Int32).toNatClampNeg) (((p2 / 10) - (p2 / 10) / 10 * 10).toInt64)) ((6 : Int32).toNatClampNeg) ((((p2 / 10) / 10) - ((p2 / 10) / 10) / 10 * 10).toInt64))))), (h27, .inr (8, [.ref h32, .int wp19584])), (h32, .inl (y 1, 3, .inr (.inl (vp_updL (fun _ => 0) ((1 : Int32).toNatClampNeg) 3)))), (h24, .inr (8, [.ref h34, .int 0]))] H) (hD : va_D A [(h4, .inl (y 1, 1, .inr (.inl (vp_updL wf19585 ((0 : Int32).toNatClampNeg) 1)))), (h0, .inr (11, [.ref h5, .ref h6, .ref h7, .ref h8, .ref h9, .ref h10, .ref h11, .ref h12, .ref h13, .ref h14, .ref h15, .ref h16, .ref h17, .ref h18, .int wp19576, .int wp19577, .int wp19578, .int wp19579, .int wp19580])), (h11, .inr (5, [.ref h24, .ref h25, .ref h26, .ref h27, .int 0])), (h26, .inr (8, [.ref h29, .int wp19582])), (h29, .inl (y 1, 18, .inr (.inl (vp_updL (vp_updL (vp_updL wf19583 ((8 : Int32).toNatClampNeg) ((p2 - p2 / 10 * 10).toInt64)) ((7 : Int32).toNatClampNeg) (((p2 / 10) - (p2 / 10) / 10 * 10).toInt64)) ((6 : Int32).toNatClampNeg) ((((p2 / 10) / 10) - ((p2 / 10) / 10) / 10 * 10).toInt64))))), (h27, .inr (8, [.ref h32, .int wp19584])), (h32, .inl (y 1, 3, .inr (.inl (vp_updL (fun _ => 0) ((1 : Int32).toNatClampNeg) 3)))), (h24, .inr (8, [.ref h34, .int 0]))]) hS => ?_
      refine lv_goto (tgt := 23) hx hb dL_secret_12 (by decide) ?_
      refine lv_iconst (v := 0) hx hb dL_secret_23 (by decide) ?_
      exact g_iret hx hb hr hlocks ⟨0, (vp_updL (vp_updL (vp_updL wf19583 ((8 : Int32).toNatClampNeg) ((p2 - p2 / 10 * 10).toInt64)) ((7 : Int32).toNatClampNeg) (((p2 / 10) - (p2 / 10) / 10 * 10).toInt64)) ((6 : Int32).toNatClampNeg) ((((p2 / 10) / 10) - ((p2 / 10) / 10) / 10 * 10).toInt64)), (vp_updL (fun _ => 0) ((1 : Int32).toNatClampNeg) 3), (vp_updL wf19585 ((0 : Int32).toNatClampNeg) 1)⟩ (hP.sub [1, 2, 3, 4, 5, 6, 7, 0] rfl) (hD.sub [1, 2, 3, 4, 5, 6, 7, 0] (by decide +kernel) rfl) hS rfl (Or.inr (Or.inr (Or.inr (Or.inr (Or.inr (Or.inr (Or.inr (Or.inr (Or.inr (Or.inr (Or.inr (Or.inr (Or.inr (Or.inr (Or.inr (Or.inr (Or.inr (Or.inr (Or.inl ⟨rfl, rfl, rfl, rfl, rfl, (by first | omega | (simp_all; done)), (by first | omega | (simp_all; done)), (by first | omega | (simp_all; done)), (by first | omega | (simp_all; done)), (by first | omega | (simp_all; done)), (by first | omega | (simp_all; done))⟩))))))))))))))))))) (Nat.le_of_ble_eq_true rfl) (Nat.le_of_ble_eq_true rfl) dL_secret_24
    ·
      obtain rfl : p1 = 2 := Int32.toInt_inj.mp (by rw [g_l2]; omega)
      obtain rfl : p3 = 3 := Int32.toInt_inj.mp (by rw [g_l3]; omega)
      replace hP : va_P D vwCl [(h4, .inl (y 1, 1, .inr (.inl wf19585))), (h0, .inr (11, [.ref h5, .ref h6, .ref h7, .ref h8, .ref h9, .ref h10, .ref h11, .ref h12, .ref h13, .ref h14, .ref h15, .ref h16, .ref h17, .ref h18, .int wp19576, .int wp19577, .int wp19578, .int wp19579, .int wp19580])), (h11, .inr (5, [.ref h24, .ref h25, .ref h26, .ref h27, .int 0])), (h26, .inr (8, [.ref h29, .int wp19582])), (h29, .inl (y 1, 18, .inr (.inl (vp_updL (vp_updL (vp_updL wf19583 ((14 : Int32).toNatClampNeg) ((p2 - p2 / 10 * 10).toInt64)) ((13 : Int32).toNatClampNeg) (((p2 / 10) - (p2 / 10) / 10 * 10).toInt64)) ((12 : Int32).toNatClampNeg) ((((p2 / 10) / 10) - ((p2 / 10) / 10) / 10 * 10).toInt64))))), (h27, .inr (8, [.ref h32, .int wp19584])), (h32, .inl (y 1, 3, .inr (.inl (vp_updL (fun _ => 0) ((2 : Int32).toNatClampNeg) 3)))), (h24, .inr (8, [.ref h34, .int 0]))] H := hP
      replace hD : va_D A [(h4, .inl (y 1, 1, .inr (.inl wf19585))), (h0, .inr (11, [.ref h5, .ref h6, .ref h7, .ref h8, .ref h9, .ref h10, .ref h11, .ref h12, .ref h13, .ref h14, .ref h15, .ref h16, .ref h17, .ref h18, .int wp19576, .int wp19577, .int wp19578, .int wp19579, .int wp19580])), (h11, .inr (5, [.ref h24, .ref h25, .ref h26, .ref h27, .int 0])), (h26, .inr (8, [.ref h29, .int wp19582])), (h29, .inl (y 1, 18, .inr (.inl (vp_updL (vp_updL (vp_updL wf19583 ((14 : Int32).toNatClampNeg) ((p2 - p2 / 10 * 10).toInt64)) ((13 : Int32).toNatClampNeg) (((p2 / 10) - (p2 / 10) / 10 * 10).toInt64)) ((12 : Int32).toNatClampNeg) ((((p2 / 10) / 10) - ((p2 / 10) / 10) / 10 * 10).toInt64))))), (h27, .inr (8, [.ref h32, .int wp19584])), (h32, .inl (y 1, 3, .inr (.inl (vp_updL (fun _ => 0) ((2 : Int32).toNatClampNeg) 3)))), (h24, .inr (8, [.ref h34, .int 0]))] := hD
      refine lv_i2l (v := 1) hx hb dL_secret_10 (by decide +kernel) ?_
      refine va_last hx hb hK.1 hP hD hS 0 1 rfl rfl (by unfold vp_in; decide +kernel) dL_secret_11 ?_
      clear hP hD hS H locs
      refine fun H locs (hP : va_P D vwCl [(h4, .inl (y 1, 1, .inr (.inl (vp_updL wf19585 ((0 : Int32).toNatClampNeg) 1)))), (h0, .inr (11, [.ref h5, .ref h6, .ref h7, .ref h8, .ref h9, .ref h10, .ref h11, .ref h12, .ref h13, .ref h14, .ref h15, .ref h16, .ref h17, .ref h18, .int wp19576, .int wp19577, .int wp19578, .int wp19579, .int wp19580])), (h11, .inr (5, [.ref h24, .ref h25, .ref h26, .ref h27, .int 0])), (h26, .inr (8, [.ref h29, .int wp19582])), (h29, .inl (y 1, 18, .inr (.inl (vp_updL (vp_updL (vp_updL wf19583 ((14 : Int32).toNatClampNeg) ((p2 - p2 / 10 * 10).toInt64)) ((13 : Int32).toNatClampNeg) (((p2 / 10) - (p2 / 10) / 10 * 10).toInt64)) ((12 : Int32).toNatClampNeg) ((((p2 / 10) / 10) - ((p2 / 10) / 10) / 10 * 10).toInt64))))), (h27, .inr (8, [.ref h32, .int wp19584])), (h32, .inl (y 1, 3, .inr (.inl (vp_updL (fun _ => 0) ((2 : Int32).toNatClampNeg) 3)))), (h24, .inr (8, [.ref h34, .int 0]))] H) (hD : va_D A [(h4, .inl (y 1, 1, .inr (.inl (vp_updL wf19585 ((0 : Int32).toNatClampNeg) 1)))), (h0, .inr (11, [.ref h5, .ref h6, .ref h7, .ref h8, .ref h9, .ref h10, .ref h11, .ref h12, .ref h13, .ref h14, .ref h15, .ref h16, .ref h17, .ref h18, .int wp19576, .int wp19577, .int wp19578, .int wp19579, .int wp19580])), (h11, .inr (5, [.ref h24, .ref h25, .ref h26, .ref h27, .int 0])), (h26, .inr (8, [.ref h29, .int wp19582])), (h29, .inl (y 1, 18, .inr (.inl (vp_updL (vp_updL (vp_updL wf19583 ((14 : Int32).toNatClampNeg) ((p2 - p2 / 10 * 10).toInt64)) ((13 : Int32).toNatClampNeg) (((p2 / 10) - (p2 / 10) / 10 * 10).toInt64)) ((12 : Int32).toNatClampNeg) ((((p2 / 10) / 10) - ((p2 / 10) / 10) / 10 * 10).toInt64))))), (h27, .inr (8, [.ref h32, .int wp19584])), (h32, .inl (y 1, 3, .inr (.inl (vp_updL (fun _ => 0) ((2 : Int32).toNatClampNeg) 3)))), (h24, .inr (8, [.ref h34, .int 0]))]) hS => ?_
      refine lv_goto (tgt := 23) hx hb dL_secret_12 (by decide) ?_
      refine lv_iconst (v := 0) hx hb dL_secret_23 (by decide) ?_
      exact g_iret hx hb hr hlocks ⟨0, (vp_updL (vp_updL (vp_updL wf19583 ((14 : Int32).toNatClampNeg) ((p2 - p2 / 10 * 10).toInt64)) ((13 : Int32).toNatClampNeg) (((p2 / 10) - (p2 / 10) / 10 * 10).toInt64)) ((12 : Int32).toNatClampNeg) ((((p2 / 10) / 10) - ((p2 / 10) / 10) / 10 * 10).toInt64)), (vp_updL (fun _ => 0) ((2 : Int32).toNatClampNeg) 3), (vp_updL wf19585 ((0 : Int32).toNatClampNeg) 1)⟩ (hP.sub [1, 2, 3, 4, 5, 6, 7, 0] rfl) (hD.sub [1, 2, 3, 4, 5, 6, 7, 0] (by decide +kernel) rfl) hS rfl (Or.inr (Or.inr (Or.inr (Or.inr (Or.inr (Or.inr (Or.inr (Or.inr (Or.inr (Or.inr (Or.inr (Or.inr (Or.inr (Or.inr (Or.inr (Or.inr (Or.inr (Or.inr (Or.inr (Or.inl ⟨rfl, rfl, rfl, rfl, rfl, (by first | omega | (simp_all; done)), (by first | omega | (simp_all; done)), (by first | omega | (simp_all; done)), (by first | omega | (simp_all; done)), (by first | omega | (simp_all; done)), (by first | omega | (simp_all; done))⟩)))))))))))))))))))) (Nat.le_of_ble_eq_true rfl) (Nat.le_of_ble_eq_true rfl) dL_secret_24
    ·
      obtain rfl : p1 = 0 := Int32.toInt_inj.mp (by rw [g_l0]; omega)
      obtain rfl : p3 = 4 := Int32.toInt_inj.mp (by rw [g_l4]; omega)
      replace hP : va_P D vwCl [(h4, .inl (y 1, 1, .inr (.inl wf19585))), (h0, .inr (11, [.ref h5, .ref h6, .ref h7, .ref h8, .ref h9, .ref h10, .ref h11, .ref h12, .ref h13, .ref h14, .ref h15, .ref h16, .ref h17, .ref h18, .int wp19576, .int wp19577, .int wp19578, .int wp19579, .int wp19580])), (h11, .inr (5, [.ref h24, .ref h25, .ref h26, .ref h27, .int 0])), (h26, .inr (8, [.ref h29, .int wp19582])), (h29, .inl (y 1, 18, .inr (.inl (vp_updL (vp_updL (vp_updL (vp_updL wf19583 ((3 : Int32).toNatClampNeg) ((p2 - p2 / 10 * 10).toInt64)) ((2 : Int32).toNatClampNeg) (((p2 / 10) - (p2 / 10) / 10 * 10).toInt64)) ((1 : Int32).toNatClampNeg) ((((p2 / 10) / 10) - ((p2 / 10) / 10) / 10 * 10).toInt64)) ((0 : Int32).toNatClampNeg) (((((p2 / 10) / 10) / 10) - (((p2 / 10) / 10) / 10) / 10 * 10).toInt64))))), (h27, .inr (8, [.ref h32, .int wp19584])), (h32, .inl (y 1, 3, .inr (.inl (vp_updL (fun _ => 0) ((0 : Int32).toNatClampNeg) 4)))), (h24, .inr (8, [.ref h34, .int 0]))] H := hP
      replace hD : va_D A [(h4, .inl (y 1, 1, .inr (.inl wf19585))), (h0, .inr (11, [.ref h5, .ref h6, .ref h7, .ref h8, .ref h9, .ref h10, .ref h11, .ref h12, .ref h13, .ref h14, .ref h15, .ref h16, .ref h17, .ref h18, .int wp19576, .int wp19577, .int wp19578, .int wp19579, .int wp19580])), (h11, .inr (5, [.ref h24, .ref h25, .ref h26, .ref h27, .int 0])), (h26, .inr (8, [.ref h29, .int wp19582])), (h29, .inl (y 1, 18, .inr (.inl (vp_updL (vp_updL (vp_updL (vp_updL wf19583 ((3 : Int32).toNatClampNeg) ((p2 - p2 / 10 * 10).toInt64)) ((2 : Int32).toNatClampNeg) (((p2 / 10) - (p2 / 10) / 10 * 10).toInt64)) ((1 : Int32).toNatClampNeg) ((((p2 / 10) / 10) - ((p2 / 10) / 10) / 10 * 10).toInt64)) ((0 : Int32).toNatClampNeg) (((((p2 / 10) / 10) / 10) - (((p2 / 10) / 10) / 10) / 10 * 10).toInt64))))), (h27, .inr (8, [.ref h32, .int wp19584])), (h32, .inl (y 1, 3, .inr (.inl (vp_updL (fun _ => 0) ((0 : Int32).toNatClampNeg) 4)))), (h24, .inr (8, [.ref h34, .int 0]))] := hD
      refine lv_i2l (v := 1) hx hb dL_secret_10 (by decide +kernel) ?_
      refine va_last hx hb hK.1 hP hD hS 0 1 rfl rfl (by unfold vp_in; decide +kernel) dL_secret_11 ?_
      clear hP hD hS H locs
      refine fun H locs (hP : va_P D vwCl [(h4, .inl (y 1, 1, .inr (.inl (vp_updL wf19585 ((0 : Int32).toNatClampNeg) 1)))), (h0, .inr (11, [.ref h5, .ref h6, .ref h7, .ref h8, .ref h9, .ref h10, .ref h11, .ref h12, .ref h13, .ref h14, .ref h15, .ref h16, .ref h17, .ref h18, .int wp19576, .int wp19577, .int wp19578, .int wp19579, .int wp19580])), (h11, .inr (5, [.ref h24, .ref h25, .ref h26, .ref h27, .int 0])), (h26, .inr (8, [.ref h29, .int wp19582])), (h29, .inl (y 1, 18, .inr (.inl (vp_updL (vp_updL (vp_updL (vp_updL wf19583 ((3 : Int32).toNatClampNeg) ((p2 - p2 / 10 * 10).toInt64)) ((2 : Int32).toNatClampNeg) (((p2 / 10) - (p2 / 10) / 10 * 10).toInt64)) ((1 : Int32).toNatClampNeg) ((((p2 / 10) / 10) - ((p2 / 10) / 10) / 10 * 10).toInt64)) ((0 : Int32).toNatClampNeg) (((((p2 / 10) / 10) / 10) - (((p2 / 10) / 10) / 10) / 10 * 10).toInt64))))), (h27, .inr (8, [.ref h32, .int wp19584])), (h32, .inl (y 1, 3, .inr (.inl (vp_updL (fun _ => 0) ((0 : Int32).toNatClampNeg) 4)))), (h24, .inr (8, [.ref h34, .int 0]))] H) (hD : va_D A [(h4, .inl (y 1, 1, .inr (.inl (vp_updL wf19585 ((0 : Int32).toNatClampNeg) 1)))), (h0, .inr (11, [.ref h5, .ref h6, .ref h7, .ref h8, .ref h9, .ref h10, .ref h11, .ref h12, .ref h13, .ref h14, .ref h15, .ref h16, .ref h17, .ref h18, .int wp19576, .int wp19577, .int wp19578, .int wp19579, .int wp19580])), (h11, .inr (5, [.ref h24, .ref h25, .ref h26, .ref h27, .int 0])), (h26, .inr (8, [.ref h29, .int wp19582])), (h29, .inl (y 1, 18, .inr (.inl (vp_updL (vp_updL (vp_updL (vp_updL wf19583 ((3 : Int32).toNatClampNeg) ((p2 - p2 / 10 * 10).toInt64)) ((2 : Int32).toNatClampNeg) (((p2 / 10) - (p2 / 10) / 10 * 10).toInt64)) ((1 : Int32).toNatClampNeg) ((((p2 / 10) / 10) - ((p2 / 10) / 10) / 10 * 10).toInt64)) ((0 : Int32).toNatClampNeg) (((((p2 / 10) / 10) / 10) - (((p2 / 10) / 10) / 10) / 10 * 10).toInt64))))), (h27, .inr (8, [.ref h32, .int wp19584])), (h32, .inl (y 1, 3, .inr (.inl (vp_updL (fun _ => 0) ((0 : Int32).toNatClampNeg) 4)))), (h24, .inr (8, [.ref h34, .int 0]))]) hS => ?_
      refine lv_goto (tgt := 23) hx hb dL_secret_12 (by decide) ?_
      refine lv_iconst (v := 0) hx hb dL_secret_23 (by decide) ?_
      exact g_iret hx hb hr hlocks ⟨0, (vp_updL (vp_updL (vp_updL (vp_updL wf19583 ((3 : Int32).toNatClampNeg) ((p2 - p2 / 10 * 10).toInt64)) ((2 : Int32).toNatClampNeg) (((p2 / 10) - (p2 / 10) / 10 * 10).toInt64)) ((1 : Int32).toNatClampNeg) ((((p2 / 10) / 10) - ((p2 / 10) / 10) / 10 * 10).toInt64)) ((0 : Int32).toNatClampNeg) (((((p2 / 10) / 10) / 10) - (((p2 / 10) / 10) / 10) / 10 * 10).toInt64)), (vp_updL (fun _ => 0) ((0 : Int32).toNatClampNeg) 4), (vp_updL wf19585 ((0 : Int32).toNatClampNeg) 1)⟩ (hP.sub [1, 2, 3, 4, 5, 6, 7, 0] rfl) (hD.sub [1, 2, 3, 4, 5, 6, 7, 0] (by decide +kernel) rfl) hS rfl (Or.inr (Or.inr (Or.inr (Or.inr (Or.inr (Or.inr (Or.inr (Or.inr (Or.inr (Or.inr (Or.inr (Or.inr (Or.inr (Or.inr (Or.inr (Or.inr (Or.inr (Or.inr (Or.inr (Or.inr (Or.inl ⟨rfl, rfl, rfl, rfl, rfl, (by first | omega | (simp_all; done)), (by first | omega | (simp_all; done)), (by first | omega | (simp_all; done)), (by first | omega | (simp_all; done)), (by first | omega | (simp_all; done)), (by first | omega | (simp_all; done))⟩))))))))))))))))))))) (Nat.le_of_ble_eq_true rfl) (Nat.le_of_ble_eq_true rfl) dL_secret_24
    ·
      obtain rfl : p1 = 1 := Int32.toInt_inj.mp (by rw [g_l1]; omega)
      obtain rfl : p3 = 4 := Int32.toInt_inj.mp (by rw [g_l4]; omega)
      replace hP : va_P D vwCl [(h4, .inl (y 1, 1, .inr (.inl wf19585))), (h0, .inr (11, [.ref h5, .ref h6, .ref h7, .ref h8, .ref h9, .ref h10, .ref h11, .ref h12, .ref h13, .ref h14, .ref h15, .ref h16, .ref h17, .ref h18, .int wp19576, .int wp19577, .int wp19578, .int wp19579, .int wp19580])), (h11, .inr (5, [.ref h24, .ref h25, .ref h26, .ref h27, .int 0])), (h26, .inr (8, [.ref h29, .int wp19582])), (h29, .inl (y 1, 18, .inr (.inl (vp_updL (vp_updL (vp_updL (vp_updL wf19583 ((9 : Int32).toNatClampNeg) ((p2 - p2 / 10 * 10).toInt64)) ((8 : Int32).toNatClampNeg) (((p2 / 10) - (p2 / 10) / 10 * 10).toInt64)) ((7 : Int32).toNatClampNeg) ((((p2 / 10) / 10) - ((p2 / 10) / 10) / 10 * 10).toInt64)) ((6 : Int32).toNatClampNeg) (((((p2 / 10) / 10) / 10) - (((p2 / 10) / 10) / 10) / 10 * 10).toInt64))))), (h27, .inr (8, [.ref h32, .int wp19584])), (h32, .inl (y 1, 3, .inr (.inl (vp_updL (fun _ => 0) ((1 : Int32).toNatClampNeg) 4)))), (h24, .inr (8, [.ref h34, .int 0]))] H := hP
      replace hD : va_D A [(h4, .inl (y 1, 1, .inr (.inl wf19585))), (h0, .inr (11, [.ref h5, .ref h6, .ref h7, .ref h8, .ref h9, .ref h10, .ref h11, .ref h12, .ref h13, .ref h14, .ref h15, .ref h16, .ref h17, .ref h18, .int wp19576, .int wp19577, .int wp19578, .int wp19579, .int wp19580])), (h11, .inr (5, [.ref h24, .ref h25, .ref h26, .ref h27, .int 0])), (h26, .inr (8, [.ref h29, .int wp19582])), (h29, .inl (y 1, 18, .inr (.inl (vp_updL (vp_updL (vp_updL (vp_updL wf19583 ((9 : Int32).toNatClampNeg) ((p2 - p2 / 10 * 10).toInt64)) ((8 : Int32).toNatClampNeg) (((p2 / 10) - (p2 / 10) / 10 * 10).toInt64)) ((7 : Int32).toNatClampNeg) ((((p2 / 10) / 10) - ((p2 / 10) / 10) / 10 * 10).toInt64)) ((6 : Int32).toNatClampNeg) (((((p2 / 10) / 10) / 10) - (((p2 / 10) / 10) / 10) / 10 * 10).toInt64))))), (h27, .inr (8, [.ref h32, .int wp19584])), (h32, .inl (y 1, 3, .inr (.inl (vp_updL (fun _ => 0) ((1 : Int32).toNatClampNeg) 4)))), (h24, .inr (8, [.ref h34, .int 0]))] := hD
      refine lv_i2l (v := 1) hx hb dL_secret_10 (by decide +kernel) ?_
      refine va_last hx hb hK.1 hP hD hS 0 1 rfl rfl (by unfold vp_in; decide +kernel) dL_secret_11 ?_
      clear hP hD hS H locs
      refine fun H locs (hP : va_P D vwCl [(h4, .inl (y 1, 1, .inr (.inl (vp_updL wf19585 ((0 : Int32).toNatClampNeg) 1)))), (h0, .inr (11, [.ref h5, .ref h6, .ref h7, .ref h8, .ref h9, .ref h10, .ref h11, .ref h12, .ref h13, .ref h14, .ref h15, .ref h16, .ref h17, .ref h18, .int wp19576, .int wp19577, .int wp19578, .int wp19579, .int wp19580])), (h11, .inr (5, [.ref h24, .ref h25, .ref h26, .ref h27, .int 0])), (h26, .inr (8, [.ref h29, .int wp19582])), (h29, .inl (y 1, 18, .inr (.inl (vp_updL (vp_updL (vp_updL (vp_updL wf19583 ((9 : Int32).toNatClampNeg) ((p2 - p2 / 10 * 10).toInt64)) ((8 : Int32).toNatClampNeg) (((p2 / 10) - (p2 / 10) / 10 * 10).toInt64)) ((7 : Int32).toNatClampNeg) ((((p2 / 10) / 10) - ((p2 / 10) / 10) / 10 * 10).toInt64)) ((6 : Int32).toNatClampNeg) (((((p2 / 10) / 10) / 10) - (((p2 / 10) / 10) / 10) / 10 * 10).toInt64))))), (h27, .inr (8, [.ref h32, .int wp19584])), (h32, .inl (y 1, 3, .inr (.inl (vp_updL (fun _ => 0) ((1 : Int32).toNatClampNeg) 4)))), (h24, .inr (8, [.ref h34, .int 0]))] H) (hD : va_D A [(h4, .inl (y 1, 1, .inr (.inl (vp_updL wf19585 ((0 : Int32).toNatClampNeg) 1)))), (h0, .inr (11, [.ref h5, .ref h6, .ref h7, .ref h8, .ref h9, .ref h10, .ref h11, .ref h12, .ref h13, .ref h14, .ref h15, .ref h16, .ref h17, .ref h18, .int wp19576, .int wp19577, .int wp19578, .int wp19579, .int wp19580])), (h11, .inr (5, [.ref h24, .ref h25, .ref h26, .ref h27, .int 0])), (h26, .inr (8, [.ref h29, .int wp19582])), (h29, .inl (y 1, 18, .inr (.inl (vp_updL (vp_updL (vp_updL (vp_updL wf19583 ((9 : Int32).toNatClampNeg) ((p2 - p2 / 10 * 10).toInt64)) ((8 : Int32).toNatClampNeg) (((p2 / 10) - (p2 / 10) / 10 * 10).toInt64)) ((7 : Int32).toNatClampNeg) ((((p2 / 10) / 10) - ((p2 / 10) / 10) / 10 * 10).toInt64)) ((6 : Int32).toNatClampNeg) (((((p2 / 10) / 10) / 10) - (((p2 / 10) / 10) / 10) / 10 * 10).toInt64))))), (h27, .inr (8, [.ref h32, .int wp19584])), (h32, .inl (y 1, 3, .inr (.inl (vp_updL (fun _ => 0) ((1 : Int32).toNatClampNeg) 4)))), (h24, .inr (8, [.ref h34, .int 0]))]) hS => ?_
      refine lv_goto (tgt := 23) hx hb dL_secret_12 (by decide) ?_
      refine lv_iconst (v := 0) hx hb dL_secret_23 (by decide) ?_
      exact g_iret hx hb hr hlocks ⟨0, (vp_updL (vp_updL (vp_updL (vp_updL wf19583 ((9 : Int32).toNatClampNeg) ((p2 - p2 / 10 * 10).toInt64)) ((8 : Int32).toNatClampNeg) (((p2 / 10) - (p2 / 10) / 10 * 10).toInt64)) ((7 : Int32).toNatClampNeg) ((((p2 / 10) / 10) - ((p2 / 10) / 10) / 10 * 10).toInt64)) ((6 : Int32).toNatClampNeg) (((((p2 / 10) / 10) / 10) - (((p2 / 10) / 10) / 10) / 10 * 10).toInt64)), (vp_updL (fun _ => 0) ((1 : Int32).toNatClampNeg) 4), (vp_updL wf19585 ((0 : Int32).toNatClampNeg) 1)⟩ (hP.sub [1, 2, 3, 4, 5, 6, 7, 0] rfl) (hD.sub [1, 2, 3, 4, 5, 6, 7, 0] (by decide +kernel) rfl) hS rfl (Or.inr (Or.inr (Or.inr (Or.inr (Or.inr (Or.inr (Or.inr (Or.inr (Or.inr (Or.inr (Or.inr (Or.inr (Or.inr (Or.inr (Or.inr (Or.inr (Or.inr (Or.inr (Or.inr (Or.inr (Or.inr (Or.inl ⟨rfl, rfl, rfl, rfl, rfl, (by first | omega | (simp_all; done)), (by first | omega | (simp_all; done)), (by first | omega | (simp_all; done)), (by first | omega | (simp_all; done)), (by first | omega | (simp_all; done)), (by first | omega | (simp_all; done))⟩)))))))))))))))))))))) (Nat.le_of_ble_eq_true rfl) (Nat.le_of_ble_eq_true rfl) dL_secret_24
    ·
      obtain rfl : p1 = 2 := Int32.toInt_inj.mp (by rw [g_l2]; omega)
      obtain rfl : p3 = 4 := Int32.toInt_inj.mp (by rw [g_l4]; omega)
      replace hP : va_P D vwCl [(h4, .inl (y 1, 1, .inr (.inl wf19585))), (h0, .inr (11, [.ref h5, .ref h6, .ref h7, .ref h8, .ref h9, .ref h10, .ref h11, .ref h12, .ref h13, .ref h14, .ref h15, .ref h16, .ref h17, .ref h18, .int wp19576, .int wp19577, .int wp19578, .int wp19579, .int wp19580])), (h11, .inr (5, [.ref h24, .ref h25, .ref h26, .ref h27, .int 0])), (h26, .inr (8, [.ref h29, .int wp19582])), (h29, .inl (y 1, 18, .inr (.inl (vp_updL (vp_updL (vp_updL (vp_updL wf19583 ((15 : Int32).toNatClampNeg) ((p2 - p2 / 10 * 10).toInt64)) ((14 : Int32).toNatClampNeg) (((p2 / 10) - (p2 / 10) / 10 * 10).toInt64)) ((13 : Int32).toNatClampNeg) ((((p2 / 10) / 10) - ((p2 / 10) / 10) / 10 * 10).toInt64)) ((12 : Int32).toNatClampNeg) (((((p2 / 10) / 10) / 10) - (((p2 / 10) / 10) / 10) / 10 * 10).toInt64))))), (h27, .inr (8, [.ref h32, .int wp19584])), (h32, .inl (y 1, 3, .inr (.inl (vp_updL (fun _ => 0) ((2 : Int32).toNatClampNeg) 4)))), (h24, .inr (8, [.ref h34, .int 0]))] H := hP
      replace hD : va_D A [(h4, .inl (y 1, 1, .inr (.inl wf19585))), (h0, .inr (11, [.ref h5, .ref h6, .ref h7, .ref h8, .ref h9, .ref h10, .ref h11, .ref h12, .ref h13, .ref h14, .ref h15, .ref h16, .ref h17, .ref h18, .int wp19576, .int wp19577, .int wp19578, .int wp19579, .int wp19580])), (h11, .inr (5, [.ref h24, .ref h25, .ref h26, .ref h27, .int 0])), (h26, .inr (8, [.ref h29, .int wp19582])), (h29, .inl (y 1, 18, .inr (.inl (vp_updL (vp_updL (vp_updL (vp_updL wf19583 ((15 : Int32).toNatClampNeg) ((p2 - p2 / 10 * 10).toInt64)) ((14 : Int32).toNatClampNeg) (((p2 / 10) - (p2 / 10) / 10 * 10).toInt64)) ((13 : Int32).toNatClampNeg) ((((p2 / 10) / 10) - ((p2 / 10) / 10) / 10 * 10).toInt64)) ((12 : Int32).toNatClampNeg) (((((p2 / 10) / 10) / 10) - (((p2 / 10) / 10) / 10) / 10 * 10).toInt64))))), (h27, .inr (8, [.ref h32, .int wp19584])), (h32, .inl (y 1, 3, .inr (.inl (vp_updL (fun _ => 0) ((2 : Int32).toNatClampNeg) 4)))), (h24, .inr (8, [.ref h34, .int 0]))] := hD
      refine lv_i2l (v := 1) hx hb dL_secret_10 (by decide +kernel) ?_
      refine va_last hx hb hK.1 hP hD hS 0 1 rfl rfl (by unfold vp_in; decide +kernel) dL_secret_11 ?_
      clear hP hD hS H locs
      refine fun H locs (hP : va_P D vwCl [(h4, .inl (y 1, 1, .inr (.inl (vp_updL wf19585 ((0 : Int32).toNatClampNeg) 1)))), (h0, .inr (11, [.ref h5, .ref h6, .ref h7, .ref h8, .ref h9, .ref h10, .ref h11, .ref h12, .ref h13, .ref h14, .ref h15, .ref h16, .ref h17, .ref h18, .int wp19576, .int wp19577, .int wp19578, .int wp19579, .int wp19580])), (h11, .inr (5, [.ref h24, .ref h25, .ref h26, .ref h27, .int 0])), (h26, .inr (8, [.ref h29, .int wp19582])), (h29, .inl (y 1, 18, .inr (.inl (vp_updL (vp_updL (vp_updL (vp_updL wf19583 ((15 : Int32).toNatClampNeg) ((p2 - p2 / 10 * 10).toInt64)) ((14 : Int32).toNatClampNeg) (((p2 / 10) - (p2 / 10) / 10 * 10).toInt64)) ((13 : Int32).toNatClampNeg) ((((p2 / 10) / 10) - ((p2 / 10) / 10) / 10 * 10).toInt64)) ((12 : Int32).toNatClampNeg) (((((p2 / 10) / 10) / 10) - (((p2 / 10) / 10) / 10) / 10 * 10).toInt64))))), (h27, .inr (8, [.ref h32, .int wp19584])), (h32, .inl (y 1, 3, .inr (.inl (vp_updL (fun _ => 0) ((2 : Int32).toNatClampNeg) 4)))), (h24, .inr (8, [.ref h34, .int 0]))] H) (hD : va_D A [(h4, .inl (y 1, 1, .inr (.inl (vp_updL wf19585 ((0 : Int32).toNatClampNeg) 1)))), (h0, .inr (11, [.ref h5, .ref h6, .ref h7, .ref h8, .ref h9, .ref h10, .ref h11, .ref h12, .ref h13, .ref h14, .ref h15, .ref h16, .ref h17, .ref h18, .int wp19576, .int wp19577, .int wp19578, .int wp19579, .int wp19580])), (h11, .inr (5, [.ref h24, .ref h25, .ref h26, .ref h27, .int 0])), (h26, .inr (8, [.ref h29, .int wp19582])), (h29, .inl (y 1, 18, .inr (.inl (vp_updL (vp_updL (vp_updL (vp_updL wf19583 ((15 : Int32).toNatClampNeg) ((p2 - p2 / 10 * 10).toInt64)) ((14 : Int32).toNatClampNeg) (((p2 / 10) - (p2 / 10) / 10 * 10).toInt64)) ((13 : Int32).toNatClampNeg) ((((p2 / 10) / 10) - ((p2 / 10) / 10) / 10 * 10).toInt64)) ((12 : Int32).toNatClampNeg) (((((p2 / 10) / 10) / 10) - (((p2 / 10) / 10) / 10) / 10 * 10).toInt64))))), (h27, .inr (8, [.ref h32, .int wp19584])), (h32, .inl (y 1, 3, .inr (.inl (vp_updL (fun _ => 0) ((2 : Int32).toNatClampNeg) 4)))), (h24, .inr (8, [.ref h34, .int 0]))]) hS => ?_
      refine lv_goto (tgt := 23) hx hb dL_secret_12 (by decide) ?_
      refine lv_iconst (v := 0) hx hb dL_secret_23 (by decide) ?_
      exact g_iret hx hb hr hlocks ⟨0, (vp_updL (vp_updL (vp_updL (vp_updL wf19583 ((15 : Int32).toNatClampNeg) ((p2 - p2 / 10 * 10).toInt64)) ((14 : Int32).toNatClampNeg) (((p2 / 10) - (p2 / 10) / 10 * 10).toInt64)) ((13 : Int32).toNatClampNeg) ((((p2 / 10) / 10) - ((p2 / 10) / 10) / 10 * 10).toInt64)) ((12 : Int32).toNatClampNeg) (((((p2 / 10) / 10) / 10) - (((p2 / 10) / 10) / 10) / 10 * 10).toInt64)), (vp_updL (fun _ => 0) ((2 : Int32).toNatClampNeg) 4), (vp_updL wf19585 ((0 : Int32).toNatClampNeg) 1)⟩ (hP.sub [1, 2, 3, 4, 5, 6, 7, 0] rfl) (hD.sub [1, 2, 3, 4, 5, 6, 7, 0] (by decide +kernel) rfl) hS rfl (Or.inr (Or.inr (Or.inr (Or.inr (Or.inr (Or.inr (Or.inr (Or.inr (Or.inr (Or.inr (Or.inr (Or.inr (Or.inr (Or.inr (Or.inr (Or.inr (Or.inr (Or.inr (Or.inr (Or.inr (Or.inr (Or.inr (Or.inl ⟨rfl, rfl, rfl, rfl, rfl, (by first | omega | (simp_all; done)), (by first | omega | (simp_all; done)), (by first | omega | (simp_all; done)), (by first | omega | (simp_all; done)), (by first | omega | (simp_all; done)), (by first | omega | (simp_all; done))⟩))))))))))))))))))))))) (Nat.le_of_ble_eq_true rfl) (Nat.le_of_ble_eq_true rfl) dL_secret_24
    ·
      obtain rfl : p1 = 0 := Int32.toInt_inj.mp (by rw [g_l0]; omega)
      obtain rfl : p3 = 5 := Int32.toInt_inj.mp (by rw [g_l5]; omega)
      replace hP : va_P D vwCl [(h4, .inl (y 1, 1, .inr (.inl wf19585))), (h0, .inr (11, [.ref h5, .ref h6, .ref h7, .ref h8, .ref h9, .ref h10, .ref h11, .ref h12, .ref h13, .ref h14, .ref h15, .ref h16, .ref h17, .ref h18, .int wp19576, .int wp19577, .int wp19578, .int wp19579, .int wp19580])), (h11, .inr (5, [.ref h24, .ref h25, .ref h26, .ref h27, .int 0])), (h26, .inr (8, [.ref h29, .int wp19582])), (h29, .inl (y 1, 18, .inr (.inl (vp_updL (vp_updL (vp_updL (vp_updL (vp_updL wf19583 ((4 : Int32).toNatClampNeg) ((p2 - p2 / 10 * 10).toInt64)) ((3 : Int32).toNatClampNeg) (((p2 / 10) - (p2 / 10) / 10 * 10).toInt64)) ((2 : Int32).toNatClampNeg) ((((p2 / 10) / 10) - ((p2 / 10) / 10) / 10 * 10).toInt64)) ((1 : Int32).toNatClampNeg) (((((p2 / 10) / 10) / 10) - (((p2 / 10) / 10) / 10) / 10 * 10).toInt64)) ((0 : Int32).toNatClampNeg) ((((((p2 / 10) / 10) / 10) / 10) - ((((p2 / 10) / 10) / 10) / 10) / 10 * 10).toInt64))))), (h27, .inr (8, [.ref h32, .int wp19584])), (h32, .inl (y 1, 3, .inr (.inl (vp_updL (fun _ => 0) ((0 : Int32).toNatClampNeg) 5)))), (h24, .inr (8, [.ref h34, .int 0]))] H := hP
      replace hD : va_D A [(h4, .inl (y 1, 1, .inr (.inl wf19585))), (h0, .inr (11, [.ref h5, .ref h6, .ref h7, .ref h8, .ref h9, .ref h10, .ref h11, .ref h12, .ref h13, .ref h14, .ref h15, .ref h16, .ref h17, .ref h18, .int wp19576, .int wp19577, .int wp19578, .int wp19579, .int wp19580])), (h11, .inr (5, [.ref h24, .ref h25, .ref h26, .ref h27, .int 0])), (h26, .inr (8, [.ref h29, .int wp19582])), (h29, .inl (y 1, 18, .inr (.inl (vp_updL (vp_updL (vp_updL (vp_updL (vp_updL wf19583 ((4 : Int32).toNatClampNeg) ((p2 - p2 / 10 * 10).toInt64)) ((3 : Int32).toNatClampNeg) (((p2 / 10) - (p2 / 10) / 10 * 10).toInt64)) ((2 : Int32).toNatClampNeg) ((((p2 / 10) / 10) - ((p2 / 10) / 10) / 10 * 10).toInt64)) ((1 : Int32).toNatClampNeg) (((((p2 / 10) / 10) / 10) - (((p2 / 10) / 10) / 10) / 10 * 10).toInt64)) ((0 : Int32).toNatClampNeg) ((((((p2 / 10) / 10) / 10) / 10) - ((((p2 / 10) / 10) / 10) / 10) / 10 * 10).toInt64))))), (h27, .inr (8, [.ref h32, .int wp19584])), (h32, .inl (y 1, 3, .inr (.inl (vp_updL (fun _ => 0) ((0 : Int32).toNatClampNeg) 5)))), (h24, .inr (8, [.ref h34, .int 0]))] := hD
      refine lv_i2l (v := 1) hx hb dL_secret_10 (by decide +kernel) ?_
      refine va_last hx hb hK.1 hP hD hS 0 1 rfl rfl (by unfold vp_in; decide +kernel) dL_secret_11 ?_
      clear hP hD hS H locs
      refine fun H locs (hP : va_P D vwCl [(h4, .inl (y 1, 1, .inr (.inl (vp_updL wf19585 ((0 : Int32).toNatClampNeg) 1)))), (h0, .inr (11, [.ref h5, .ref h6, .ref h7, .ref h8, .ref h9, .ref h10, .ref h11, .ref h12, .ref h13, .ref h14, .ref h15, .ref h16, .ref h17, .ref h18, .int wp19576, .int wp19577, .int wp19578, .int wp19579, .int wp19580])), (h11, .inr (5, [.ref h24, .ref h25, .ref h26, .ref h27, .int 0])), (h26, .inr (8, [.ref h29, .int wp19582])), (h29, .inl (y 1, 18, .inr (.inl (vp_updL (vp_updL (vp_updL (vp_updL (vp_updL wf19583 ((4 : Int32).toNatClampNeg) ((p2 - p2 / 10 * 10).toInt64)) ((3 : Int32).toNatClampNeg) (((p2 / 10) - (p2 / 10) / 10 * 10).toInt64)) ((2 : Int32).toNatClampNeg) ((((p2 / 10) / 10) - ((p2 / 10) / 10) / 10 * 10).toInt64)) ((1 : Int32).toNatClampNeg) (((((p2 / 10) / 10) / 10) - (((p2 / 10) / 10) / 10) / 10 * 10).toInt64)) ((0 : Int32).toNatClampNeg) ((((((p2 / 10) / 10) / 10) / 10) - ((((p2 / 10) / 10) / 10) / 10) / 10 * 10).toInt64))))), (h27, .inr (8, [.ref h32, .int wp19584])), (h32, .inl (y 1, 3, .inr (.inl (vp_updL (fun _ => 0) ((0 : Int32).toNatClampNeg) 5)))), (h24, .inr (8, [.ref h34, .int 0]))] H) (hD : va_D A [(h4, .inl (y 1, 1, .inr (.inl (vp_updL wf19585 ((0 : Int32).toNatClampNeg) 1)))), (h0, .inr (11, [.ref h5, .ref h6, .ref h7, .ref h8, .ref h9, .ref h10, .ref h11, .ref h12, .ref h13, .ref h14, .ref h15, .ref h16, .ref h17, .ref h18, .int wp19576, .int wp19577, .int wp19578, .int wp19579, .int wp19580])), (h11, .inr (5, [.ref h24, .ref h25, .ref h26, .ref h27, .int 0])), (h26, .inr (8, [.ref h29, .int wp19582])), (h29, .inl (y 1, 18, .inr (.inl (vp_updL (vp_updL (vp_updL (vp_updL (vp_updL wf19583 ((4 : Int32).toNatClampNeg) ((p2 - p2 / 10 * 10).toInt64)) ((3 : Int32).toNatClampNeg) (((p2 / 10) - (p2 / 10) / 10 * 10).toInt64)) ((2 : Int32).toNatClampNeg) ((((p2 / 10) / 10) - ((p2 / 10) / 10) / 10 * 10).toInt64)) ((1 : Int32).toNatClampNeg) (((((p2 / 10) / 10) / 10) - (((p2 / 10) / 10) / 10) / 10 * 10).toInt64)) ((0 : Int32).toNatClampNeg) ((((((p2 / 10) / 10) / 10) / 10) - ((((p2 / 10) / 10) / 10) / 10) / 10 * 10).toInt64))))), (h27, .inr (8, [.ref h32, .int wp19584])), (h32, .inl (y 1, 3, .inr (.inl (vp_updL (fun _ => 0) ((0 : Int32).toNatClampNeg) 5)))), (h24, .inr (8, [.ref h34, .int 0]))]) hS => ?_
      refine lv_goto (tgt := 23) hx hb dL_secret_12 (by decide) ?_
      refine lv_iconst (v := 0) hx hb dL_secret_23 (by decide) ?_
      exact g_iret hx hb hr hlocks ⟨0, (vp_updL (vp_updL (vp_updL (vp_updL (vp_updL wf19583 ((4 : Int32).toNatClampNeg) ((p2 - p2 / 10 * 10).toInt64)) ((3 : Int32).toNatClampNeg) (((p2 / 10) - (p2 / 10) / 10 * 10).toInt64)) ((2 : Int32).toNatClampNeg) ((((p2 / 10) / 10) - ((p2 / 10) / 10) / 10 * 10).toInt64)) ((1 : Int32).toNatClampNeg) (((((p2 / 10) / 10) / 10) - (((p2 / 10) / 10) / 10) / 10 * 10).toInt64)) ((0 : Int32).toNatClampNeg) ((((((p2 / 10) / 10) / 10) / 10) - ((((p2 / 10) / 10) / 10) / 10) / 10 * 10).toInt64)), (vp_updL (fun _ => 0) ((0 : Int32).toNatClampNeg) 5), (vp_updL wf19585 ((0 : Int32).toNatClampNeg) 1)⟩ (hP.sub [1, 2, 3, 4, 5, 6, 7, 0] rfl) (hD.sub [1, 2, 3, 4, 5, 6, 7, 0] (by decide +kernel) rfl) hS rfl (Or.inr (Or.inr (Or.inr (Or.inr (Or.inr (Or.inr (Or.inr (Or.inr (Or.inr (Or.inr (Or.inr (Or.inr (Or.inr (Or.inr (Or.inr (Or.inr (Or.inr (Or.inr (Or.inr (Or.inr (Or.inr (Or.inr (Or.inr (Or.inl ⟨rfl, rfl, rfl, rfl, rfl, (by first | omega | (simp_all; done)), (by first | omega | (simp_all; done)), (by first | omega | (simp_all; done)), (by first | omega | (simp_all; done)), (by first | omega | (simp_all; done)), (by first | omega | (simp_all; done))⟩)))))))))))))))))))))))) (Nat.le_of_ble_eq_true rfl) (Nat.le_of_ble_eq_true rfl) dL_secret_24
    ·
      obtain rfl : p1 = 1 := Int32.toInt_inj.mp (by rw [g_l1]; omega)
      obtain rfl : p3 = 5 := Int32.toInt_inj.mp (by rw [g_l5]; omega)
      replace hP : va_P D vwCl [(h4, .inl (y 1, 1, .inr (.inl wf19585))), (h0, .inr (11, [.ref h5, .ref h6, .ref h7, .ref h8, .ref h9, .ref h10, .ref h11, .ref h12, .ref h13, .ref h14, .ref h15, .ref h16, .ref h17, .ref h18, .int wp19576, .int wp19577, .int wp19578, .int wp19579, .int wp19580])), (h11, .inr (5, [.ref h24, .ref h25, .ref h26, .ref h27, .int 0])), (h26, .inr (8, [.ref h29, .int wp19582])), (h29, .inl (y 1, 18, .inr (.inl (vp_updL (vp_updL (vp_updL (vp_updL (vp_updL wf19583 ((10 : Int32).toNatClampNeg) ((p2 - p2 / 10 * 10).toInt64)) ((9 : Int32).toNatClampNeg) (((p2 / 10) - (p2 / 10) / 10 * 10).toInt64)) ((8 : Int32).toNatClampNeg) ((((p2 / 10) / 10) - ((p2 / 10) / 10) / 10 * 10).toInt64)) ((7 : Int32).toNatClampNeg) (((((p2 / 10) / 10) / 10) - (((p2 / 10) / 10) / 10) / 10 * 10).toInt64)) ((6 : Int32).toNatClampNeg) ((((((p2 / 10) / 10) / 10) / 10) - ((((p2 / 10) / 10) / 10) / 10) / 10 * 10).toInt64))))), (h27, .inr (8, [.ref h32, .int wp19584])), (h32, .inl (y 1, 3, .inr (.inl (vp_updL (fun _ => 0) ((1 : Int32).toNatClampNeg) 5)))), (h24, .inr (8, [.ref h34, .int 0]))] H := hP
      replace hD : va_D A [(h4, .inl (y 1, 1, .inr (.inl wf19585))), (h0, .inr (11, [.ref h5, .ref h6, .ref h7, .ref h8, .ref h9, .ref h10, .ref h11, .ref h12, .ref h13, .ref h14, .ref h15, .ref h16, .ref h17, .ref h18, .int wp19576, .int wp19577, .int wp19578, .int wp19579, .int wp19580])), (h11, .inr (5, [.ref h24, .ref h25, .ref h26, .ref h27, .int 0])), (h26, .inr (8, [.ref h29, .int wp19582])), (h29, .inl (y 1, 18, .inr (.inl (vp_updL (vp_updL (vp_updL (vp_updL (vp_updL wf19583 ((10 : Int32).toNatClampNeg) ((p2 - p2 / 10 * 10).toInt64)) ((9 : Int32).toNatClampNeg) (((p2 / 10) - (p2 / 10) / 10 * 10).toInt64)) ((8 : Int32).toNatClampNeg) ((((p2 / 10) / 10) - ((p2 / 10) / 10) / 10 * 10).toInt64)) ((7 : Int32).toNatClampNeg) (((((p2 / 10) / 10) / 10) - (((p2 / 10) / 10) / 10) / 10 * 10).toInt64)) ((6 : Int32).toNatClampNeg) ((((((p2 / 10) / 10) / 10) / 10) - ((((p2 / 10) / 10) / 10) / 10) / 10 * 10).toInt64))))), (h27, .inr (8, [.ref h32, .int wp19584])), (h32, .inl (y 1, 3, .inr (.inl (vp_updL (fun _ => 0) ((1 : Int32).toNatClampNeg) 5)))), (h24, .inr (8, [.ref h34, .int 0]))] := hD
      refine lv_i2l (v := 1) hx hb dL_secret_10 (by decide +kernel) ?_
      refine va_last hx hb hK.1 hP hD hS 0 1 rfl rfl (by unfold vp_in; decide +kernel) dL_secret_11 ?_
      clear hP hD hS H locs
      refine fun H locs (hP : va_P D vwCl [(h4, .inl (y 1, 1, .inr (.inl (vp_updL wf19585 ((0 : Int32).toNatClampNeg) 1)))), (h0, .inr (11, [.ref h5, .ref h6, .ref h7, .ref h8, .ref h9, .ref h10, .ref h11, .ref h12, .ref h13, .ref h14, .ref h15, .ref h16, .ref h17, .ref h18, .int wp19576, .int wp19577, .int wp19578, .int wp19579, .int wp19580])), (h11, .inr (5, [.ref h24, .ref h25, .ref h26, .ref h27, .int 0])), (h26, .inr (8, [.ref h29, .int wp19582])), (h29, .inl (y 1, 18, .inr (.inl (vp_updL (vp_updL (vp_updL (vp_updL (vp_updL wf19583 ((10 : Int32).toNatClampNeg) ((p2 - p2 / 10 * 10).toInt64)) ((9 : Int32).toNatClampNeg) (((p2 / 10) - (p2 / 10) / 10 * 10).toInt64)) ((8 : Int32).toNatClampNeg) ((((p2 / 10) / 10) - ((p2 / 10) / 10) / 10 * 10).toInt64)) ((7 : Int32).toNatClampNeg) (((((p2 / 10) / 10) / 10) - (((p2 / 10) / 10) / 10) / 10 * 10).toInt64)) ((6 : Int32).toNatClampNeg) ((((((p2 / 10) / 10) / 10) / 10) - ((((p2 / 10) / 10) / 10) / 10) / 10 * 10).toInt64))))), (h27, .inr (8, [.ref h32, .int wp19584])), (h32, .inl (y 1, 3, .inr (.inl (vp_updL (fun _ => 0) ((1 : Int32).toNatClampNeg) 5)))), (h24, .inr (8, [.ref h34, .int 0]))] H) (hD : va_D A [(h4, .inl (y 1, 1, .inr (.inl (vp_updL wf19585 ((0 : Int32).toNatClampNeg) 1)))), (h0, .inr (11, [.ref h5, .ref h6, .ref h7, .ref h8, .ref h9, .ref h10, .ref h11, .ref h12, .ref h13, .ref h14, .ref h15, .ref h16, .ref h17, .ref h18, .int wp19576, .int wp19577, .int wp19578, .int wp19579, .int wp19580])), (h11, .inr (5, [.ref h24, .ref h25, .ref h26, .ref h27, .int 0])), (h26, .inr (8, [.ref h29, .int wp19582])), (h29, .inl (y 1, 18, .inr (.inl (vp_updL (vp_updL (vp_updL (vp_updL (vp_updL wf19583 ((10 : Int32).toNatClampNeg) ((p2 - p2 / 10 * 10).toInt64)) ((9 : Int32).toNatClampNeg) (((p2 / 10) - (p2 / 10) / 10 * 10).toInt64)) ((8 : Int32).toNatClampNeg) ((((p2 / 10) / 10) - ((p2 / 10) / 10) / 10 * 10).toInt64)) ((7 : Int32).toNatClampNeg) (((((p2 / 10) / 10) / 10) - (((p2 / 10) / 10) / 10) / 10 * 10).toInt64)) ((6 : Int32).toNatClampNeg) ((((((p2 / 10) / 10) / 10) / 10) - ((((p2 / 10) / 10) / 10) / 10) / 10 * 10).toInt64))))), (h27, .inr (8, [.ref h32, .int wp19584])), (h32, .inl (y 1, 3, .inr (.inl (vp_updL (fun _ => 0) ((1 : Int32).toNatClampNeg) 5)))), (h24, .inr (8, [.ref h34, .int 0]))]) hS => ?_
      refine lv_goto (tgt := 23) hx hb dL_secret_12 (by decide) ?_
      refine lv_iconst (v := 0) hx hb dL_secret_23 (by decide) ?_
      exact g_iret hx hb hr hlocks ⟨0, (vp_updL (vp_updL (vp_updL (vp_updL (vp_updL wf19583 ((10 : Int32).toNatClampNeg) ((p2 - p2 / 10 * 10).toInt64)) ((9 : Int32).toNatClampNeg) (((p2 / 10) - (p2 / 10) / 10 * 10).toInt64)) ((8 : Int32).toNatClampNeg) ((((p2 / 10) / 10) - ((p2 / 10) / 10) / 10 * 10).toInt64)) ((7 : Int32).toNatClampNeg) (((((p2 / 10) / 10) / 10) - (((p2 / 10) / 10) / 10) / 10 * 10).toInt64)) ((6 : Int32).toNatClampNeg) ((((((p2 / 10) / 10) / 10) / 10) - ((((p2 / 10) / 10) / 10) / 10) / 10 * 10).toInt64)), (vp_updL (fun _ => 0) ((1 : Int32).toNatClampNeg) 5), (vp_updL wf19585 ((0 : Int32).toNatClampNeg) 1)⟩ (hP.sub [1, 2, 3, 4, 5, 6, 7, 0] rfl) (hD.sub [1, 2, 3, 4, 5, 6, 7, 0] (by decide +kernel) rfl) hS rfl (Or.inr (Or.inr (Or.inr (Or.inr (Or.inr (Or.inr (Or.inr (Or.inr (Or.inr (Or.inr (Or.inr (Or.inr (Or.inr (Or.inr (Or.inr (Or.inr (Or.inr (Or.inr (Or.inr (Or.inr (Or.inr (Or.inr (Or.inr (Or.inr (Or.inl ⟨rfl, rfl, rfl, rfl, rfl, (by first | omega | (simp_all; done)), (by first | omega | (simp_all; done)), (by first | omega | (simp_all; done)), (by first | omega | (simp_all; done)), (by first | omega | (simp_all; done)), (by first | omega | (simp_all; done))⟩))))))))))))))))))))))))) (Nat.le_of_ble_eq_true rfl) (Nat.le_of_ble_eq_true rfl) dL_secret_24
    ·
      obtain rfl : p1 = 2 := Int32.toInt_inj.mp (by rw [g_l2]; omega)
      obtain rfl : p3 = 5 := Int32.toInt_inj.mp (by rw [g_l5]; omega)
      replace hP : va_P D vwCl [(h4, .inl (y 1, 1, .inr (.inl wf19585))), (h0, .inr (11, [.ref h5, .ref h6, .ref h7, .ref h8, .ref h9, .ref h10, .ref h11, .ref h12, .ref h13, .ref h14, .ref h15, .ref h16, .ref h17, .ref h18, .int wp19576, .int wp19577, .int wp19578, .int wp19579, .int wp19580])), (h11, .inr (5, [.ref h24, .ref h25, .ref h26, .ref h27, .int 0])), (h26, .inr (8, [.ref h29, .int wp19582])), (h29, .inl (y 1, 18, .inr (.inl (vp_updL (vp_updL (vp_updL (vp_updL (vp_updL wf19583 ((16 : Int32).toNatClampNeg) ((p2 - p2 / 10 * 10).toInt64)) ((15 : Int32).toNatClampNeg) (((p2 / 10) - (p2 / 10) / 10 * 10).toInt64)) ((14 : Int32).toNatClampNeg) ((((p2 / 10) / 10) - ((p2 / 10) / 10) / 10 * 10).toInt64)) ((13 : Int32).toNatClampNeg) (((((p2 / 10) / 10) / 10) - (((p2 / 10) / 10) / 10) / 10 * 10).toInt64)) ((12 : Int32).toNatClampNeg) ((((((p2 / 10) / 10) / 10) / 10) - ((((p2 / 10) / 10) / 10) / 10) / 10 * 10).toInt64))))), (h27, .inr (8, [.ref h32, .int wp19584])), (h32, .inl (y 1, 3, .inr (.inl (vp_updL (fun _ => 0) ((2 : Int32).toNatClampNeg) 5)))), (h24, .inr (8, [.ref h34, .int 0]))] H := hP
      replace hD : va_D A [(h4, .inl (y 1, 1, .inr (.inl wf19585))), (h0, .inr (11, [.ref h5, .ref h6, .ref h7, .ref h8, .ref h9, .ref h10, .ref h11, .ref h12, .ref h13, .ref h14, .ref h15, .ref h16, .ref h17, .ref h18, .int wp19576, .int wp19577, .int wp19578, .int wp19579, .int wp19580])), (h11, .inr (5, [.ref h24, .ref h25, .ref h26, .ref h27, .int 0])), (h26, .inr (8, [.ref h29, .int wp19582])), (h29, .inl (y 1, 18, .inr (.inl (vp_updL (vp_updL (vp_updL (vp_updL (vp_updL wf19583 ((16 : Int32).toNatClampNeg) ((p2 - p2 / 10 * 10).toInt64)) ((15 : Int32).toNatClampNeg) (((p2 / 10) - (p2 / 10) / 10 * 10).toInt64)) ((14 : Int32).toNatClampNeg) ((((p2 / 10) / 10) - ((p2 / 10) / 10) / 10 * 10).toInt64)) ((13 : Int32).toNatClampNeg) (((((p2 / 10) / 10) / 10) - (((p2 / 10) / 10) / 10) / 10 * 10).toInt64)) ((12 : Int32).toNatClampNeg) ((((((p2 / 10) / 10) / 10) / 10) - ((((p2 / 10) / 10) / 10) / 10) / 10 * 10).toInt64))))), (h27, .inr (8, [.ref h32, .int wp19584])), (h32, .inl (y 1, 3, .inr (.inl (vp_updL (fun _ => 0) ((2 : Int32).toNatClampNeg) 5)))), (h24, .inr (8, [.ref h34, .int 0]))] := hD
      refine lv_i2l (v := 1) hx hb dL_secret_10 (by decide +kernel) ?_
      refine va_last hx hb hK.1 hP hD hS 0 1 rfl rfl (by unfold vp_in; decide +kernel) dL_secret_11 ?_
      clear hP hD hS H locs
      refine fun H locs (hP : va_P D vwCl [(h4, .inl (y 1, 1, .inr (.inl (vp_updL wf19585 ((0 : Int32).toNatClampNeg) 1)))), (h0, .inr (11, [.ref h5, .ref h6, .ref h7, .ref h8, .ref h9, .ref h10, .ref h11, .ref h12, .ref h13, .ref h14, .ref h15, .ref h16, .ref h17, .ref h18, .int wp19576, .int wp19577, .int wp19578, .int wp19579, .int wp19580])), (h11, .inr (5, [.ref h24, .ref h25, .ref h26, .ref h27, .int 0])), (h26, .inr (8, [.ref h29, .int wp19582])), (h29, .inl (y 1, 18, .inr (.inl (vp_updL (vp_updL (vp_updL (vp_updL (vp_updL wf19583 ((16 : Int32).toNatClampNeg) ((p2 - p2 / 10 * 10).toInt64)) ((15 : Int32).toNatClampNeg) (((p2 / 10) - (p2 / 10) / 10 * 10).toInt64)) ((14 : Int32).toNatClampNeg) ((((p2 / 10) / 10) - ((p2 / 10) / 10) / 10 * 10).toInt64)) ((13 : Int32).toNatClampNeg) (((((p2 / 10) / 10) / 10) - (((p2 / 10) / 10) / 10) / 10 * 10).toInt64)) ((12 : Int32).toNatClampNeg) ((((((p2 / 10) / 10) / 10) / 10) - ((((p2 / 10) / 10) / 10) / 10) / 10 * 10).toInt64))))), (h27, .inr (8, [.ref h32, .int wp19584])), (h32, .inl (y 1, 3, .inr (.inl (vp_updL (fun _ => 0) ((2 : Int32).toNatClampNeg) 5)))), (h24, .inr (8, [.ref h34, .int 0]))] H) (hD : va_D A [(h4, .inl (y 1, 1, .inr (.inl (vp_updL wf19585 ((0 : Int32).toNatClampNeg) 1)))), (h0, .inr (11, [.ref h5, .ref h6, .ref h7, .ref h8, .ref h9, .ref h10, .ref h11, .ref h12, .ref h13, .ref h14, .ref h15, .ref h16, .ref h17, .ref h18, .int wp19576, .int wp19577, .int wp19578, .int wp19579, .int wp19580])), (h11, .inr (5, [.ref h24, .ref h25, .ref h26, .ref h27, .int 0])), (h26, .inr (8, [.ref h29, .int wp19582])), (h29, .inl (y 1, 18, .inr (.inl (vp_updL (vp_updL (vp_updL (vp_updL (vp_updL wf19583 ((16 : Int32).toNatClampNeg) ((p2 - p2 / 10 * 10).toInt64)) ((15 : Int32).toNatClampNeg) (((p2 / 10) - (p2 / 10) / 10 * 10).toInt64)) ((14 : Int32).toNatClampNeg) ((((p2 / 10) / 10) - ((p2 / 10) / 10) / 10 * 10).toInt64)) ((13 : Int32).toNatClampNeg) (((((p2 / 10) / 10) / 10) - (((p2 / 10) / 10) / 10) / 10 * 10).toInt64)) ((12 : Int32).toNatClampNeg) ((((((p2 / 10) / 10) / 10) / 10) - ((((p2 / 10) / 10) / 10) / 10) / 10 * 10).toInt64))))), (h27, .inr (8, [.ref h32, .int wp19584])), (h32, .inl (y 1, 3, .inr (.inl (vp_updL (fun _ => 0) ((2 : Int32).toNatClampNeg) 5)))), (h24, .inr (8, [.ref h34, .int 0]))]) hS => ?_
      refine lv_goto (tgt := 23) hx hb dL_secret_12 (by decide) ?_
      refine lv_iconst (v := 0) hx hb dL_secret_23 (by decide) ?_
      exact g_iret hx hb hr hlocks ⟨0, (vp_updL (vp_updL (vp_updL (vp_updL (vp_updL wf19583 ((16 : Int32).toNatClampNeg) ((p2 - p2 / 10 * 10).toInt64)) ((15 : Int32).toNatClampNeg) (((p2 / 10) - (p2 / 10) / 10 * 10).toInt64)) ((14 : Int32).toNatClampNeg) ((((p2 / 10) / 10) - ((p2 / 10) / 10) / 10 * 10).toInt64)) ((13 : Int32).toNatClampNeg) (((((p2 / 10) / 10) / 10) - (((p2 / 10) / 10) / 10) / 10 * 10).toInt64)) ((12 : Int32).toNatClampNeg) ((((((p2 / 10) / 10) / 10) / 10) - ((((p2 / 10) / 10) / 10) / 10) / 10 * 10).toInt64)), (vp_updL (fun _ => 0) ((2 : Int32).toNatClampNeg) 5), (vp_updL wf19585 ((0 : Int32).toNatClampNeg) 1)⟩ (hP.sub [1, 2, 3, 4, 5, 6, 7, 0] rfl) (hD.sub [1, 2, 3, 4, 5, 6, 7, 0] (by decide +kernel) rfl) hS rfl (Or.inr (Or.inr (Or.inr (Or.inr (Or.inr (Or.inr (Or.inr (Or.inr (Or.inr (Or.inr (Or.inr (Or.inr (Or.inr (Or.inr (Or.inr (Or.inr (Or.inr (Or.inr (Or.inr (Or.inr (Or.inr (Or.inr (Or.inr (Or.inr (Or.inr (Or.inl ⟨rfl, rfl, rfl, rfl, rfl, (by first | omega | (simp_all; done)), (by first | omega | (simp_all; done)), (by first | omega | (simp_all; done)), (by first | omega | (simp_all; done)), (by first | omega | (simp_all; done)), (by first | omega | (simp_all; done))⟩)))))))))))))))))))))))))) (Nat.le_of_ble_eq_true rfl) (Nat.le_of_ble_eq_true rfl) dL_secret_24
    ·
      obtain rfl : p1 = 0 := Int32.toInt_inj.mp (by rw [g_l0]; omega)
      obtain rfl : p3 = 6 := Int32.toInt_inj.mp (by rw [g_l6]; omega)
      replace hP : va_P D vwCl [(h4, .inl (y 1, 1, .inr (.inl wf19585))), (h0, .inr (11, [.ref h5, .ref h6, .ref h7, .ref h8, .ref h9, .ref h10, .ref h11, .ref h12, .ref h13, .ref h14, .ref h15, .ref h16, .ref h17, .ref h18, .int wp19576, .int wp19577, .int wp19578, .int wp19579, .int wp19580])), (h11, .inr (5, [.ref h24, .ref h25, .ref h26, .ref h27, .int 0])), (h26, .inr (8, [.ref h29, .int wp19582])), (h29, .inl (y 1, 18, .inr (.inl (vp_updL (vp_updL (vp_updL (vp_updL (vp_updL (vp_updL wf19583 ((5 : Int32).toNatClampNeg) ((p2 - p2 / 10 * 10).toInt64)) ((4 : Int32).toNatClampNeg) (((p2 / 10) - (p2 / 10) / 10 * 10).toInt64)) ((3 : Int32).toNatClampNeg) ((((p2 / 10) / 10) - ((p2 / 10) / 10) / 10 * 10).toInt64)) ((2 : Int32).toNatClampNeg) (((((p2 / 10) / 10) / 10) - (((p2 / 10) / 10) / 10) / 10 * 10).toInt64)) ((1 : Int32).toNatClampNeg) ((((((p2 / 10) / 10) / 10) / 10) - ((((p2 / 10) / 10) / 10) / 10) / 10 * 10).toInt64)) ((0 : Int32).toNatClampNeg) (((((((p2 / 10) / 10) / 10) / 10) / 10) - (((((p2 / 10) / 10) / 10) / 10) / 10) / 10 * 10).toInt64))))), (h27, .inr (8, [.ref h32, .int wp19584])), (h32, .inl (y 1, 3, .inr (.inl (vp_updL (fun _ => 0) ((0 : Int32).toNatClampNeg) 6)))), (h24, .inr (8, [.ref h34, .int 0]))] H := hP
      replace hD : va_D A [(h4, .inl (y 1, 1, .inr (.inl wf19585))), (h0, .inr (11, [.ref h5, .ref h6, .ref h7, .ref h8, .ref h9, .ref h10, .ref h11, .ref h12, .ref h13, .ref h14, .ref h15, .ref h16, .ref h17, .ref h18, .int wp19576, .int wp19577, .int wp19578, .int wp19579, .int wp19580])), (h11, .inr (5, [.ref h24, .ref h25, .ref h26, .ref h27, .int 0])), (h26, .inr (8, [.ref h29, .int wp19582])), (h29, .inl (y 1, 18, .inr (.inl (vp_updL (vp_updL (vp_updL (vp_updL (vp_updL (vp_updL wf19583 ((5 : Int32).toNatClampNeg) ((p2 - p2 / 10 * 10).toInt64)) ((4 : Int32).toNatClampNeg) (((p2 / 10) - (p2 / 10) / 10 * 10).toInt64)) ((3 : Int32).toNatClampNeg) ((((p2 / 10) / 10) - ((p2 / 10) / 10) / 10 * 10).toInt64)) ((2 : Int32).toNatClampNeg) (((((p2 / 10) / 10) / 10) - (((p2 / 10) / 10) / 10) / 10 * 10).toInt64)) ((1 : Int32).toNatClampNeg) ((((((p2 / 10) / 10) / 10) / 10) - ((((p2 / 10) / 10) / 10) / 10) / 10 * 10).toInt64)) ((0 : Int32).toNatClampNeg) (((((((p2 / 10) / 10) / 10) / 10) / 10) - (((((p2 / 10) / 10) / 10) / 10) / 10) / 10 * 10).toInt64))))), (h27, .inr (8, [.ref h32, .int wp19584])), (h32, .inl (y 1, 3, .inr (.inl (vp_updL (fun _ => 0) ((0 : Int32).toNatClampNeg) 6)))), (h24, .inr (8, [.ref h34, .int 0]))] := hD
      refine lv_i2l (v := 1) hx hb dL_secret_10 (by decide +kernel) ?_
      refine va_last hx hb hK.1 hP hD hS 0 1 rfl rfl (by unfold vp_in; decide +kernel) dL_secret_11 ?_
      clear hP hD hS H locs
      refine fun H locs (hP : va_P D vwCl [(h4, .inl (y 1, 1, .inr (.inl (vp_updL wf19585 ((0 : Int32).toNatClampNeg) 1)))), (h0, .inr (11, [.ref h5, .ref h6, .ref h7, .ref h8, .ref h9, .ref h10, .ref h11, .ref h12, .ref h13, .ref h14, .ref h15, .ref h16, .ref h17, .ref h18, .int wp19576, .int wp19577, .int wp19578, .int wp19579, .int wp19580])), (h11, .inr (5, [.ref h24, .ref h25, .ref h26, .ref h27, .int 0])), (h26, .inr (8, [.ref h29, .int wp19582])), (h29, .inl (y 1, 18, .inr (.inl (vp_updL (vp_updL (vp_updL (vp_updL (vp_updL (vp_updL wf19583 ((5 : Int32).toNatClampNeg) ((p2 - p2 / 10 * 10).toInt64)) ((4 : Int32).toNatClampNeg) (((p2 / 10) - (p2 / 10) / 10 * 10).toInt64)) ((3 : Int32).toNatClampNeg) ((((p2 / 10) / 10) - ((p2 / 10) / 10) / 10 * 10).toInt64)) ((2 : Int32).toNatClampNeg) (((((p2 / 10) / 10) / 10) - (((p2 / 10) / 10) / 10) / 10 * 10).toInt64)) ((1 : Int32).toNatClampNeg) ((((((p2 / 10) / 10) / 10) / 10) - ((((p2 / 10) / 10) / 10) / 10) / 10 * 10).toInt64)) ((0 : Int32).toNatClampNeg) (((((((p2 / 10) / 10) / 10) / 10) / 10) - (((((p2 / 10) / 10) / 10) / 10) / 10) / 10 * 10).toInt64))))), (h27, .inr (8, [.ref h32, .int wp19584])), (h32, .inl (y 1, 3, .inr (.inl (vp_updL (fun _ => 0) ((0 : Int32).toNatClampNeg) 6)))), (h24, .inr (8, [.ref h34, .int 0]))] H) (hD : va_D A [(h4, .inl (y 1, 1, .inr (.inl (vp_updL wf19585 ((0 : Int32).toNatClampNeg) 1)))), (h0, .inr (11, [.ref h5, .ref h6, .ref h7, .ref h8, .ref h9, .ref h10, .ref h11, .ref h12, .ref h13, .ref h14, .ref h15, .ref h16, .ref h17, .ref h18, .int wp19576, .int wp19577, .int wp19578, .int wp19579, .int wp19580])), (h11, .inr (5, [.ref h24, .ref h25, .ref h26, .ref h27, .int 0])), (h26, .inr (8, [.ref h29, .int wp19582])), (h29, .inl (y 1, 18, .inr (.inl (vp_updL (vp_updL (vp_updL (vp_updL (vp_updL (vp_updL wf19583 ((5 : Int32).toNatClampNeg) ((p2 - p2 / 10 * 10).toInt64)) ((4 : Int32).toNatClampNeg) (((p2 / 10) - (p2 / 10) / 10 * 10).toInt64)) ((3 : Int32).toNatClampNeg) ((((p2 / 10) / 10) - ((p2 / 10) / 10) / 10 * 10).toInt64)) ((2 : Int32).toNatClampNeg) (((((p2 / 10) / 10) / 10) - (((p2 / 10) / 10) / 10) / 10 * 10).toInt64)) ((1 : Int32).toNatClampNeg) ((((((p2 / 10) / 10) / 10) / 10) - ((((p2 / 10) / 10) / 10) / 10) / 10 * 10).toInt64)) ((0 : Int32).toNatClampNeg) (((((((p2 / 10) / 10) / 10) / 10) / 10) - (((((p2 / 10) / 10) / 10) / 10) / 10) / 10 * 10).toInt64))))), (h27, .inr (8, [.ref h32, .int wp19584])), (h32, .inl (y 1, 3, .inr (.inl (vp_updL (fun _ => 0) ((0 : Int32).toNatClampNeg) 6)))), (h24, .inr (8, [.ref h34, .int 0]))]) hS => ?_
      refine lv_goto (tgt := 23) hx hb dL_secret_12 (by decide) ?_
      refine lv_iconst (v := 0) hx hb dL_secret_23 (by decide) ?_
      exact g_iret hx hb hr hlocks ⟨0, (vp_updL (vp_updL (vp_updL (vp_updL (vp_updL (vp_updL wf19583 ((5 : Int32).toNatClampNeg) ((p2 - p2 / 10 * 10).toInt64)) ((4 : Int32).toNatClampNeg) (((p2 / 10) - (p2 / 10) / 10 * 10).toInt64)) ((3 : Int32).toNatClampNeg) ((((p2 / 10) / 10) - ((p2 / 10) / 10) / 10 * 10).toInt64)) ((2 : Int32).toNatClampNeg) (((((p2 / 10) / 10) / 10) - (((p2 / 10) / 10) / 10) / 10 * 10).toInt64)) ((1 : Int32).toNatClampNeg) ((((((p2 / 10) / 10) / 10) / 10) - ((((p2 / 10) / 10) / 10) / 10) / 10 * 10).toInt64)) ((0 : Int32).toNatClampNeg) (((((((p2 / 10) / 10) / 10) / 10) / 10) - (((((p2 / 10) / 10) / 10) / 10) / 10) / 10 * 10).toInt64)), (vp_updL (fun _ => 0) ((0 : Int32).toNatClampNeg) 6), (vp_updL wf19585 ((0 : Int32).toNatClampNeg) 1)⟩ (hP.sub [1, 2, 3, 4, 5, 6, 7, 0] rfl) (hD.sub [1, 2, 3, 4, 5, 6, 7, 0] (by decide +kernel) rfl) hS rfl (Or.inr (Or.inr (Or.inr (Or.inr (Or.inr (Or.inr (Or.inr (Or.inr (Or.inr (Or.inr (Or.inr (Or.inr (Or.inr (Or.inr (Or.inr (Or.inr (Or.inr (Or.inr (Or.inr (Or.inr (Or.inr (Or.inr (Or.inr (Or.inr (Or.inr (Or.inr (Or.inl ⟨rfl, rfl, rfl, rfl, rfl, (by first | omega | (simp_all; done)), (by first | omega | (simp_all; done)), (by first | omega | (simp_all; done)), (by first | omega | (simp_all; done)), (by first | omega | (simp_all; done)), (by first | omega | (simp_all; done))⟩))))))))))))))))))))))))))) (Nat.le_of_ble_eq_true rfl) (Nat.le_of_ble_eq_true rfl) dL_secret_24
    ·
      obtain rfl : p1 = 1 := Int32.toInt_inj.mp (by rw [g_l1]; omega)
      obtain rfl : p3 = 6 := Int32.toInt_inj.mp (by rw [g_l6]; omega)
      replace hP : va_P D vwCl [(h4, .inl (y 1, 1, .inr (.inl wf19585))), (h0, .inr (11, [.ref h5, .ref h6, .ref h7, .ref h8, .ref h9, .ref h10, .ref h11, .ref h12, .ref h13, .ref h14, .ref h15, .ref h16, .ref h17, .ref h18, .int wp19576, .int wp19577, .int wp19578, .int wp19579, .int wp19580])), (h11, .inr (5, [.ref h24, .ref h25, .ref h26, .ref h27, .int 0])), (h26, .inr (8, [.ref h29, .int wp19582])), (h29, .inl (y 1, 18, .inr (.inl (vp_updL (vp_updL (vp_updL (vp_updL (vp_updL (vp_updL wf19583 ((11 : Int32).toNatClampNeg) ((p2 - p2 / 10 * 10).toInt64)) ((10 : Int32).toNatClampNeg) (((p2 / 10) - (p2 / 10) / 10 * 10).toInt64)) ((9 : Int32).toNatClampNeg) ((((p2 / 10) / 10) - ((p2 / 10) / 10) / 10 * 10).toInt64)) ((8 : Int32).toNatClampNeg) (((((p2 / 10) / 10) / 10) - (((p2 / 10) / 10) / 10) / 10 * 10).toInt64)) ((7 : Int32).toNatClampNeg) ((((((p2 / 10) / 10) / 10) / 10) - ((((p2 / 10) / 10) / 10) / 10) / 10 * 10).toInt64)) ((6 : Int32).toNatClampNeg) (((((((p2 / 10) / 10) / 10) / 10) / 10) - (((((p2 / 10) / 10) / 10) / 10) / 10) / 10 * 10).toInt64))))), (h27, .inr (8, [.ref h32, .int wp19584])), (h32, .inl (y 1, 3, .inr (.inl (vp_updL (fun _ => 0) ((1 : Int32).toNatClampNeg) 6)))), (h24, .inr (8, [.ref h34, .int 0]))] H := hP
      replace hD : va_D A [(h4, .inl (y 1, 1, .inr (.inl wf19585))), (h0, .inr (11, [.ref h5, .ref h6, .ref h7, .ref h8, .ref h9, .ref h10, .ref h11, .ref h12, .ref h13, .ref h14, .ref h15, .ref h16, .ref h17, .ref h18, .int wp19576, .int wp19577, .int wp19578, .int wp19579, .int wp19580])), (h11, .inr (5, [.ref h24, .ref h25, .ref h26, .ref h27, .int 0])), (h26, .inr (8, [.ref h29, .int wp19582])), (h29, .inl (y 1, 18, .inr (.inl (vp_updL (vp_updL (vp_updL (vp_updL (vp_updL (vp_updL wf19583 ((11 : Int32).toNatClampNeg) ((p2 - p2 / 10 * 10).toInt64)) ((10 : Int32).toNatClampNeg) (((p2 / 10) - (p2 / 10) / 10 * 10).toInt64)) ((9 : Int32).toNatClampNeg) ((((p2 / 10) / 10) - ((p2 / 10) / 10) / 10 * 10).toInt64)) ((8 : Int32).toNatClampNeg) (((((p2 / 10) / 10) / 10) - (((p2 / 10) / 10) / 10) / 10 * 10).toInt64)) ((7 : Int32).toNatClampNeg) ((((((p2 / 10) / 10) / 10) / 10) - ((((p2 / 10) / 10) / 10) / 10) / 10 * 10).toInt64)) ((6 : Int32).toNatClampNeg) (((((((p2 / 10) / 10) / 10) / 10) / 10) - (((((p2 / 10) / 10) / 10) / 10) / 10) / 10 * 10).toInt64))))), (h27, .inr (8, [.ref h32, .int wp19584])), (h32, .inl (y 1, 3, .inr (.inl (vp_updL (fun _ => 0) ((1 : Int32).toNatClampNeg) 6)))), (h24, .inr (8, [.ref h34, .int 0]))] := hD
      refine lv_i2l (v := 1) hx hb dL_secret_10 (by decide +kernel) ?_
      refine va_last hx hb hK.1 hP hD hS 0 1 rfl rfl (by unfold vp_in; decide +kernel) dL_secret_11 ?_
      clear hP hD hS H locs
      refine fun H locs (hP : va_P D vwCl [(h4, .inl (y 1, 1, .inr (.inl (vp_updL wf19585 ((0 : Int32).toNatClampNeg) 1)))), (h0, .inr (11, [.ref h5, .ref h6, .ref h7, .ref h8, .ref h9, .ref h10, .ref h11, .ref h12, .ref h13, .ref h14, .ref h15, .ref h16, .ref h17, .ref h18, .int wp19576, .int wp19577, .int wp19578, .int wp19579, .int wp19580])), (h11, .inr (5, [.ref h24, .ref h25, .ref h26, .ref h27, .int 0])), (h26, .inr (8, [.ref h29, .int wp19582])), (h29, .inl (y 1, 18, .inr (.inl (vp_updL (vp_updL (vp_updL (vp_updL (vp_updL (vp_updL wf19583 ((11 : Int32).toNatClampNeg) ((p2 - p2 / 10 * 10).toInt64)) ((10 : Int32).toNatClampNeg) (((p2 / 10) - (p2 / 10) / 10 * 10).toInt64)) ((9 : Int32).toNatClampNeg) ((((p2 / 10) / 10) - ((p2 / 10) / 10) / 10 * 10).toInt64)) ((8 : Int32).toNatClampNeg) (((((p2 / 10) / 10) / 10) - (((p2 / 10) / 10) / 10) / 10 * 10).toInt64)) ((7 : Int32).toNatClampNeg) ((((((p2 / 10) / 10) / 10) / 10) - ((((p2 / 10) / 10) / 10) / 10) / 10 * 10).toInt64)) ((6 : Int32).toNatClampNeg) (((((((p2 / 10) / 10) / 10) / 10) / 10) - (((((p2 / 10) / 10) / 10) / 10) / 10) / 10 * 10).toInt64))))), (h27, .inr (8, [.ref h32, .int wp19584])), (h32, .inl (y 1, 3, .inr (.inl (vp_updL (fun _ => 0) ((1 : Int32).toNatClampNeg) 6)))), (h24, .inr (8, [.ref h34, .int 0]))] H) (hD : va_D A [(h4, .inl (y 1, 1, .inr (.inl (vp_updL wf19585 ((0 : Int32).toNatClampNeg) 1)))), (h0, .inr (11, [.ref h5, .ref h6, .ref h7, .ref h8, .ref h9, .ref h10, .ref h11, .ref h12, .ref h13, .ref h14, .ref h15, .ref h16, .ref h17, .ref h18, .int wp19576, .int wp19577, .int wp19578, .int wp19579, .int wp19580])), (h11, .inr (5, [.ref h24, .ref h25, .ref h26, .ref h27, .int 0])), (h26, .inr (8, [.ref h29, .int wp19582])), (h29, .inl (y 1, 18, .inr (.inl (vp_updL (vp_updL (vp_updL (vp_updL (vp_updL (vp_updL wf19583 ((11 : Int32).toNatClampNeg) ((p2 - p2 / 10 * 10).toInt64)) ((10 : Int32).toNatClampNeg) (((p2 / 10) - (p2 / 10) / 10 * 10).toInt64)) ((9 : Int32).toNatClampNeg) ((((p2 / 10) / 10) - ((p2 / 10) / 10) / 10 * 10).toInt64)) ((8 : Int32).toNatClampNeg) (((((p2 / 10) / 10) / 10) - (((p2 / 10) / 10) / 10) / 10 * 10).toInt64)) ((7 : Int32).toNatClampNeg) ((((((p2 / 10) / 10) / 10) / 10) - ((((p2 / 10) / 10) / 10) / 10) / 10 * 10).toInt64)) ((6 : Int32).toNatClampNeg) (((((((p2 / 10) / 10) / 10) / 10) / 10) - (((((p2 / 10) / 10) / 10) / 10) / 10) / 10 * 10).toInt64))))), (h27, .inr (8, [.ref h32, .int wp19584])), (h32, .inl (y 1, 3, .inr (.inl (vp_updL (fun _ => 0) ((1 : Int32).toNatClampNeg) 6)))), (h24, .inr (8, [.ref h34, .int 0]))]) hS => ?_
      refine lv_goto (tgt := 23) hx hb dL_secret_12 (by decide) ?_
      refine lv_iconst (v := 0) hx hb dL_secret_23 (by decide) ?_
      exact g_iret hx hb hr hlocks ⟨0, (vp_updL (vp_updL (vp_updL (vp_updL (vp_updL (vp_updL wf19583 ((11 : Int32).toNatClampNeg) ((p2 - p2 / 10 * 10).toInt64)) ((10 : Int32).toNatClampNeg) (((p2 / 10) - (p2 / 10) / 10 * 10).toInt64)) ((9 : Int32).toNatClampNeg) ((((p2 / 10) / 10) - ((p2 / 10) / 10) / 10 * 10).toInt64)) ((8 : Int32).toNatClampNeg) (((((p2 / 10) / 10) / 10) - (((p2 / 10) / 10) / 10) / 10 * 10).toInt64)) ((7 : Int32).toNatClampNeg) ((((((p2 / 10) / 10) / 10) / 10) - ((((p2 / 10) / 10) / 10) / 10) / 10 * 10).toInt64)) ((6 : Int32).toNatClampNeg) (((((((p2 / 10) / 10) / 10) / 10) / 10) - (((((p2 / 10) / 10) / 10) / 10) / 10) / 10 * 10).toInt64)), (vp_updL (fun _ => 0) ((1 : Int32).toNatClampNeg) 6), (vp_updL wf19585 ((0 : Int32).toNatClampNeg) 1)⟩ (hP.sub [1, 2, 3, 4, 5, 6, 7, 0] rfl) (hD.sub [1, 2, 3, 4, 5, 6, 7, 0] (by decide +kernel) rfl) hS rfl (Or.inr (Or.inr (Or.inr (Or.inr (Or.inr (Or.inr (Or.inr (Or.inr (Or.inr (Or.inr (Or.inr (Or.inr (Or.inr (Or.inr (Or.inr (Or.inr (Or.inr (Or.inr (Or.inr (Or.inr (Or.inr (Or.inr (Or.inr (Or.inr (Or.inr (Or.inr (Or.inr (Or.inl ⟨rfl, rfl, rfl, rfl, rfl, (by first | omega | (simp_all; done)), (by first | omega | (simp_all; done)), (by first | omega | (simp_all; done)), (by first | omega | (simp_all; done)), (by first | omega | (simp_all; done)), (by first | omega | (simp_all; done))⟩)))))))))))))))))))))))))))) (Nat.le_of_ble_eq_true rfl) (Nat.le_of_ble_eq_true rfl) dL_secret_24
    ·
      obtain rfl : p1 = 2 := Int32.toInt_inj.mp (by rw [g_l2]; omega)
      obtain rfl : p3 = 6 := Int32.toInt_inj.mp (by rw [g_l6]; omega)
      replace hP : va_P D vwCl [(h4, .inl (y 1, 1, .inr (.inl wf19585))), (h0, .inr (11, [.ref h5, .ref h6, .ref h7, .ref h8, .ref h9, .ref h10, .ref h11, .ref h12, .ref h13, .ref h14, .ref h15, .ref h16, .ref h17, .ref h18, .int wp19576, .int wp19577, .int wp19578, .int wp19579, .int wp19580])), (h11, .inr (5, [.ref h24, .ref h25, .ref h26, .ref h27, .int 0])), (h26, .inr (8, [.ref h29, .int wp19582])), (h29, .inl (y 1, 18, .inr (.inl (vp_updL (vp_updL (vp_updL (vp_updL (vp_updL (vp_updL wf19583 ((17 : Int32).toNatClampNeg) ((p2 - p2 / 10 * 10).toInt64)) ((16 : Int32).toNatClampNeg) (((p2 / 10) - (p2 / 10) / 10 * 10).toInt64)) ((15 : Int32).toNatClampNeg) ((((p2 / 10) / 10) - ((p2 / 10) / 10) / 10 * 10).toInt64)) ((14 : Int32).toNatClampNeg) (((((p2 / 10) / 10) / 10) - (((p2 / 10) / 10) / 10) / 10 * 10).toInt64)) ((13 : Int32).toNatClampNeg) ((((((p2 / 10) / 10) / 10) / 10) - ((((p2 / 10) / 10) / 10) / 10) / 10 * 10).toInt64)) ((12 : Int32).toNatClampNeg) (((((((p2 / 10) / 10) / 10) / 10) / 10) - (((((p2 / 10) / 10) / 10) / 10) / 10) / 10 * 10).toInt64))))), (h27, .inr (8, [.ref h32, .int wp19584])), (h32, .inl (y 1, 3, .inr (.inl (vp_updL (fun _ => 0) ((2 : Int32).toNatClampNeg) 6)))), (h24, .inr (8, [.ref h34, .int 0]))] H := hP
      replace hD : va_D A [(h4, .inl (y 1, 1, .inr (.inl wf19585))), (h0, .inr (11, [.ref h5, .ref h6, .ref h7, .ref h8, .ref h9, .ref h10, .ref h11, .ref h12, .ref h13, .ref h14, .ref h15, .ref h16, .ref h17, .ref h18, .int wp19576, .int wp19577, .int wp19578, .int wp19579, .int wp19580])), (h11, .inr (5, [.ref h24, .ref h25, .ref h26, .ref h27, .int 0])), (h26, .inr (8, [.ref h29, .int wp19582])), (h29, .inl (y 1, 18, .inr (.inl (vp_updL (vp_updL (vp_updL (vp_updL (vp_updL (vp_updL wf19583 ((17 : Int32).toNatClampNeg) ((p2 - p2 / 10 * 10).toInt64)) ((16 : Int32).toNatClampNeg) (((p2 / 10) - (p2 / 10) / 10 * 10).toInt64)) ((15 : Int32).toNatClampNeg) ((((p2 / 10) / 10) - ((p2 / 10) / 10) / 10 * 10).toInt64)) ((14 : Int32).toNatClampNeg) (((((p2 / 10) / 10) / 10) - (((p2 / 10) / 10) / 10) / 10 * 10).toInt64)) ((13 : Int32).toNatClampNeg) ((((((p2 / 10) / 10) / 10) / 10) - ((((p2 / 10) / 10) / 10) / 10) / 10 * 10).toInt64)) ((12 : Int32).toNatClampNeg) (((((((p2 / 10) / 10) / 10) / 10) / 10) - (((((p2 / 10) / 10) / 10) / 10) / 10) / 10 * 10).toInt64))))), (h27, .inr (8, [.ref h32, .int wp19584])), (h32, .inl (y 1, 3, .inr (.inl (vp_updL (fun _ => 0) ((2 : Int32).toNatClampNeg) 6)))), (h24, .inr (8, [.ref h34, .int 0]))] := hD
      refine lv_i2l (v := 1) hx hb dL_secret_10 (by decide +kernel) ?_
      refine va_last hx hb hK.1 hP hD hS 0 1 rfl rfl (by unfold vp_in; decide +kernel) dL_secret_11 ?_
      clear hP hD hS H locs
      refine fun H locs (hP : va_P D vwCl [(h4, .inl (y 1, 1, .inr (.inl (vp_updL wf19585 ((0 : Int32).toNatClampNeg) 1)))), (h0, .inr (11, [.ref h5, .ref h6, .ref h7, .ref h8, .ref h9, .ref h10, .ref h11, .ref h12, .ref h13, .ref h14, .ref h15, .ref h16, .ref h17, .ref h18, .int wp19576, .int wp19577, .int wp19578, .int wp19579, .int wp19580])), (h11, .inr (5, [.ref h24, .ref h25, .ref h26, .ref h27, .int 0])), (h26, .inr (8, [.ref h29, .int wp19582])), (h29, .inl (y 1, 18, .inr (.inl (vp_updL (vp_updL (vp_updL (vp_updL (vp_updL (vp_updL wf19583 ((17 : Int32).toNatClampNeg) ((p2 - p2 / 10 * 10).toInt64)) ((16 : Int32).toNatClampNeg) (((p2 / 10) - (p2 / 10) / 10 * 10).toInt64)) ((15 : Int32).toNatClampNeg) ((((p2 / 10) / 10) - ((p2 / 10) / 10) / 10 * 10).toInt64)) ((14 : Int32).toNatClampNeg) (((((p2 / 10) / 10) / 10) - (((p2 / 10) / 10) / 10) / 10 * 10).toInt64)) ((13 : Int32).toNatClampNeg) ((((((p2 / 10) / 10) / 10) / 10) - ((((p2 / 10) / 10) / 10) / 10) / 10 * 10).toInt64)) ((12 : Int32).toNatClampNeg) (((((((p2 / 10) / 10) / 10) / 10) / 10) - (((((p2 / 10) / 10) / 10) / 10) / 10) / 10 * 10).toInt64))))), (h27, .inr (8, [.ref h32, .int wp19584])), (h32, .inl (y 1, 3, .inr (.inl (vp_updL (fun _ => 0) ((2 : Int32).toNatClampNeg) 6)))), (h24, .inr (8, [.ref h34, .int 0]))] H) (hD : va_D A [(h4, .inl (y 1, 1, .inr (.inl (vp_updL wf19585 ((0 : Int32).toNatClampNeg) 1)))), (h0, .inr (11, [.ref h5, .ref h6, .ref h7, .ref h8, .ref h9, .ref h10, .ref h11, .ref h12, .ref h13, .ref h14, .ref h15, .ref h16, .ref h17, .ref h18, .int wp19576, .int wp19577, .int wp19578, .int wp19579, .int wp19580])), (h11, .inr (5, [.ref h24, .ref h25, .ref h26, .ref h27, .int 0])), (h26, .inr (8, [.ref h29, .int wp19582])), (h29, .inl (y 1, 18, .inr (.inl (vp_updL (vp_updL (vp_updL (vp_updL (vp_updL (vp_updL wf19583 ((17 : Int32).toNatClampNeg) ((p2 - p2 / 10 * 10).toInt64)) ((16 : Int32).toNatClampNeg) (((p2 / 10) - (p2 / 10) / 10 * 10).toInt64)) ((15 : Int32).toNatClampNeg) ((((p2 / 10) / 10) - ((p2 / 10) / 10) / 10 * 10).toInt64)) ((14 : Int32).toNatClampNeg) (((((p2 / 10) / 10) / 10) - (((p2 / 10) / 10) / 10) / 10 * 10).toInt64)) ((13 : Int32).toNatClampNeg) ((((((p2 / 10) / 10) / 10) / 10) - ((((p2 / 10) / 10) / 10) / 10) / 10 * 10).toInt64)) ((12 : Int32).toNatClampNeg) (((((((p2 / 10) / 10) / 10) / 10) / 10) - (((((p2 / 10) / 10) / 10) / 10) / 10) / 10 * 10).toInt64))))), (h27, .inr (8, [.ref h32, .int wp19584])), (h32, .inl (y 1, 3, .inr (.inl (vp_updL (fun _ => 0) ((2 : Int32).toNatClampNeg) 6)))), (h24, .inr (8, [.ref h34, .int 0]))]) hS => ?_
      refine lv_goto (tgt := 23) hx hb dL_secret_12 (by decide) ?_
      refine lv_iconst (v := 0) hx hb dL_secret_23 (by decide) ?_
      exact g_iret hx hb hr hlocks ⟨0, (vp_updL (vp_updL (vp_updL (vp_updL (vp_updL (vp_updL wf19583 ((17 : Int32).toNatClampNeg) ((p2 - p2 / 10 * 10).toInt64)) ((16 : Int32).toNatClampNeg) (((p2 / 10) - (p2 / 10) / 10 * 10).toInt64)) ((15 : Int32).toNatClampNeg) ((((p2 / 10) / 10) - ((p2 / 10) / 10) / 10 * 10).toInt64)) ((14 : Int32).toNatClampNeg) (((((p2 / 10) / 10) / 10) - (((p2 / 10) / 10) / 10) / 10 * 10).toInt64)) ((13 : Int32).toNatClampNeg) ((((((p2 / 10) / 10) / 10) / 10) - ((((p2 / 10) / 10) / 10) / 10) / 10 * 10).toInt64)) ((12 : Int32).toNatClampNeg) (((((((p2 / 10) / 10) / 10) / 10) / 10) - (((((p2 / 10) / 10) / 10) / 10) / 10) / 10 * 10).toInt64)), (vp_updL (fun _ => 0) ((2 : Int32).toNatClampNeg) 6), (vp_updL wf19585 ((0 : Int32).toNatClampNeg) 1)⟩ (hP.sub [1, 2, 3, 4, 5, 6, 7, 0] rfl) (hD.sub [1, 2, 3, 4, 5, 6, 7, 0] (by decide +kernel) rfl) hS rfl (Or.inr (Or.inr (Or.inr (Or.inr (Or.inr (Or.inr (Or.inr (Or.inr (Or.inr (Or.inr (Or.inr (Or.inr (Or.inr (Or.inr (Or.inr (Or.inr (Or.inr (Or.inr (Or.inr (Or.inr (Or.inr (Or.inr (Or.inr (Or.inr (Or.inr (Or.inr (Or.inr (Or.inr ⟨rfl, rfl, rfl, rfl, rfl, (by first | omega | (simp_all; done)), (by first | omega | (simp_all; done)), (by first | omega | (simp_all; done)), (by first | omega | (simp_all; done)), (by first | omega | (simp_all; done)), (by first | omega | (simp_all; done))⟩)))))))))))))))))))))))))))) (Nat.le_of_ble_eq_true rfl) (Nat.le_of_ble_eq_true rfl) dL_secret_24
theorem ggS_RL_274_L_secret : GoodIn wsL_law (va_wsS RL 274 yL_secret (Cond.codeWith yL_secret cL_secret 6 (some .int) [(0, 12, 15, 13), (0, 12, 19, 21)] :: wsL_law)) := g_gi (fun _ h => h) gW_good (List.forall_mem_cons.mpr ⟨⟨gw_1422, rfl⟩, List.forall_mem_cons.mpr ⟨⟨gw_1423, rfl⟩, List.forall_mem_cons.mpr ⟨⟨gw_234, rfl⟩, fun _ h => nomatch h⟩⟩⟩) ⟨gw_1424, rfl⟩
set_option maxRecDepth 100000 in
set_option maxHeartbeats 4000000 in
theorem k_X12_in_13 (l : Launch) (D : va_G) (y : Nat → ClassId) (aS : Nat → Nat) (sz : Nat) (p0 : Int32) : Met l yX12_in (Cond.code yX12_in cX12_in 3 (some .boolean) :: wsL_law) ({ frames := 0, cells := 0, slots := 0, locals := 0 } : Room) (va_Pc [.int p0, .int 2, .int 6] (gI D y aS [] sz)) (va_Qi (fun (r : Int32) (u : Unit) => (0 = r ∧ p0.toInt ≤ 1) ∨ (0 = r ∧ 7 ≤ p0.toInt) ∨ (1 = r ∧ 2 ≤ p0.toInt ∧ p0.toInt ≤ 6)) (fun u => gO D (va_A [] sz) []) (va_A [] sz)) 0 0 (va_A [] sz) := by
  refine g_of (by decide) (Nat.le_of_ble_eq_true rfl) ?_
  intro p e s m below meth c ls A hx hb hr hml hown hg hlocks hin hsz hK hP hD hS hA hAe hl
  rw [← hAe]
  replace hown : s.vm.findClass RX12 = some m.cls := hown
  replace hl : lv_has ls 3 [(0, .int p0), (1, .int 2), (2, .int 6)] := hl
  refine lv_iload_n hx hb dX12_in_0 rfl (lv_at hl 0 rfl) ?_
  refine lv_iload_n hx hb dX12_in_1 rfl (lv_at hl 1 rfl) ?_
  refine lv_icmp_lt (tgt := 14) hx hb dX12_in_2 (by decide) (fun z19897 => ?_) (fun z19897 => ?_)
  · have z19897 := g_ltt z19897; rw [g_l2] at z19897
    refine lv_iconst (v := 0) hx hb dX12_in_14 (by decide) ?_
    exact g_iret hx hb hr hlocks () hP hD hS rfl (Or.inl ⟨rfl, (by first | omega | (simp_all; done))⟩) (Nat.le_of_ble_eq_true rfl) (Nat.le_of_ble_eq_true rfl) dX12_in_15
  · have z19897 := g_ltf z19897; rw [g_l2] at z19897
    refine lv_iload_n hx hb dX12_in_5 rfl (lv_at hl 0 rfl) ?_
    refine lv_iload_n hx hb dX12_in_6 rfl (lv_at hl 2 rfl) ?_
    refine lv_icmp_gt (tgt := 14) hx hb dX12_in_7 (by decide) (fun z19898 => ?_) (fun z19898 => ?_)
    · have z19898 := g_gtt z19898; rw [g_l6] at z19898
      refine lv_iconst (v := 0) hx hb dX12_in_14 (by decide) ?_
      exact g_iret hx hb hr hlocks () hP hD hS rfl (Or.inr (Or.inl ⟨rfl, (by first | omega | (simp_all; done))⟩)) (Nat.le_of_ble_eq_true rfl) (Nat.le_of_ble_eq_true rfl) dX12_in_15
    · have z19898 := g_gtf z19898; rw [g_l6] at z19898
      refine lv_iconst (v := 1) hx hb dX12_in_10 (by decide) ?_
      refine lv_goto (tgt := 15) hx hb dX12_in_11 (by decide) ?_
      exact g_iret hx hb hr hlocks () hP hD hS rfl (Or.inr (Or.inr ⟨rfl, (by first | omega | (simp_all; done)), (by first | omega | (simp_all; done))⟩)) (Nat.le_of_ble_eq_true rfl) (Nat.le_of_ble_eq_true rfl) dX12_in_15
set_option maxRecDepth 100000 in
set_option maxHeartbeats 4000000 in
theorem k_X12_power_0 (l : Launch) (D : va_G) (y : Nat → ClassId) (aS : Nat → Nat) (sz : Nat) (p0 : Int32) (hlo_p0 : 2 ≤ p0.toInt) (hhi_p0 : p0.toInt ≤ 6) : Met l yX12_power (Cond.code yX12_power cX12_power 3 (some .int) :: wsL_law) ({ frames := 0, cells := 0, slots := 0, locals := 0 } : Room) (va_Pc [.int p0] (gI D y aS [] sz)) (va_Qi (fun (r : Int32) (u : Unit) => (100 = r ∧ p0.toInt ≤ 2) ∨ (1000 = r ∧ 3 ≤ p0.toInt ∧ p0.toInt ≤ 3) ∨ (10000 = r ∧ 4 ≤ p0.toInt ∧ p0.toInt ≤ 4) ∨ (100000 = r ∧ 5 ≤ p0.toInt ∧ p0.toInt ≤ 5) ∨ (1000000 = r ∧ 6 ≤ p0.toInt)) (fun u => gO D (va_A [] sz) []) (va_A [] sz)) 0 0 (va_A [] sz) := by
  refine g_of (by decide) (Nat.le_of_ble_eq_true rfl) ?_
  intro p e s m below meth c ls A hx hb hr hml hown hg hlocks hin hsz hK hP hD hS hA hAe hl
  rw [← hAe]
  replace hown : s.vm.findClass RX12 = some m.cls := hown
  replace hl : lv_has ls 3 [(0, .int p0)] := hl
  refine lv_iconst (v := 1) hx hb dX12_power_0 (by decide) ?_
  refine lv_istore_n (lv' := [(1, .int 1), (0, .int p0)]) hx hb dX12_power_1 rfl hl (by decide) rfl ?_
  clear hl
  clear ls
  intro ls hl
  refine lv_iconst (v := 0) hx hb dX12_power_2 (by decide) ?_
  refine lv_istore_n (lv' := [(2, .int 0), (1, .int 1), (0, .int p0)]) hx hb dX12_power_3 rfl hl (by decide) rfl ?_
  clear hl
  clear ls
  intro ls hl
  refine lv_iload_n hx hb dX12_power_4 rfl (lv_at hl 0 rfl) ?_
  refine lv_iload_n hx hb dX12_power_5 rfl (lv_at hl 2 rfl) ?_
  refine lv_icmp_ge (tgt := 20) hx hb dX12_power_6 (by decide) (fun c9 => by have c9 := g_get c9; rw [g_l0] at c9; omega) (fun _ => ?_)
  refine lv_iload_n hx hb dX12_power_9 rfl (lv_at hl 1 rfl) ?_
  refine lv_bipush (v := 10) hx hb dX12_power_10 (by decide +kernel) ?_
  refine lv_imul hx hb dX12_power_12 ?_
  refine g_fi (v := 10) (by decide +kernel) ?_
  refine lv_istore_n (lv' := [(1, .int 10), (2, .int 0), (0, .int p0)]) hx hb dX12_power_13 rfl hl (by decide) rfl ?_
  clear hl
  clear ls
  intro ls hl
  refine lv_iinc (v := 1) (lv' := [(2, .int 1), (1, .int 10), (0, .int p0)]) hx hb dX12_power_14 hl (k := 1) rfl (by decide +kernel) (by decide) rfl ?_
  clear hl
  clear ls
  intro ls hl
  refine lv_goto (tgt := 4) hx hb dX12_power_17 (by decide) ?_
  refine lv_iload_n hx hb dX12_power_4 rfl (lv_at hl 0 rfl) ?_
  refine lv_iload_n hx hb dX12_power_5 rfl (lv_at hl 2 rfl) ?_
  refine lv_icmp_ge (tgt := 20) hx hb dX12_power_6 (by decide) (fun c9 => by have c9 := g_get c9; rw [g_l1] at c9; omega) (fun _ => ?_)
  refine lv_iload_n hx hb dX12_power_9 rfl (lv_at hl 1 rfl) ?_
  refine lv_bipush (v := 10) hx hb dX12_power_10 (by decide +kernel) ?_
  refine lv_imul hx hb dX12_power_12 ?_
  refine g_fi (v := 100) (by decide +kernel) ?_
  refine lv_istore_n (lv' := [(1, .int 100), (2, .int 1), (0, .int p0)]) hx hb dX12_power_13 rfl hl (by decide) rfl ?_
  clear hl
  clear ls
  intro ls hl
  refine lv_iinc (v := 2) (lv' := [(2, .int 2), (1, .int 100), (0, .int p0)]) hx hb dX12_power_14 hl (k := 1) rfl (by decide +kernel) (by decide) rfl ?_
  clear hl
  clear ls
  intro ls hl
  refine lv_goto (tgt := 4) hx hb dX12_power_17 (by decide) ?_
  refine lv_iload_n hx hb dX12_power_4 rfl (lv_at hl 0 rfl) ?_
  refine lv_iload_n hx hb dX12_power_5 rfl (lv_at hl 2 rfl) ?_
  refine lv_icmp_ge (tgt := 20) hx hb dX12_power_6 (by decide) (fun z21727 => ?_) (fun z21727 => ?_)
  · have z21727 := g_get z21727; rw [g_l2] at z21727
    obtain rfl : p0 = 2 := Int32.toInt_inj.mp (by rw [g_l2]; omega)
    refine lv_iload_n hx hb dX12_power_20 rfl (lv_at hl 1 rfl) ?_
    exact g_iret hx hb hr hlocks () hP hD hS rfl (Or.inl ⟨rfl, (by first | omega | (simp_all; done))⟩) (Nat.le_of_ble_eq_true rfl) (Nat.le_of_ble_eq_true rfl) dX12_power_21
  · have z21727 := g_gef z21727; rw [g_l2] at z21727
    refine lv_iload_n hx hb dX12_power_9 rfl (lv_at hl 1 rfl) ?_
    refine lv_bipush (v := 10) hx hb dX12_power_10 (by decide +kernel) ?_
    refine lv_imul hx hb dX12_power_12 ?_
    refine g_fi (v := 1000) (by decide +kernel) ?_
    refine lv_istore_n (lv' := [(1, .int 1000), (2, .int 2), (0, .int p0)]) hx hb dX12_power_13 rfl hl (by decide) rfl ?_
    clear hl
    clear ls
    intro ls hl
    refine lv_iinc (v := 3) (lv' := [(2, .int 3), (1, .int 1000), (0, .int p0)]) hx hb dX12_power_14 hl (k := 1) rfl (by decide +kernel) (by decide) rfl ?_
    clear hl
    clear ls
    intro ls hl
    refine lv_goto (tgt := 4) hx hb dX12_power_17 (by decide) ?_
    refine lv_iload_n hx hb dX12_power_4 rfl (lv_at hl 0 rfl) ?_
    refine lv_iload_n hx hb dX12_power_5 rfl (lv_at hl 2 rfl) ?_
    refine lv_icmp_ge (tgt := 20) hx hb dX12_power_6 (by decide) (fun z21728 => ?_) (fun z21728 => ?_)
    · have z21728 := g_get z21728; rw [g_l3] at z21728
      obtain rfl : p0 = 3 := Int32.toInt_inj.mp (by rw [g_l3]; omega)
      refine lv_iload_n hx hb dX12_power_20 rfl (lv_at hl 1 rfl) ?_
      exact g_iret hx hb hr hlocks () hP hD hS rfl (Or.inr (Or.inl ⟨rfl, (by first | omega | (simp_all; done)), (by first | omega | (simp_all; done))⟩)) (Nat.le_of_ble_eq_true rfl) (Nat.le_of_ble_eq_true rfl) dX12_power_21
    · have z21728 := g_gef z21728; rw [g_l3] at z21728
      refine lv_iload_n hx hb dX12_power_9 rfl (lv_at hl 1 rfl) ?_
      refine lv_bipush (v := 10) hx hb dX12_power_10 (by decide +kernel) ?_
      refine lv_imul hx hb dX12_power_12 ?_
      refine g_fi (v := 10000) (by decide +kernel) ?_
      refine lv_istore_n (lv' := [(1, .int 10000), (2, .int 3), (0, .int p0)]) hx hb dX12_power_13 rfl hl (by decide) rfl ?_
      clear hl
      clear ls
      intro ls hl
      refine lv_iinc (v := 4) (lv' := [(2, .int 4), (1, .int 10000), (0, .int p0)]) hx hb dX12_power_14 hl (k := 1) rfl (by decide +kernel) (by decide) rfl ?_
      clear hl
      clear ls
      intro ls hl
      refine lv_goto (tgt := 4) hx hb dX12_power_17 (by decide) ?_
      refine lv_iload_n hx hb dX12_power_4 rfl (lv_at hl 0 rfl) ?_
      refine lv_iload_n hx hb dX12_power_5 rfl (lv_at hl 2 rfl) ?_
      refine lv_icmp_ge (tgt := 20) hx hb dX12_power_6 (by decide) (fun z21729 => ?_) (fun z21729 => ?_)
      · have z21729 := g_get z21729; rw [g_l4] at z21729
        obtain rfl : p0 = 4 := Int32.toInt_inj.mp (by rw [g_l4]; omega)
        refine lv_iload_n hx hb dX12_power_20 rfl (lv_at hl 1 rfl) ?_
        exact g_iret hx hb hr hlocks () hP hD hS rfl (Or.inr (Or.inr (Or.inl ⟨rfl, (by first | omega | (simp_all; done)), (by first | omega | (simp_all; done))⟩))) (Nat.le_of_ble_eq_true rfl) (Nat.le_of_ble_eq_true rfl) dX12_power_21
      · have z21729 := g_gef z21729; rw [g_l4] at z21729
        refine lv_iload_n hx hb dX12_power_9 rfl (lv_at hl 1 rfl) ?_
        refine lv_bipush (v := 10) hx hb dX12_power_10 (by decide +kernel) ?_
        refine lv_imul hx hb dX12_power_12 ?_
        refine g_fi (v := 100000) (by decide +kernel) ?_
        refine lv_istore_n (lv' := [(1, .int 100000), (2, .int 4), (0, .int p0)]) hx hb dX12_power_13 rfl hl (by decide) rfl ?_
        clear hl
        clear ls
        intro ls hl
        refine lv_iinc (v := 5) (lv' := [(2, .int 5), (1, .int 100000), (0, .int p0)]) hx hb dX12_power_14 hl (k := 1) rfl (by decide +kernel) (by decide) rfl ?_
        clear hl
        clear ls
        intro ls hl
        refine lv_goto (tgt := 4) hx hb dX12_power_17 (by decide) ?_
        refine lv_iload_n hx hb dX12_power_4 rfl (lv_at hl 0 rfl) ?_
        refine lv_iload_n hx hb dX12_power_5 rfl (lv_at hl 2 rfl) ?_
        refine lv_icmp_ge (tgt := 20) hx hb dX12_power_6 (by decide) (fun z21730 => ?_) (fun z21730 => ?_)
        · have z21730 := g_get z21730; rw [g_l5] at z21730
          obtain rfl : p0 = 5 := Int32.toInt_inj.mp (by rw [g_l5]; omega)
          refine lv_iload_n hx hb dX12_power_20 rfl (lv_at hl 1 rfl) ?_
          exact g_iret hx hb hr hlocks () hP hD hS rfl (Or.inr (Or.inr (Or.inr (Or.inl ⟨rfl, (by first | omega | (simp_all; done)), (by first | omega | (simp_all; done))⟩)))) (Nat.le_of_ble_eq_true rfl) (Nat.le_of_ble_eq_true rfl) dX12_power_21
        · have z21730 := g_gef z21730; rw [g_l5] at z21730
          obtain rfl : p0 = 6 := Int32.toInt_inj.mp (by rw [g_l6]; omega)
          refine lv_iload_n hx hb dX12_power_9 rfl (lv_at hl 1 rfl) ?_
          refine lv_bipush (v := 10) hx hb dX12_power_10 (by decide +kernel) ?_
          refine lv_imul hx hb dX12_power_12 ?_
          refine g_fi (v := 1000000) (by decide +kernel) ?_
          refine lv_istore_n (lv' := [(1, .int 1000000), (2, .int 5), (0, .int 6)]) hx hb dX12_power_13 rfl hl (by decide) rfl ?_
          clear hl
          clear ls
          intro ls hl
          refine lv_iinc (v := 6) (lv' := [(2, .int 6), (1, .int 1000000), (0, .int 6)]) hx hb dX12_power_14 hl (k := 1) rfl (by decide +kernel) (by decide) rfl ?_
          clear hl
          clear ls
          intro ls hl
          refine lv_goto (tgt := 4) hx hb dX12_power_17 (by decide) ?_
          refine lv_iload_n hx hb dX12_power_4 rfl (lv_at hl 0 rfl) ?_
          refine lv_iload_n hx hb dX12_power_5 rfl (lv_at hl 2 rfl) ?_
          refine lv_icmp_ge (tgt := 20) hx hb dX12_power_6 (by decide) (fun _ => ?_) (fun c9 => absurd c9 (by decide +kernel))
          refine lv_iload_n hx hb dX12_power_20 rfl (lv_at hl 1 rfl) ?_
          exact g_iret hx hb hr hlocks () hP hD hS rfl (Or.inr (Or.inr (Or.inr (Or.inr ⟨rfl, (by first | omega | (simp_all; done))⟩)))) (Nat.le_of_ble_eq_true rfl) (Nat.le_of_ble_eq_true rfl) dX12_power_21
theorem ggS_RX12_481_X12_power : GoodIn wsL_law (va_wsS RX12 481 yX12_power (Cond.code yX12_power cX12_power 3 (some .int) :: wsL_law)) := g_gi (fun _ h => h) gW_good (List.forall_mem_cons.mpr ⟨⟨gw_1453, rfl⟩, List.forall_mem_cons.mpr ⟨⟨gw_1454, rfl⟩, List.forall_mem_cons.mpr ⟨⟨gw_5, rfl⟩, fun _ h => nomatch h⟩⟩⟩) ⟨gw_1455, rfl⟩
set_option maxRecDepth 100000 in
set_option maxHeartbeats 4000000 in
theorem k_X12_power_1 (l : Launch) (D : va_G) (y : Nat → ClassId) (aS : Nat → Nat) (sz : Nat) : Met l yX12_power (Cond.code yX12_power cX12_power 3 (some .int) :: wsL_law) ({ frames := 0, cells := 0, slots := 0, locals := 0 } : Room) (va_Pc [.int 1] (gI D y aS [] sz)) (va_Qi (fun (r : Int32) (u : Unit) => 10 = r) (fun u => gO D (va_A [] sz) []) (va_A [] sz)) 0 0 (va_A [] sz) := by
  refine g_of (by decide) (Nat.le_of_ble_eq_true rfl) ?_
  intro p e s m below meth c ls A hx hb hr hml hown hg hlocks hin hsz hK hP hD hS hA hAe hl
  rw [← hAe]
  replace hown : s.vm.findClass RX12 = some m.cls := hown
  replace hl : lv_has ls 3 [(0, .int 1)] := hl
  refine lv_iconst (v := 1) hx hb dX12_power_0 (by decide) ?_
  refine lv_istore_n (lv' := [(1, .int 1), (0, .int 1)]) hx hb dX12_power_1 rfl hl (by decide) rfl ?_
  clear hl
  clear ls
  intro ls hl
  refine lv_iconst (v := 0) hx hb dX12_power_2 (by decide) ?_
  refine lv_istore_n (lv' := [(2, .int 0), (1, .int 1), (0, .int 1)]) hx hb dX12_power_3 rfl hl (by decide) rfl ?_
  clear hl
  clear ls
  intro ls hl
  refine lv_iload_n hx hb dX12_power_4 rfl (lv_at hl 0 rfl) ?_
  refine lv_iload_n hx hb dX12_power_5 rfl (lv_at hl 2 rfl) ?_
  refine lv_icmp_ge (tgt := 20) hx hb dX12_power_6 (by decide) (fun c9 => absurd c9 (by decide +kernel)) (fun _ => ?_)
  refine lv_iload_n hx hb dX12_power_9 rfl (lv_at hl 1 rfl) ?_
  refine lv_bipush (v := 10) hx hb dX12_power_10 (by decide +kernel) ?_
  refine lv_imul hx hb dX12_power_12 ?_
  refine g_fi (v := 10) (by decide +kernel) ?_
  refine lv_istore_n (lv' := [(1, .int 10), (2, .int 0), (0, .int 1)]) hx hb dX12_power_13 rfl hl (by decide) rfl ?_
  clear hl
  clear ls
  intro ls hl
  refine lv_iinc (v := 1) (lv' := [(2, .int 1), (1, .int 10), (0, .int 1)]) hx hb dX12_power_14 hl (k := 1) rfl (by decide +kernel) (by decide) rfl ?_
  clear hl
  clear ls
  intro ls hl
  refine lv_goto (tgt := 4) hx hb dX12_power_17 (by decide) ?_
  refine lv_iload_n hx hb dX12_power_4 rfl (lv_at hl 0 rfl) ?_
  refine lv_iload_n hx hb dX12_power_5 rfl (lv_at hl 2 rfl) ?_
  refine lv_icmp_ge (tgt := 20) hx hb dX12_power_6 (by decide) (fun _ => ?_) (fun c9 => absurd c9 (by decide +kernel))
  refine lv_iload_n hx hb dX12_power_20 rfl (lv_at hl 1 rfl) ?_
  exact g_iret hx hb hr hlocks () hP hD hS rfl rfl (Nat.le_of_ble_eq_true rfl) (Nat.le_of_ble_eq_true rfl) dX12_power_21
set_option maxRecDepth 100000 in
set_option maxHeartbeats 4000000 in
theorem k_X12_digitOf_0 (l : Launch) (D : va_G) (y : Nat → ClassId) (aS : Nat → Nat) (sz : Nat) (p0 : Int32) : Met l yX12_digitOf (Cond.code yX12_digitOf cX12_digitOf 3 (some .int) :: wsL_law) ({ frames := 1, cells := 0, slots := 0, locals := 22 } : Room) (va_Pc [.int p0, .int 2, .int 0] (gI D y aS [] sz)) (va_Qi (fun (r : Int32) (u : Unit) => ((p0 / 10) - (p0 / 10) / 10 * 10) = r) (fun u => gO D (va_A [] sz) []) (va_A [] sz)) 0 0 (va_A [] sz) := by
  refine g_of (by decide) (Nat.le_of_ble_eq_true rfl) ?_
  intro p e s m below meth c ls A hx hb hr hml hown hg hlocks hin hsz hK hP hD hS hA hAe hl
  rw [← hAe]
  replace hown : s.vm.findClass RX12 = some m.cls := hown
  replace hl : lv_has ls 3 [(0, .int p0), (1, .int 2), (2, .int 0)] := hl
  refine lv_iload_n hx hb dX12_digitOf_0 rfl (lv_at hl 0 rfl) ?_
  refine lv_iload_n hx hb dX12_digitOf_1 rfl (lv_at hl 1 rfl) ?_
  refine lv_iconst (v := 1) hx hb dX12_digitOf_2 (by decide) ?_
  refine lv_isub hx hb dX12_digitOf_3 ?_
  refine g_fi (v := 1) (by decide +kernel) ?_
  refine lv_iload_n hx hb dX12_digitOf_4 rfl (lv_at hl 2 rfl) ?_
  refine lv_isub hx hb dX12_digitOf_5 ?_
  refine g_fi (v := 1) (by decide +kernel) ?_
  refine g_ai (wr := []) (va_runS (As := [.int 1]) (rest := [.int p0]) ⟨hx, hb, hml, hown, hg⟩ (k_X12_power_1 l D y aS s.heap.size) (va_cwS 1 hg ggS_RX12_481_X12_power rfl rfl rfl (by decide +kernel) ⟨Nat.le_of_ble_eq_true rfl, Nat.le_of_ble_eq_true rfl⟩) (g_preS hK hP hD [] rfl (by decide)) rfl rfl hl.1 rfl (lv_room (Nat.le_of_ble_eq_true rfl)) dX12_digitOf_6 ⟨Nat.le_of_ble_eq_true rfl, Nat.le_of_ble_eq_true rfl⟩) hP hD hS hA [] [] rfl rfl (by decide) (by decide) ?_
  clear hP hD hS
  refine fun r21742 u H locs hq hP hD hS => ?_
  subst hq
  replace hP : va_P D vwCl [] H := hP
  replace hD : va_D A [] := hD
  refine lv_idiv hx hb dX12_digitOf_9 (by decide +kernel) ?_
  refine lv_bipush (v := 10) hx hb dX12_digitOf_10 (by decide +kernel) ?_
  refine lv_irem hx hb dX12_digitOf_12 (by decide +kernel) ?_
  exact g_iret hx hb hr hlocks () hP hD hS rfl rfl (Nat.le_of_ble_eq_true rfl) (Nat.le_of_ble_eq_true rfl) dX12_digitOf_13
theorem ggS_RX12_484_X12_digitOf : GoodIn wsL_law (va_wsS RX12 484 yX12_digitOf (Cond.code yX12_digitOf cX12_digitOf 3 (some .int) :: wsL_law)) := g_gi (fun _ h => h) gW_good (List.forall_mem_cons.mpr ⟨⟨gw_1456, rfl⟩, List.forall_mem_cons.mpr ⟨⟨gw_1457, rfl⟩, List.forall_mem_cons.mpr ⟨⟨gw_5, rfl⟩, fun _ h => nomatch h⟩⟩⟩) ⟨gw_1458, rfl⟩
set_option maxRecDepth 100000 in
set_option maxHeartbeats 4000000 in
theorem k_X12_power_2 (l : Launch) (D : va_G) (y : Nat → ClassId) (aS : Nat → Nat) (sz : Nat) : Met l yX12_power (Cond.code yX12_power cX12_power 3 (some .int) :: wsL_law) ({ frames := 0, cells := 0, slots := 0, locals := 0 } : Room) (va_Pc [.int 0] (gI D y aS [] sz)) (va_Qi (fun (r : Int32) (u : Unit) => 1 = r) (fun u => gO D (va_A [] sz) []) (va_A [] sz)) 0 0 (va_A [] sz) := by
  refine g_of (by decide) (Nat.le_of_ble_eq_true rfl) ?_
  intro p e s m below meth c ls A hx hb hr hml hown hg hlocks hin hsz hK hP hD hS hA hAe hl
  rw [← hAe]
  replace hown : s.vm.findClass RX12 = some m.cls := hown
  replace hl : lv_has ls 3 [(0, .int 0)] := hl
  refine lv_iconst (v := 1) hx hb dX12_power_0 (by decide) ?_
  refine lv_istore_n (lv' := [(1, .int 1), (0, .int 0)]) hx hb dX12_power_1 rfl hl (by decide) rfl ?_
  clear hl
  clear ls
  intro ls hl
  refine lv_iconst (v := 0) hx hb dX12_power_2 (by decide) ?_
  refine lv_istore_n (lv' := [(2, .int 0), (1, .int 1), (0, .int 0)]) hx hb dX12_power_3 rfl hl (by decide) rfl ?_
  clear hl
  clear ls
  intro ls hl
  refine lv_iload_n hx hb dX12_power_4 rfl (lv_at hl 0 rfl) ?_
  refine lv_iload_n hx hb dX12_power_5 rfl (lv_at hl 2 rfl) ?_
  refine lv_icmp_ge (tgt := 20) hx hb dX12_power_6 (by decide) (fun _ => ?_) (fun c9 => absurd c9 (by decide +kernel))
  refine lv_iload_n hx hb dX12_power_20 rfl (lv_at hl 1 rfl) ?_
  exact g_iret hx hb hr hlocks () hP hD hS rfl rfl (Nat.le_of_ble_eq_true rfl) (Nat.le_of_ble_eq_true rfl) dX12_power_21
set_option maxRecDepth 100000 in
set_option maxHeartbeats 4000000 in
theorem k_X12_digitOf_1 (l : Launch) (D : va_G) (y : Nat → ClassId) (aS : Nat → Nat) (sz : Nat) (p0 : Int32) : Met l yX12_digitOf (Cond.code yX12_digitOf cX12_digitOf 3 (some .int) :: wsL_law) ({ frames := 1, cells := 0, slots := 0, locals := 22 } : Room) (va_Pc [.int p0, .int 2, .int 1] (gI D y aS [] sz)) (va_Qi (fun (r : Int32) (u : Unit) => ((p0 / 1) - (p0 / 1) / 10 * 10) = r) (fun u => gO D (va_A [] sz) []) (va_A [] sz)) 0 0 (va_A [] sz) := by
  refine g_of (by decide) (Nat.le_of_ble_eq_true rfl) ?_
  intro p e s m below meth c ls A hx hb hr hml hown hg hlocks hin hsz hK hP hD hS hA hAe hl
  rw [← hAe]
  replace hown : s.vm.findClass RX12 = some m.cls := hown
  replace hl : lv_has ls 3 [(0, .int p0), (1, .int 2), (2, .int 1)] := hl
  refine lv_iload_n hx hb dX12_digitOf_0 rfl (lv_at hl 0 rfl) ?_
  refine lv_iload_n hx hb dX12_digitOf_1 rfl (lv_at hl 1 rfl) ?_
  refine lv_iconst (v := 1) hx hb dX12_digitOf_2 (by decide) ?_
  refine lv_isub hx hb dX12_digitOf_3 ?_
  refine g_fi (v := 1) (by decide +kernel) ?_
  refine lv_iload_n hx hb dX12_digitOf_4 rfl (lv_at hl 2 rfl) ?_
  refine lv_isub hx hb dX12_digitOf_5 ?_
  refine g_fi (v := 0) (by decide +kernel) ?_
  refine g_ai (wr := []) (va_runS (As := [.int 0]) (rest := [.int p0]) ⟨hx, hb, hml, hown, hg⟩ (k_X12_power_2 l D y aS s.heap.size) (va_cwS 1 hg ggS_RX12_481_X12_power rfl rfl rfl (by decide +kernel) ⟨Nat.le_of_ble_eq_true rfl, Nat.le_of_ble_eq_true rfl⟩) (g_preS hK hP hD [] rfl (by decide)) rfl rfl hl.1 rfl (lv_room (Nat.le_of_ble_eq_true rfl)) dX12_digitOf_6 ⟨Nat.le_of_ble_eq_true rfl, Nat.le_of_ble_eq_true rfl⟩) hP hD hS hA [] [] rfl rfl (by decide) (by decide) ?_
  clear hP hD hS
  refine fun r21746 u H locs hq hP hD hS => ?_
  subst hq
  replace hP : va_P D vwCl [] H := hP
  replace hD : va_D A [] := hD
  refine lv_idiv hx hb dX12_digitOf_9 (by decide +kernel) ?_
  refine lv_bipush (v := 10) hx hb dX12_digitOf_10 (by decide +kernel) ?_
  refine lv_irem hx hb dX12_digitOf_12 (by decide +kernel) ?_
  exact g_iret hx hb hr hlocks () hP hD hS rfl rfl (Nat.le_of_ble_eq_true rfl) (Nat.le_of_ble_eq_true rfl) dX12_digitOf_13
set_option maxRecDepth 100000 in
set_option maxHeartbeats 4000000 in
theorem k_X12_digitOf_2 (l : Launch) (D : va_G) (y : Nat → ClassId) (aS : Nat → Nat) (sz : Nat) (p0 : Int32) : Met l yX12_digitOf (Cond.code yX12_digitOf cX12_digitOf 3 (some .int) :: wsL_law) ({ frames := 1, cells := 0, slots := 0, locals := 22 } : Room) (va_Pc [.int p0, .int 3, .int 0] (gI D y aS [] sz)) (va_Qi (fun (r : Int32) (u : Unit) => ((p0 / 100) - (p0 / 100) / 10 * 10) = r) (fun u => gO D (va_A [] sz) []) (va_A [] sz)) 0 0 (va_A [] sz) := by
  refine g_of (by decide) (Nat.le_of_ble_eq_true rfl) ?_
  intro p e s m below meth c ls A hx hb hr hml hown hg hlocks hin hsz hK hP hD hS hA hAe hl
  rw [← hAe]
  replace hown : s.vm.findClass RX12 = some m.cls := hown
  replace hl : lv_has ls 3 [(0, .int p0), (1, .int 3), (2, .int 0)] := hl
  refine lv_iload_n hx hb dX12_digitOf_0 rfl (lv_at hl 0 rfl) ?_
  refine lv_iload_n hx hb dX12_digitOf_1 rfl (lv_at hl 1 rfl) ?_
  refine lv_iconst (v := 1) hx hb dX12_digitOf_2 (by decide) ?_
  refine lv_isub hx hb dX12_digitOf_3 ?_
  refine g_fi (v := 2) (by decide +kernel) ?_
  refine lv_iload_n hx hb dX12_digitOf_4 rfl (lv_at hl 2 rfl) ?_
  refine lv_isub hx hb dX12_digitOf_5 ?_
  refine g_fi (v := 2) (by decide +kernel) ?_
  refine g_ai (wr := []) (va_runS (As := [.int 2]) (rest := [.int p0]) ⟨hx, hb, hml, hown, hg⟩ (k_X12_power_0 l D y aS s.heap.size 2 (by first | decide +kernel | omega) (by first | decide +kernel | omega)) (va_cwS 1 hg ggS_RX12_481_X12_power rfl rfl rfl (by decide +kernel) ⟨Nat.le_of_ble_eq_true rfl, Nat.le_of_ble_eq_true rfl⟩) (g_preS hK hP hD [] rfl (by decide)) rfl rfl hl.1 rfl (lv_room (Nat.le_of_ble_eq_true rfl)) dX12_digitOf_6 ⟨Nat.le_of_ble_eq_true rfl, Nat.le_of_ble_eq_true rfl⟩) hP hD hS hA [] [] rfl rfl (by decide) (by decide) ?_
  clear hP hD hS
  refine fun r21767 u H locs hq hP hD hS => ?_
  rcases hq with ⟨rfl, z21768⟩ | ⟨rfl, z21769, z21770⟩ | ⟨rfl, z21771, z21772⟩ | ⟨rfl, z21773, z21774⟩ | ⟨rfl, z21775⟩
  ·
    replace hP : va_P D vwCl [] H := hP
    replace hD : va_D A [] := hD
    refine lv_idiv hx hb dX12_digitOf_9 (by decide +kernel) ?_
    refine lv_bipush (v := 10) hx hb dX12_digitOf_10 (by decide +kernel) ?_
    refine lv_irem hx hb dX12_digitOf_12 (by decide +kernel) ?_
    exact g_iret hx hb hr hlocks () hP hD hS rfl rfl (Nat.le_of_ble_eq_true rfl) (Nat.le_of_ble_eq_true rfl) dX12_digitOf_13
  · exfalso; (try dsimp only at *); omega
  · exfalso; (try dsimp only at *); omega
  · exfalso; (try dsimp only at *); omega
  · exfalso; (try dsimp only at *); omega
set_option maxRecDepth 100000 in
set_option maxHeartbeats 4000000 in
theorem k_X12_digitOf_3 (l : Launch) (D : va_G) (y : Nat → ClassId) (aS : Nat → Nat) (sz : Nat) (p0 : Int32) : Met l yX12_digitOf (Cond.code yX12_digitOf cX12_digitOf 3 (some .int) :: wsL_law) ({ frames := 1, cells := 0, slots := 0, locals := 22 } : Room) (va_Pc [.int p0, .int 3, .int 1] (gI D y aS [] sz)) (va_Qi (fun (r : Int32) (u : Unit) => ((p0 / 10) - (p0 / 10) / 10 * 10) = r) (fun u => gO D (va_A [] sz) []) (va_A [] sz)) 0 0 (va_A [] sz) := by
  refine g_of (by decide) (Nat.le_of_ble_eq_true rfl) ?_
  intro p e s m below meth c ls A hx hb hr hml hown hg hlocks hin hsz hK hP hD hS hA hAe hl
  rw [← hAe]
  replace hown : s.vm.findClass RX12 = some m.cls := hown
  replace hl : lv_has ls 3 [(0, .int p0), (1, .int 3), (2, .int 1)] := hl
  refine lv_iload_n hx hb dX12_digitOf_0 rfl (lv_at hl 0 rfl) ?_
  refine lv_iload_n hx hb dX12_digitOf_1 rfl (lv_at hl 1 rfl) ?_
  refine lv_iconst (v := 1) hx hb dX12_digitOf_2 (by decide) ?_
  refine lv_isub hx hb dX12_digitOf_3 ?_
  refine g_fi (v := 2) (by decide +kernel) ?_
  refine lv_iload_n hx hb dX12_digitOf_4 rfl (lv_at hl 2 rfl) ?_
  refine lv_isub hx hb dX12_digitOf_5 ?_
  refine g_fi (v := 1) (by decide +kernel) ?_
  refine g_ai (wr := []) (va_runS (As := [.int 1]) (rest := [.int p0]) ⟨hx, hb, hml, hown, hg⟩ (k_X12_power_1 l D y aS s.heap.size) (va_cwS 1 hg ggS_RX12_481_X12_power rfl rfl rfl (by decide +kernel) ⟨Nat.le_of_ble_eq_true rfl, Nat.le_of_ble_eq_true rfl⟩) (g_preS hK hP hD [] rfl (by decide)) rfl rfl hl.1 rfl (lv_room (Nat.le_of_ble_eq_true rfl)) dX12_digitOf_6 ⟨Nat.le_of_ble_eq_true rfl, Nat.le_of_ble_eq_true rfl⟩) hP hD hS hA [] [] rfl rfl (by decide) (by decide) ?_
  clear hP hD hS
  refine fun r21779 u H locs hq hP hD hS => ?_
  subst hq
  replace hP : va_P D vwCl [] H := hP
  replace hD : va_D A [] := hD
  refine lv_idiv hx hb dX12_digitOf_9 (by decide +kernel) ?_
  refine lv_bipush (v := 10) hx hb dX12_digitOf_10 (by decide +kernel) ?_
  refine lv_irem hx hb dX12_digitOf_12 (by decide +kernel) ?_
  exact g_iret hx hb hr hlocks () hP hD hS rfl rfl (Nat.le_of_ble_eq_true rfl) (Nat.le_of_ble_eq_true rfl) dX12_digitOf_13
set_option maxRecDepth 100000 in
set_option maxHeartbeats 4000000 in
theorem k_X12_digitOf_4 (l : Launch) (D : va_G) (y : Nat → ClassId) (aS : Nat → Nat) (sz : Nat) (p0 : Int32) : Met l yX12_digitOf (Cond.code yX12_digitOf cX12_digitOf 3 (some .int) :: wsL_law) ({ frames := 1, cells := 0, slots := 0, locals := 22 } : Room) (va_Pc [.int p0, .int 3, .int 2] (gI D y aS [] sz)) (va_Qi (fun (r : Int32) (u : Unit) => ((p0 / 1) - (p0 / 1) / 10 * 10) = r) (fun u => gO D (va_A [] sz) []) (va_A [] sz)) 0 0 (va_A [] sz) := by
  refine g_of (by decide) (Nat.le_of_ble_eq_true rfl) ?_
  intro p e s m below meth c ls A hx hb hr hml hown hg hlocks hin hsz hK hP hD hS hA hAe hl
  rw [← hAe]
  replace hown : s.vm.findClass RX12 = some m.cls := hown
  replace hl : lv_has ls 3 [(0, .int p0), (1, .int 3), (2, .int 2)] := hl
  refine lv_iload_n hx hb dX12_digitOf_0 rfl (lv_at hl 0 rfl) ?_
  refine lv_iload_n hx hb dX12_digitOf_1 rfl (lv_at hl 1 rfl) ?_
  refine lv_iconst (v := 1) hx hb dX12_digitOf_2 (by decide) ?_
  refine lv_isub hx hb dX12_digitOf_3 ?_
  refine g_fi (v := 2) (by decide +kernel) ?_
  refine lv_iload_n hx hb dX12_digitOf_4 rfl (lv_at hl 2 rfl) ?_
  refine lv_isub hx hb dX12_digitOf_5 ?_
  refine g_fi (v := 0) (by decide +kernel) ?_
  refine g_ai (wr := []) (va_runS (As := [.int 0]) (rest := [.int p0]) ⟨hx, hb, hml, hown, hg⟩ (k_X12_power_2 l D y aS s.heap.size) (va_cwS 1 hg ggS_RX12_481_X12_power rfl rfl rfl (by decide +kernel) ⟨Nat.le_of_ble_eq_true rfl, Nat.le_of_ble_eq_true rfl⟩) (g_preS hK hP hD [] rfl (by decide)) rfl rfl hl.1 rfl (lv_room (Nat.le_of_ble_eq_true rfl)) dX12_digitOf_6 ⟨Nat.le_of_ble_eq_true rfl, Nat.le_of_ble_eq_true rfl⟩) hP hD hS hA [] [] rfl rfl (by decide) (by decide) ?_
  clear hP hD hS
  refine fun r21783 u H locs hq hP hD hS => ?_
  subst hq
  replace hP : va_P D vwCl [] H := hP
  replace hD : va_D A [] := hD
  refine lv_idiv hx hb dX12_digitOf_9 (by decide +kernel) ?_
  refine lv_bipush (v := 10) hx hb dX12_digitOf_10 (by decide +kernel) ?_
  refine lv_irem hx hb dX12_digitOf_12 (by decide +kernel) ?_
  exact g_iret hx hb hr hlocks () hP hD hS rfl rfl (Nat.le_of_ble_eq_true rfl) (Nat.le_of_ble_eq_true rfl) dX12_digitOf_13
set_option maxRecDepth 100000 in
set_option maxHeartbeats 4000000 in
theorem k_X12_digitOf_5 (l : Launch) (D : va_G) (y : Nat → ClassId) (aS : Nat → Nat) (sz : Nat) (p0 : Int32) : Met l yX12_digitOf (Cond.code yX12_digitOf cX12_digitOf 3 (some .int) :: wsL_law) ({ frames := 1, cells := 0, slots := 0, locals := 22 } : Room) (va_Pc [.int p0, .int 4, .int 0] (gI D y aS [] sz)) (va_Qi (fun (r : Int32) (u : Unit) => ((p0 / 1000) - (p0 / 1000) / 10 * 10) = r) (fun u => gO D (va_A [] sz) []) (va_A [] sz)) 0 0 (va_A [] sz) := by
  refine g_of (by decide) (Nat.le_of_ble_eq_true rfl) ?_
  intro p e s m below meth c ls A hx hb hr hml hown hg hlocks hin hsz hK hP hD hS hA hAe hl
  rw [← hAe]
  replace hown : s.vm.findClass RX12 = some m.cls := hown
  replace hl : lv_has ls 3 [(0, .int p0), (1, .int 4), (2, .int 0)] := hl
  refine lv_iload_n hx hb dX12_digitOf_0 rfl (lv_at hl 0 rfl) ?_
  refine lv_iload_n hx hb dX12_digitOf_1 rfl (lv_at hl 1 rfl) ?_
  refine lv_iconst (v := 1) hx hb dX12_digitOf_2 (by decide) ?_
  refine lv_isub hx hb dX12_digitOf_3 ?_
  refine g_fi (v := 3) (by decide +kernel) ?_
  refine lv_iload_n hx hb dX12_digitOf_4 rfl (lv_at hl 2 rfl) ?_
  refine lv_isub hx hb dX12_digitOf_5 ?_
  refine g_fi (v := 3) (by decide +kernel) ?_
  refine g_ai (wr := []) (va_runS (As := [.int 3]) (rest := [.int p0]) ⟨hx, hb, hml, hown, hg⟩ (k_X12_power_0 l D y aS s.heap.size 3 (by first | decide +kernel | omega) (by first | decide +kernel | omega)) (va_cwS 1 hg ggS_RX12_481_X12_power rfl rfl rfl (by decide +kernel) ⟨Nat.le_of_ble_eq_true rfl, Nat.le_of_ble_eq_true rfl⟩) (g_preS hK hP hD [] rfl (by decide)) rfl rfl hl.1 rfl (lv_room (Nat.le_of_ble_eq_true rfl)) dX12_digitOf_6 ⟨Nat.le_of_ble_eq_true rfl, Nat.le_of_ble_eq_true rfl⟩) hP hD hS hA [] [] rfl rfl (by decide) (by decide) ?_
  clear hP hD hS
  refine fun r21808 u H locs hq hP hD hS => ?_
  rcases hq with ⟨rfl, z21809⟩ | ⟨rfl, z21810, z21811⟩ | ⟨rfl, z21812, z21813⟩ | ⟨rfl, z21814, z21815⟩ | ⟨rfl, z21816⟩
  · exfalso; (try dsimp only at *); omega
  ·
    replace hP : va_P D vwCl [] H := hP
    replace hD : va_D A [] := hD
    refine lv_idiv hx hb dX12_digitOf_9 (by decide +kernel) ?_
    refine lv_bipush (v := 10) hx hb dX12_digitOf_10 (by decide +kernel) ?_
    refine lv_irem hx hb dX12_digitOf_12 (by decide +kernel) ?_
    exact g_iret hx hb hr hlocks () hP hD hS rfl rfl (Nat.le_of_ble_eq_true rfl) (Nat.le_of_ble_eq_true rfl) dX12_digitOf_13
  · exfalso; (try dsimp only at *); omega
  · exfalso; (try dsimp only at *); omega
  · exfalso; (try dsimp only at *); omega
set_option maxRecDepth 100000 in
set_option maxHeartbeats 4000000 in
theorem k_X12_digitOf_6 (l : Launch) (D : va_G) (y : Nat → ClassId) (aS : Nat → Nat) (sz : Nat) (p0 : Int32) : Met l yX12_digitOf (Cond.code yX12_digitOf cX12_digitOf 3 (some .int) :: wsL_law) ({ frames := 1, cells := 0, slots := 0, locals := 22 } : Room) (va_Pc [.int p0, .int 4, .int 1] (gI D y aS [] sz)) (va_Qi (fun (r : Int32) (u : Unit) => ((p0 / 100) - (p0 / 100) / 10 * 10) = r) (fun u => gO D (va_A [] sz) []) (va_A [] sz)) 0 0 (va_A [] sz) := by
  refine g_of (by decide) (Nat.le_of_ble_eq_true rfl) ?_
  intro p e s m below meth c ls A hx hb hr hml hown hg hlocks hin hsz hK hP hD hS hA hAe hl
  rw [← hAe]
  replace hown : s.vm.findClass RX12 = some m.cls := hown
  replace hl : lv_has ls 3 [(0, .int p0), (1, .int 4), (2, .int 1)] := hl
  refine lv_iload_n hx hb dX12_digitOf_0 rfl (lv_at hl 0 rfl) ?_
  refine lv_iload_n hx hb dX12_digitOf_1 rfl (lv_at hl 1 rfl) ?_
  refine lv_iconst (v := 1) hx hb dX12_digitOf_2 (by decide) ?_
  refine lv_isub hx hb dX12_digitOf_3 ?_
  refine g_fi (v := 3) (by decide +kernel) ?_
  refine lv_iload_n hx hb dX12_digitOf_4 rfl (lv_at hl 2 rfl) ?_
  refine lv_isub hx hb dX12_digitOf_5 ?_
  refine g_fi (v := 2) (by decide +kernel) ?_
  refine g_ai (wr := []) (va_runS (As := [.int 2]) (rest := [.int p0]) ⟨hx, hb, hml, hown, hg⟩ (k_X12_power_0 l D y aS s.heap.size 2 (by first | decide +kernel | omega) (by first | decide +kernel | omega)) (va_cwS 1 hg ggS_RX12_481_X12_power rfl rfl rfl (by decide +kernel) ⟨Nat.le_of_ble_eq_true rfl, Nat.le_of_ble_eq_true rfl⟩) (g_preS hK hP hD [] rfl (by decide)) rfl rfl hl.1 rfl (lv_room (Nat.le_of_ble_eq_true rfl)) dX12_digitOf_6 ⟨Nat.le_of_ble_eq_true rfl, Nat.le_of_ble_eq_true rfl⟩) hP hD hS hA [] [] rfl rfl (by decide) (by decide) ?_
  clear hP hD hS
  refine fun r21828 u H locs hq hP hD hS => ?_
  rcases hq with ⟨rfl, z21829⟩ | ⟨rfl, z21830, z21831⟩ | ⟨rfl, z21832, z21833⟩ | ⟨rfl, z21834, z21835⟩ | ⟨rfl, z21836⟩
  ·
    replace hP : va_P D vwCl [] H := hP
    replace hD : va_D A [] := hD
    refine lv_idiv hx hb dX12_digitOf_9 (by decide +kernel) ?_
    refine lv_bipush (v := 10) hx hb dX12_digitOf_10 (by decide +kernel) ?_
    refine lv_irem hx hb dX12_digitOf_12 (by decide +kernel) ?_
    exact g_iret hx hb hr hlocks () hP hD hS rfl rfl (Nat.le_of_ble_eq_true rfl) (Nat.le_of_ble_eq_true rfl) dX12_digitOf_13
  · exfalso; (try dsimp only at *); omega
  · exfalso; (try dsimp only at *); omega
  · exfalso; (try dsimp only at *); omega
  · exfalso; (try dsimp only at *); omega
set_option maxRecDepth 100000 in
set_option maxHeartbeats 4000000 in
theorem k_X12_digitOf_7 (l : Launch) (D : va_G) (y : Nat → ClassId) (aS : Nat → Nat) (sz : Nat) (p0 : Int32) : Met l yX12_digitOf (Cond.code yX12_digitOf cX12_digitOf 3 (some .int) :: wsL_law) ({ frames := 1, cells := 0, slots := 0, locals := 22 } : Room) (va_Pc [.int p0, .int 4, .int 2] (gI D y aS [] sz)) (va_Qi (fun (r : Int32) (u : Unit) => ((p0 / 10) - (p0 / 10) / 10 * 10) = r) (fun u => gO D (va_A [] sz) []) (va_A [] sz)) 0 0 (va_A [] sz) := by
  refine g_of (by decide) (Nat.le_of_ble_eq_true rfl) ?_
  intro p e s m below meth c ls A hx hb hr hml hown hg hlocks hin hsz hK hP hD hS hA hAe hl
  rw [← hAe]
  replace hown : s.vm.findClass RX12 = some m.cls := hown
  replace hl : lv_has ls 3 [(0, .int p0), (1, .int 4), (2, .int 2)] := hl
  refine lv_iload_n hx hb dX12_digitOf_0 rfl (lv_at hl 0 rfl) ?_
  refine lv_iload_n hx hb dX12_digitOf_1 rfl (lv_at hl 1 rfl) ?_
  refine lv_iconst (v := 1) hx hb dX12_digitOf_2 (by decide) ?_
  refine lv_isub hx hb dX12_digitOf_3 ?_
  refine g_fi (v := 3) (by decide +kernel) ?_
  refine lv_iload_n hx hb dX12_digitOf_4 rfl (lv_at hl 2 rfl) ?_
  refine lv_isub hx hb dX12_digitOf_5 ?_
  refine g_fi (v := 1) (by decide +kernel) ?_
  refine g_ai (wr := []) (va_runS (As := [.int 1]) (rest := [.int p0]) ⟨hx, hb, hml, hown, hg⟩ (k_X12_power_1 l D y aS s.heap.size) (va_cwS 1 hg ggS_RX12_481_X12_power rfl rfl rfl (by decide +kernel) ⟨Nat.le_of_ble_eq_true rfl, Nat.le_of_ble_eq_true rfl⟩) (g_preS hK hP hD [] rfl (by decide)) rfl rfl hl.1 rfl (lv_room (Nat.le_of_ble_eq_true rfl)) dX12_digitOf_6 ⟨Nat.le_of_ble_eq_true rfl, Nat.le_of_ble_eq_true rfl⟩) hP hD hS hA [] [] rfl rfl (by decide) (by decide) ?_
  clear hP hD hS
  refine fun r21840 u H locs hq hP hD hS => ?_
  subst hq
  replace hP : va_P D vwCl [] H := hP
  replace hD : va_D A [] := hD
  refine lv_idiv hx hb dX12_digitOf_9 (by decide +kernel) ?_
  refine lv_bipush (v := 10) hx hb dX12_digitOf_10 (by decide +kernel) ?_
  refine lv_irem hx hb dX12_digitOf_12 (by decide +kernel) ?_
  exact g_iret hx hb hr hlocks () hP hD hS rfl rfl (Nat.le_of_ble_eq_true rfl) (Nat.le_of_ble_eq_true rfl) dX12_digitOf_13
set_option maxRecDepth 100000 in
set_option maxHeartbeats 4000000 in
theorem k_X12_digitOf_8 (l : Launch) (D : va_G) (y : Nat → ClassId) (aS : Nat → Nat) (sz : Nat) (p0 : Int32) : Met l yX12_digitOf (Cond.code yX12_digitOf cX12_digitOf 3 (some .int) :: wsL_law) ({ frames := 1, cells := 0, slots := 0, locals := 22 } : Room) (va_Pc [.int p0, .int 4, .int 3] (gI D y aS [] sz)) (va_Qi (fun (r : Int32) (u : Unit) => ((p0 / 1) - (p0 / 1) / 10 * 10) = r) (fun u => gO D (va_A [] sz) []) (va_A [] sz)) 0 0 (va_A [] sz) := by
  refine g_of (by decide) (Nat.le_of_ble_eq_true rfl) ?_
  intro p e s m below meth c ls A hx hb hr hml hown hg hlocks hin hsz hK hP hD hS hA hAe hl
  rw [← hAe]
  replace hown : s.vm.findClass RX12 = some m.cls := hown
  replace hl : lv_has ls 3 [(0, .int p0), (1, .int 4), (2, .int 3)] := hl
  refine lv_iload_n hx hb dX12_digitOf_0 rfl (lv_at hl 0 rfl) ?_
  refine lv_iload_n hx hb dX12_digitOf_1 rfl (lv_at hl 1 rfl) ?_
  refine lv_iconst (v := 1) hx hb dX12_digitOf_2 (by decide) ?_
  refine lv_isub hx hb dX12_digitOf_3 ?_
  refine g_fi (v := 3) (by decide +kernel) ?_
  refine lv_iload_n hx hb dX12_digitOf_4 rfl (lv_at hl 2 rfl) ?_
  refine lv_isub hx hb dX12_digitOf_5 ?_
  refine g_fi (v := 0) (by decide +kernel) ?_
  refine g_ai (wr := []) (va_runS (As := [.int 0]) (rest := [.int p0]) ⟨hx, hb, hml, hown, hg⟩ (k_X12_power_2 l D y aS s.heap.size) (va_cwS 1 hg ggS_RX12_481_X12_power rfl rfl rfl (by decide +kernel) ⟨Nat.le_of_ble_eq_true rfl, Nat.le_of_ble_eq_true rfl⟩) (g_preS hK hP hD [] rfl (by decide)) rfl rfl hl.1 rfl (lv_room (Nat.le_of_ble_eq_true rfl)) dX12_digitOf_6 ⟨Nat.le_of_ble_eq_true rfl, Nat.le_of_ble_eq_true rfl⟩) hP hD hS hA [] [] rfl rfl (by decide) (by decide) ?_
  clear hP hD hS
  refine fun r21844 u H locs hq hP hD hS => ?_
  subst hq
  replace hP : va_P D vwCl [] H := hP
  replace hD : va_D A [] := hD
  refine lv_idiv hx hb dX12_digitOf_9 (by decide +kernel) ?_
  refine lv_bipush (v := 10) hx hb dX12_digitOf_10 (by decide +kernel) ?_
  refine lv_irem hx hb dX12_digitOf_12 (by decide +kernel) ?_
  exact g_iret hx hb hr hlocks () hP hD hS rfl rfl (Nat.le_of_ble_eq_true rfl) (Nat.le_of_ble_eq_true rfl) dX12_digitOf_13
set_option maxRecDepth 100000 in
set_option maxHeartbeats 4000000 in
theorem k_X12_digitOf_9 (l : Launch) (D : va_G) (y : Nat → ClassId) (aS : Nat → Nat) (sz : Nat) (p0 : Int32) : Met l yX12_digitOf (Cond.code yX12_digitOf cX12_digitOf 3 (some .int) :: wsL_law) ({ frames := 1, cells := 0, slots := 0, locals := 22 } : Room) (va_Pc [.int p0, .int 5, .int 0] (gI D y aS [] sz)) (va_Qi (fun (r : Int32) (u : Unit) => ((p0 / 10000) - (p0 / 10000) / 10 * 10) = r) (fun u => gO D (va_A [] sz) []) (va_A [] sz)) 0 0 (va_A [] sz) := by
  refine g_of (by decide) (Nat.le_of_ble_eq_true rfl) ?_
  intro p e s m below meth c ls A hx hb hr hml hown hg hlocks hin hsz hK hP hD hS hA hAe hl
  rw [← hAe]
  replace hown : s.vm.findClass RX12 = some m.cls := hown
  replace hl : lv_has ls 3 [(0, .int p0), (1, .int 5), (2, .int 0)] := hl
  refine lv_iload_n hx hb dX12_digitOf_0 rfl (lv_at hl 0 rfl) ?_
  refine lv_iload_n hx hb dX12_digitOf_1 rfl (lv_at hl 1 rfl) ?_
  refine lv_iconst (v := 1) hx hb dX12_digitOf_2 (by decide) ?_
  refine lv_isub hx hb dX12_digitOf_3 ?_
  refine g_fi (v := 4) (by decide +kernel) ?_
  refine lv_iload_n hx hb dX12_digitOf_4 rfl (lv_at hl 2 rfl) ?_
  refine lv_isub hx hb dX12_digitOf_5 ?_
  refine g_fi (v := 4) (by decide +kernel) ?_
  refine g_ai (wr := []) (va_runS (As := [.int 4]) (rest := [.int p0]) ⟨hx, hb, hml, hown, hg⟩ (k_X12_power_0 l D y aS s.heap.size 4 (by first | decide +kernel | omega) (by first | decide +kernel | omega)) (va_cwS 1 hg ggS_RX12_481_X12_power rfl rfl rfl (by decide +kernel) ⟨Nat.le_of_ble_eq_true rfl, Nat.le_of_ble_eq_true rfl⟩) (g_preS hK hP hD [] rfl (by decide)) rfl rfl hl.1 rfl (lv_room (Nat.le_of_ble_eq_true rfl)) dX12_digitOf_6 ⟨Nat.le_of_ble_eq_true rfl, Nat.le_of_ble_eq_true rfl⟩) hP hD hS hA [] [] rfl rfl (by decide) (by decide) ?_
  clear hP hD hS
  refine fun r21873 u H locs hq hP hD hS => ?_
  rcases hq with ⟨rfl, z21874⟩ | ⟨rfl, z21875, z21876⟩ | ⟨rfl, z21877, z21878⟩ | ⟨rfl, z21879, z21880⟩ | ⟨rfl, z21881⟩
  · exfalso; (try dsimp only at *); omega
  · exfalso; (try dsimp only at *); omega
  ·
    replace hP : va_P D vwCl [] H := hP
    replace hD : va_D A [] := hD
    refine lv_idiv hx hb dX12_digitOf_9 (by decide +kernel) ?_
    refine lv_bipush (v := 10) hx hb dX12_digitOf_10 (by decide +kernel) ?_
    refine lv_irem hx hb dX12_digitOf_12 (by decide +kernel) ?_
    exact g_iret hx hb hr hlocks () hP hD hS rfl rfl (Nat.le_of_ble_eq_true rfl) (Nat.le_of_ble_eq_true rfl) dX12_digitOf_13
  · exfalso; (try dsimp only at *); omega
  · exfalso; (try dsimp only at *); omega
set_option maxRecDepth 100000 in
set_option maxHeartbeats 4000000 in
theorem k_X12_digitOf_10 (l : Launch) (D : va_G) (y : Nat → ClassId) (aS : Nat → Nat) (sz : Nat) (p0 : Int32) : Met l yX12_digitOf (Cond.code yX12_digitOf cX12_digitOf 3 (some .int) :: wsL_law) ({ frames := 1, cells := 0, slots := 0, locals := 22 } : Room) (va_Pc [.int p0, .int 5, .int 1] (gI D y aS [] sz)) (va_Qi (fun (r : Int32) (u : Unit) => ((p0 / 1000) - (p0 / 1000) / 10 * 10) = r) (fun u => gO D (va_A [] sz) []) (va_A [] sz)) 0 0 (va_A [] sz) := by
  refine g_of (by decide) (Nat.le_of_ble_eq_true rfl) ?_
  intro p e s m below meth c ls A hx hb hr hml hown hg hlocks hin hsz hK hP hD hS hA hAe hl
  rw [← hAe]
  replace hown : s.vm.findClass RX12 = some m.cls := hown
  replace hl : lv_has ls 3 [(0, .int p0), (1, .int 5), (2, .int 1)] := hl
  refine lv_iload_n hx hb dX12_digitOf_0 rfl (lv_at hl 0 rfl) ?_
  refine lv_iload_n hx hb dX12_digitOf_1 rfl (lv_at hl 1 rfl) ?_
  refine lv_iconst (v := 1) hx hb dX12_digitOf_2 (by decide) ?_
  refine lv_isub hx hb dX12_digitOf_3 ?_
  refine g_fi (v := 4) (by decide +kernel) ?_
  refine lv_iload_n hx hb dX12_digitOf_4 rfl (lv_at hl 2 rfl) ?_
  refine lv_isub hx hb dX12_digitOf_5 ?_
  refine g_fi (v := 3) (by decide +kernel) ?_
  refine g_ai (wr := []) (va_runS (As := [.int 3]) (rest := [.int p0]) ⟨hx, hb, hml, hown, hg⟩ (k_X12_power_0 l D y aS s.heap.size 3 (by first | decide +kernel | omega) (by first | decide +kernel | omega)) (va_cwS 1 hg ggS_RX12_481_X12_power rfl rfl rfl (by decide +kernel) ⟨Nat.le_of_ble_eq_true rfl, Nat.le_of_ble_eq_true rfl⟩) (g_preS hK hP hD [] rfl (by decide)) rfl rfl hl.1 rfl (lv_room (Nat.le_of_ble_eq_true rfl)) dX12_digitOf_6 ⟨Nat.le_of_ble_eq_true rfl, Nat.le_of_ble_eq_true rfl⟩) hP hD hS hA [] [] rfl rfl (by decide) (by decide) ?_
  clear hP hD hS
  refine fun r21893 u H locs hq hP hD hS => ?_
  rcases hq with ⟨rfl, z21894⟩ | ⟨rfl, z21895, z21896⟩ | ⟨rfl, z21897, z21898⟩ | ⟨rfl, z21899, z21900⟩ | ⟨rfl, z21901⟩
  · exfalso; (try dsimp only at *); omega
  ·
    replace hP : va_P D vwCl [] H := hP
    replace hD : va_D A [] := hD
    refine lv_idiv hx hb dX12_digitOf_9 (by decide +kernel) ?_
    refine lv_bipush (v := 10) hx hb dX12_digitOf_10 (by decide +kernel) ?_
    refine lv_irem hx hb dX12_digitOf_12 (by decide +kernel) ?_
    exact g_iret hx hb hr hlocks () hP hD hS rfl rfl (Nat.le_of_ble_eq_true rfl) (Nat.le_of_ble_eq_true rfl) dX12_digitOf_13
  · exfalso; (try dsimp only at *); omega
  · exfalso; (try dsimp only at *); omega
  · exfalso; (try dsimp only at *); omega
set_option maxRecDepth 100000 in
set_option maxHeartbeats 4000000 in
theorem k_X12_digitOf_11 (l : Launch) (D : va_G) (y : Nat → ClassId) (aS : Nat → Nat) (sz : Nat) (p0 : Int32) : Met l yX12_digitOf (Cond.code yX12_digitOf cX12_digitOf 3 (some .int) :: wsL_law) ({ frames := 1, cells := 0, slots := 0, locals := 22 } : Room) (va_Pc [.int p0, .int 5, .int 2] (gI D y aS [] sz)) (va_Qi (fun (r : Int32) (u : Unit) => ((p0 / 100) - (p0 / 100) / 10 * 10) = r) (fun u => gO D (va_A [] sz) []) (va_A [] sz)) 0 0 (va_A [] sz) := by
  refine g_of (by decide) (Nat.le_of_ble_eq_true rfl) ?_
  intro p e s m below meth c ls A hx hb hr hml hown hg hlocks hin hsz hK hP hD hS hA hAe hl
  rw [← hAe]
  replace hown : s.vm.findClass RX12 = some m.cls := hown
  replace hl : lv_has ls 3 [(0, .int p0), (1, .int 5), (2, .int 2)] := hl
  refine lv_iload_n hx hb dX12_digitOf_0 rfl (lv_at hl 0 rfl) ?_
  refine lv_iload_n hx hb dX12_digitOf_1 rfl (lv_at hl 1 rfl) ?_
  refine lv_iconst (v := 1) hx hb dX12_digitOf_2 (by decide) ?_
  refine lv_isub hx hb dX12_digitOf_3 ?_
  refine g_fi (v := 4) (by decide +kernel) ?_
  refine lv_iload_n hx hb dX12_digitOf_4 rfl (lv_at hl 2 rfl) ?_
  refine lv_isub hx hb dX12_digitOf_5 ?_
  refine g_fi (v := 2) (by decide +kernel) ?_
  refine g_ai (wr := []) (va_runS (As := [.int 2]) (rest := [.int p0]) ⟨hx, hb, hml, hown, hg⟩ (k_X12_power_0 l D y aS s.heap.size 2 (by first | decide +kernel | omega) (by first | decide +kernel | omega)) (va_cwS 1 hg ggS_RX12_481_X12_power rfl rfl rfl (by decide +kernel) ⟨Nat.le_of_ble_eq_true rfl, Nat.le_of_ble_eq_true rfl⟩) (g_preS hK hP hD [] rfl (by decide)) rfl rfl hl.1 rfl (lv_room (Nat.le_of_ble_eq_true rfl)) dX12_digitOf_6 ⟨Nat.le_of_ble_eq_true rfl, Nat.le_of_ble_eq_true rfl⟩) hP hD hS hA [] [] rfl rfl (by decide) (by decide) ?_
  clear hP hD hS
  refine fun r21913 u H locs hq hP hD hS => ?_
  rcases hq with ⟨rfl, z21914⟩ | ⟨rfl, z21915, z21916⟩ | ⟨rfl, z21917, z21918⟩ | ⟨rfl, z21919, z21920⟩ | ⟨rfl, z21921⟩
  ·
    replace hP : va_P D vwCl [] H := hP
    replace hD : va_D A [] := hD
    refine lv_idiv hx hb dX12_digitOf_9 (by decide +kernel) ?_
    refine lv_bipush (v := 10) hx hb dX12_digitOf_10 (by decide +kernel) ?_
    refine lv_irem hx hb dX12_digitOf_12 (by decide +kernel) ?_
    exact g_iret hx hb hr hlocks () hP hD hS rfl rfl (Nat.le_of_ble_eq_true rfl) (Nat.le_of_ble_eq_true rfl) dX12_digitOf_13
  · exfalso; (try dsimp only at *); omega
  · exfalso; (try dsimp only at *); omega
  · exfalso; (try dsimp only at *); omega
  · exfalso; (try dsimp only at *); omega
set_option maxRecDepth 100000 in
set_option maxHeartbeats 4000000 in
theorem k_X12_digitOf_12 (l : Launch) (D : va_G) (y : Nat → ClassId) (aS : Nat → Nat) (sz : Nat) (p0 : Int32) : Met l yX12_digitOf (Cond.code yX12_digitOf cX12_digitOf 3 (some .int) :: wsL_law) ({ frames := 1, cells := 0, slots := 0, locals := 22 } : Room) (va_Pc [.int p0, .int 5, .int 3] (gI D y aS [] sz)) (va_Qi (fun (r : Int32) (u : Unit) => ((p0 / 10) - (p0 / 10) / 10 * 10) = r) (fun u => gO D (va_A [] sz) []) (va_A [] sz)) 0 0 (va_A [] sz) := by
  refine g_of (by decide) (Nat.le_of_ble_eq_true rfl) ?_
  intro p e s m below meth c ls A hx hb hr hml hown hg hlocks hin hsz hK hP hD hS hA hAe hl
  rw [← hAe]
  replace hown : s.vm.findClass RX12 = some m.cls := hown
  replace hl : lv_has ls 3 [(0, .int p0), (1, .int 5), (2, .int 3)] := hl
  refine lv_iload_n hx hb dX12_digitOf_0 rfl (lv_at hl 0 rfl) ?_
  refine lv_iload_n hx hb dX12_digitOf_1 rfl (lv_at hl 1 rfl) ?_
  refine lv_iconst (v := 1) hx hb dX12_digitOf_2 (by decide) ?_
  refine lv_isub hx hb dX12_digitOf_3 ?_
  refine g_fi (v := 4) (by decide +kernel) ?_
  refine lv_iload_n hx hb dX12_digitOf_4 rfl (lv_at hl 2 rfl) ?_
  refine lv_isub hx hb dX12_digitOf_5 ?_
  refine g_fi (v := 1) (by decide +kernel) ?_
  refine g_ai (wr := []) (va_runS (As := [.int 1]) (rest := [.int p0]) ⟨hx, hb, hml, hown, hg⟩ (k_X12_power_1 l D y aS s.heap.size) (va_cwS 1 hg ggS_RX12_481_X12_power rfl rfl rfl (by decide +kernel) ⟨Nat.le_of_ble_eq_true rfl, Nat.le_of_ble_eq_true rfl⟩) (g_preS hK hP hD [] rfl (by decide)) rfl rfl hl.1 rfl (lv_room (Nat.le_of_ble_eq_true rfl)) dX12_digitOf_6 ⟨Nat.le_of_ble_eq_true rfl, Nat.le_of_ble_eq_true rfl⟩) hP hD hS hA [] [] rfl rfl (by decide) (by decide) ?_
  clear hP hD hS
  refine fun r21925 u H locs hq hP hD hS => ?_
  subst hq
  replace hP : va_P D vwCl [] H := hP
  replace hD : va_D A [] := hD
  refine lv_idiv hx hb dX12_digitOf_9 (by decide +kernel) ?_
  refine lv_bipush (v := 10) hx hb dX12_digitOf_10 (by decide +kernel) ?_
  refine lv_irem hx hb dX12_digitOf_12 (by decide +kernel) ?_
  exact g_iret hx hb hr hlocks () hP hD hS rfl rfl (Nat.le_of_ble_eq_true rfl) (Nat.le_of_ble_eq_true rfl) dX12_digitOf_13
set_option maxRecDepth 100000 in
set_option maxHeartbeats 4000000 in
theorem k_X12_digitOf_13 (l : Launch) (D : va_G) (y : Nat → ClassId) (aS : Nat → Nat) (sz : Nat) (p0 : Int32) : Met l yX12_digitOf (Cond.code yX12_digitOf cX12_digitOf 3 (some .int) :: wsL_law) ({ frames := 1, cells := 0, slots := 0, locals := 22 } : Room) (va_Pc [.int p0, .int 5, .int 4] (gI D y aS [] sz)) (va_Qi (fun (r : Int32) (u : Unit) => ((p0 / 1) - (p0 / 1) / 10 * 10) = r) (fun u => gO D (va_A [] sz) []) (va_A [] sz)) 0 0 (va_A [] sz) := by
  refine g_of (by decide) (Nat.le_of_ble_eq_true rfl) ?_
  intro p e s m below meth c ls A hx hb hr hml hown hg hlocks hin hsz hK hP hD hS hA hAe hl
  rw [← hAe]
  replace hown : s.vm.findClass RX12 = some m.cls := hown
  replace hl : lv_has ls 3 [(0, .int p0), (1, .int 5), (2, .int 4)] := hl
  refine lv_iload_n hx hb dX12_digitOf_0 rfl (lv_at hl 0 rfl) ?_
  refine lv_iload_n hx hb dX12_digitOf_1 rfl (lv_at hl 1 rfl) ?_
  refine lv_iconst (v := 1) hx hb dX12_digitOf_2 (by decide) ?_
  refine lv_isub hx hb dX12_digitOf_3 ?_
  refine g_fi (v := 4) (by decide +kernel) ?_
  refine lv_iload_n hx hb dX12_digitOf_4 rfl (lv_at hl 2 rfl) ?_
  refine lv_isub hx hb dX12_digitOf_5 ?_
  refine g_fi (v := 0) (by decide +kernel) ?_
  refine g_ai (wr := []) (va_runS (As := [.int 0]) (rest := [.int p0]) ⟨hx, hb, hml, hown, hg⟩ (k_X12_power_2 l D y aS s.heap.size) (va_cwS 1 hg ggS_RX12_481_X12_power rfl rfl rfl (by decide +kernel) ⟨Nat.le_of_ble_eq_true rfl, Nat.le_of_ble_eq_true rfl⟩) (g_preS hK hP hD [] rfl (by decide)) rfl rfl hl.1 rfl (lv_room (Nat.le_of_ble_eq_true rfl)) dX12_digitOf_6 ⟨Nat.le_of_ble_eq_true rfl, Nat.le_of_ble_eq_true rfl⟩) hP hD hS hA [] [] rfl rfl (by decide) (by decide) ?_
  clear hP hD hS
  refine fun r21929 u H locs hq hP hD hS => ?_
  subst hq
  replace hP : va_P D vwCl [] H := hP
  replace hD : va_D A [] := hD
  refine lv_idiv hx hb dX12_digitOf_9 (by decide +kernel) ?_
  refine lv_bipush (v := 10) hx hb dX12_digitOf_10 (by decide +kernel) ?_
  refine lv_irem hx hb dX12_digitOf_12 (by decide +kernel) ?_
  exact g_iret hx hb hr hlocks () hP hD hS rfl rfl (Nat.le_of_ble_eq_true rfl) (Nat.le_of_ble_eq_true rfl) dX12_digitOf_13
set_option maxRecDepth 100000 in
set_option maxHeartbeats 4000000 in
theorem k_X12_digitOf_14 (l : Launch) (D : va_G) (y : Nat → ClassId) (aS : Nat → Nat) (sz : Nat) (p0 : Int32) : Met l yX12_digitOf (Cond.code yX12_digitOf cX12_digitOf 3 (some .int) :: wsL_law) ({ frames := 1, cells := 0, slots := 0, locals := 22 } : Room) (va_Pc [.int p0, .int 6, .int 0] (gI D y aS [] sz)) (va_Qi (fun (r : Int32) (u : Unit) => ((p0 / 100000) - (p0 / 100000) / 10 * 10) = r) (fun u => gO D (va_A [] sz) []) (va_A [] sz)) 0 0 (va_A [] sz) := by
  refine g_of (by decide) (Nat.le_of_ble_eq_true rfl) ?_
  intro p e s m below meth c ls A hx hb hr hml hown hg hlocks hin hsz hK hP hD hS hA hAe hl
  rw [← hAe]
  replace hown : s.vm.findClass RX12 = some m.cls := hown
  replace hl : lv_has ls 3 [(0, .int p0), (1, .int 6), (2, .int 0)] := hl
  refine lv_iload_n hx hb dX12_digitOf_0 rfl (lv_at hl 0 rfl) ?_
  refine lv_iload_n hx hb dX12_digitOf_1 rfl (lv_at hl 1 rfl) ?_
  refine lv_iconst (v := 1) hx hb dX12_digitOf_2 (by decide) ?_
  refine lv_isub hx hb dX12_digitOf_3 ?_
  refine g_fi (v := 5) (by decide +kernel) ?_
  refine lv_iload_n hx hb dX12_digitOf_4 rfl (lv_at hl 2 rfl) ?_
  refine lv_isub hx hb dX12_digitOf_5 ?_
  refine g_fi (v := 5) (by decide +kernel) ?_
  refine g_ai (wr := []) (va_runS (As := [.int 5]) (rest := [.int p0]) ⟨hx, hb, hml, hown, hg⟩ (k_X12_power_0 l D y aS s.heap.size 5 (by first | decide +kernel | omega) (by first | decide +kernel | omega)) (va_cwS 1 hg ggS_RX12_481_X12_power rfl rfl rfl (by decide +kernel) ⟨Nat.le_of_ble_eq_true rfl, Nat.le_of_ble_eq_true rfl⟩) (g_preS hK hP hD [] rfl (by decide)) rfl rfl hl.1 rfl (lv_room (Nat.le_of_ble_eq_true rfl)) dX12_digitOf_6 ⟨Nat.le_of_ble_eq_true rfl, Nat.le_of_ble_eq_true rfl⟩) hP hD hS hA [] [] rfl rfl (by decide) (by decide) ?_
  clear hP hD hS
  refine fun r21962 u H locs hq hP hD hS => ?_
  rcases hq with ⟨rfl, z21963⟩ | ⟨rfl, z21964, z21965⟩ | ⟨rfl, z21966, z21967⟩ | ⟨rfl, z21968, z21969⟩ | ⟨rfl, z21970⟩
  · exfalso; (try dsimp only at *); omega
  · exfalso; (try dsimp only at *); omega
  · exfalso; (try dsimp only at *); omega
  ·
    replace hP : va_P D vwCl [] H := hP
    replace hD : va_D A [] := hD
    refine lv_idiv hx hb dX12_digitOf_9 (by decide +kernel) ?_
    refine lv_bipush (v := 10) hx hb dX12_digitOf_10 (by decide +kernel) ?_
    refine lv_irem hx hb dX12_digitOf_12 (by decide +kernel) ?_
    exact g_iret hx hb hr hlocks () hP hD hS rfl rfl (Nat.le_of_ble_eq_true rfl) (Nat.le_of_ble_eq_true rfl) dX12_digitOf_13
  · exfalso; (try dsimp only at *); omega
set_option maxRecDepth 100000 in
set_option maxHeartbeats 4000000 in
theorem k_X12_digitOf_15 (l : Launch) (D : va_G) (y : Nat → ClassId) (aS : Nat → Nat) (sz : Nat) (p0 : Int32) : Met l yX12_digitOf (Cond.code yX12_digitOf cX12_digitOf 3 (some .int) :: wsL_law) ({ frames := 1, cells := 0, slots := 0, locals := 22 } : Room) (va_Pc [.int p0, .int 6, .int 1] (gI D y aS [] sz)) (va_Qi (fun (r : Int32) (u : Unit) => ((p0 / 10000) - (p0 / 10000) / 10 * 10) = r) (fun u => gO D (va_A [] sz) []) (va_A [] sz)) 0 0 (va_A [] sz) := by
  refine g_of (by decide) (Nat.le_of_ble_eq_true rfl) ?_
  intro p e s m below meth c ls A hx hb hr hml hown hg hlocks hin hsz hK hP hD hS hA hAe hl
  rw [← hAe]
  replace hown : s.vm.findClass RX12 = some m.cls := hown
  replace hl : lv_has ls 3 [(0, .int p0), (1, .int 6), (2, .int 1)] := hl
  refine lv_iload_n hx hb dX12_digitOf_0 rfl (lv_at hl 0 rfl) ?_
  refine lv_iload_n hx hb dX12_digitOf_1 rfl (lv_at hl 1 rfl) ?_
  refine lv_iconst (v := 1) hx hb dX12_digitOf_2 (by decide) ?_
  refine lv_isub hx hb dX12_digitOf_3 ?_
  refine g_fi (v := 5) (by decide +kernel) ?_
  refine lv_iload_n hx hb dX12_digitOf_4 rfl (lv_at hl 2 rfl) ?_
  refine lv_isub hx hb dX12_digitOf_5 ?_
  refine g_fi (v := 4) (by decide +kernel) ?_
  refine g_ai (wr := []) (va_runS (As := [.int 4]) (rest := [.int p0]) ⟨hx, hb, hml, hown, hg⟩ (k_X12_power_0 l D y aS s.heap.size 4 (by first | decide +kernel | omega) (by first | decide +kernel | omega)) (va_cwS 1 hg ggS_RX12_481_X12_power rfl rfl rfl (by decide +kernel) ⟨Nat.le_of_ble_eq_true rfl, Nat.le_of_ble_eq_true rfl⟩) (g_preS hK hP hD [] rfl (by decide)) rfl rfl hl.1 rfl (lv_room (Nat.le_of_ble_eq_true rfl)) dX12_digitOf_6 ⟨Nat.le_of_ble_eq_true rfl, Nat.le_of_ble_eq_true rfl⟩) hP hD hS hA [] [] rfl rfl (by decide) (by decide) ?_
  clear hP hD hS
  refine fun r21982 u H locs hq hP hD hS => ?_
  rcases hq with ⟨rfl, z21983⟩ | ⟨rfl, z21984, z21985⟩ | ⟨rfl, z21986, z21987⟩ | ⟨rfl, z21988, z21989⟩ | ⟨rfl, z21990⟩
  · exfalso; (try dsimp only at *); omega
  · exfalso; (try dsimp only at *); omega
  ·
    replace hP : va_P D vwCl [] H := hP
    replace hD : va_D A [] := hD
    refine lv_idiv hx hb dX12_digitOf_9 (by decide +kernel) ?_
    refine lv_bipush (v := 10) hx hb dX12_digitOf_10 (by decide +kernel) ?_
    refine lv_irem hx hb dX12_digitOf_12 (by decide +kernel) ?_
    exact g_iret hx hb hr hlocks () hP hD hS rfl rfl (Nat.le_of_ble_eq_true rfl) (Nat.le_of_ble_eq_true rfl) dX12_digitOf_13
  · exfalso; (try dsimp only at *); omega
  · exfalso; (try dsimp only at *); omega
set_option maxRecDepth 100000 in
set_option maxHeartbeats 4000000 in
theorem k_X12_digitOf_16 (l : Launch) (D : va_G) (y : Nat → ClassId) (aS : Nat → Nat) (sz : Nat) (p0 : Int32) : Met l yX12_digitOf (Cond.code yX12_digitOf cX12_digitOf 3 (some .int) :: wsL_law) ({ frames := 1, cells := 0, slots := 0, locals := 22 } : Room) (va_Pc [.int p0, .int 6, .int 2] (gI D y aS [] sz)) (va_Qi (fun (r : Int32) (u : Unit) => ((p0 / 1000) - (p0 / 1000) / 10 * 10) = r) (fun u => gO D (va_A [] sz) []) (va_A [] sz)) 0 0 (va_A [] sz) := by
  refine g_of (by decide) (Nat.le_of_ble_eq_true rfl) ?_
  intro p e s m below meth c ls A hx hb hr hml hown hg hlocks hin hsz hK hP hD hS hA hAe hl
  rw [← hAe]
  replace hown : s.vm.findClass RX12 = some m.cls := hown
  replace hl : lv_has ls 3 [(0, .int p0), (1, .int 6), (2, .int 2)] := hl
  refine lv_iload_n hx hb dX12_digitOf_0 rfl (lv_at hl 0 rfl) ?_
  refine lv_iload_n hx hb dX12_digitOf_1 rfl (lv_at hl 1 rfl) ?_
  refine lv_iconst (v := 1) hx hb dX12_digitOf_2 (by decide) ?_
  refine lv_isub hx hb dX12_digitOf_3 ?_
  refine g_fi (v := 5) (by decide +kernel) ?_
  refine lv_iload_n hx hb dX12_digitOf_4 rfl (lv_at hl 2 rfl) ?_
  refine lv_isub hx hb dX12_digitOf_5 ?_
  refine g_fi (v := 3) (by decide +kernel) ?_
  refine g_ai (wr := []) (va_runS (As := [.int 3]) (rest := [.int p0]) ⟨hx, hb, hml, hown, hg⟩ (k_X12_power_0 l D y aS s.heap.size 3 (by first | decide +kernel | omega) (by first | decide +kernel | omega)) (va_cwS 1 hg ggS_RX12_481_X12_power rfl rfl rfl (by decide +kernel) ⟨Nat.le_of_ble_eq_true rfl, Nat.le_of_ble_eq_true rfl⟩) (g_preS hK hP hD [] rfl (by decide)) rfl rfl hl.1 rfl (lv_room (Nat.le_of_ble_eq_true rfl)) dX12_digitOf_6 ⟨Nat.le_of_ble_eq_true rfl, Nat.le_of_ble_eq_true rfl⟩) hP hD hS hA [] [] rfl rfl (by decide) (by decide) ?_
  clear hP hD hS
  refine fun r22002 u H locs hq hP hD hS => ?_
  rcases hq with ⟨rfl, z22003⟩ | ⟨rfl, z22004, z22005⟩ | ⟨rfl, z22006, z22007⟩ | ⟨rfl, z22008, z22009⟩ | ⟨rfl, z22010⟩
  · exfalso; (try dsimp only at *); omega
  ·
    replace hP : va_P D vwCl [] H := hP
    replace hD : va_D A [] := hD
    refine lv_idiv hx hb dX12_digitOf_9 (by decide +kernel) ?_
    refine lv_bipush (v := 10) hx hb dX12_digitOf_10 (by decide +kernel) ?_
    refine lv_irem hx hb dX12_digitOf_12 (by decide +kernel) ?_
    exact g_iret hx hb hr hlocks () hP hD hS rfl rfl (Nat.le_of_ble_eq_true rfl) (Nat.le_of_ble_eq_true rfl) dX12_digitOf_13
  · exfalso; (try dsimp only at *); omega
  · exfalso; (try dsimp only at *); omega
  · exfalso; (try dsimp only at *); omega
set_option maxRecDepth 100000 in
set_option maxHeartbeats 4000000 in
theorem k_X12_digitOf_17 (l : Launch) (D : va_G) (y : Nat → ClassId) (aS : Nat → Nat) (sz : Nat) (p0 : Int32) : Met l yX12_digitOf (Cond.code yX12_digitOf cX12_digitOf 3 (some .int) :: wsL_law) ({ frames := 1, cells := 0, slots := 0, locals := 22 } : Room) (va_Pc [.int p0, .int 6, .int 3] (gI D y aS [] sz)) (va_Qi (fun (r : Int32) (u : Unit) => ((p0 / 100) - (p0 / 100) / 10 * 10) = r) (fun u => gO D (va_A [] sz) []) (va_A [] sz)) 0 0 (va_A [] sz) := by
  refine g_of (by decide) (Nat.le_of_ble_eq_true rfl) ?_
  intro p e s m below meth c ls A hx hb hr hml hown hg hlocks hin hsz hK hP hD hS hA hAe hl
  rw [← hAe]
  replace hown : s.vm.findClass RX12 = some m.cls := hown
  replace hl : lv_has ls 3 [(0, .int p0), (1, .int 6), (2, .int 3)] := hl
  refine lv_iload_n hx hb dX12_digitOf_0 rfl (lv_at hl 0 rfl) ?_
  refine lv_iload_n hx hb dX12_digitOf_1 rfl (lv_at hl 1 rfl) ?_
  refine lv_iconst (v := 1) hx hb dX12_digitOf_2 (by decide) ?_
  refine lv_isub hx hb dX12_digitOf_3 ?_
  refine g_fi (v := 5) (by decide +kernel) ?_
  refine lv_iload_n hx hb dX12_digitOf_4 rfl (lv_at hl 2 rfl) ?_
  refine lv_isub hx hb dX12_digitOf_5 ?_
  refine g_fi (v := 2) (by decide +kernel) ?_
  refine g_ai (wr := []) (va_runS (As := [.int 2]) (rest := [.int p0]) ⟨hx, hb, hml, hown, hg⟩ (k_X12_power_0 l D y aS s.heap.size 2 (by first | decide +kernel | omega) (by first | decide +kernel | omega)) (va_cwS 1 hg ggS_RX12_481_X12_power rfl rfl rfl (by decide +kernel) ⟨Nat.le_of_ble_eq_true rfl, Nat.le_of_ble_eq_true rfl⟩) (g_preS hK hP hD [] rfl (by decide)) rfl rfl hl.1 rfl (lv_room (Nat.le_of_ble_eq_true rfl)) dX12_digitOf_6 ⟨Nat.le_of_ble_eq_true rfl, Nat.le_of_ble_eq_true rfl⟩) hP hD hS hA [] [] rfl rfl (by decide) (by decide) ?_
  clear hP hD hS
  refine fun r22022 u H locs hq hP hD hS => ?_
  rcases hq with ⟨rfl, z22023⟩ | ⟨rfl, z22024, z22025⟩ | ⟨rfl, z22026, z22027⟩ | ⟨rfl, z22028, z22029⟩ | ⟨rfl, z22030⟩
  ·
    replace hP : va_P D vwCl [] H := hP
    replace hD : va_D A [] := hD
    refine lv_idiv hx hb dX12_digitOf_9 (by decide +kernel) ?_
    refine lv_bipush (v := 10) hx hb dX12_digitOf_10 (by decide +kernel) ?_
    refine lv_irem hx hb dX12_digitOf_12 (by decide +kernel) ?_
    exact g_iret hx hb hr hlocks () hP hD hS rfl rfl (Nat.le_of_ble_eq_true rfl) (Nat.le_of_ble_eq_true rfl) dX12_digitOf_13
  · exfalso; (try dsimp only at *); omega
  · exfalso; (try dsimp only at *); omega
  · exfalso; (try dsimp only at *); omega
  · exfalso; (try dsimp only at *); omega
set_option maxRecDepth 100000 in
set_option maxHeartbeats 4000000 in
theorem k_X12_digitOf_18 (l : Launch) (D : va_G) (y : Nat → ClassId) (aS : Nat → Nat) (sz : Nat) (p0 : Int32) : Met l yX12_digitOf (Cond.code yX12_digitOf cX12_digitOf 3 (some .int) :: wsL_law) ({ frames := 1, cells := 0, slots := 0, locals := 22 } : Room) (va_Pc [.int p0, .int 6, .int 4] (gI D y aS [] sz)) (va_Qi (fun (r : Int32) (u : Unit) => ((p0 / 10) - (p0 / 10) / 10 * 10) = r) (fun u => gO D (va_A [] sz) []) (va_A [] sz)) 0 0 (va_A [] sz) := by
  refine g_of (by decide) (Nat.le_of_ble_eq_true rfl) ?_
  intro p e s m below meth c ls A hx hb hr hml hown hg hlocks hin hsz hK hP hD hS hA hAe hl
  rw [← hAe]
  replace hown : s.vm.findClass RX12 = some m.cls := hown
  replace hl : lv_has ls 3 [(0, .int p0), (1, .int 6), (2, .int 4)] := hl
  refine lv_iload_n hx hb dX12_digitOf_0 rfl (lv_at hl 0 rfl) ?_
  refine lv_iload_n hx hb dX12_digitOf_1 rfl (lv_at hl 1 rfl) ?_
  refine lv_iconst (v := 1) hx hb dX12_digitOf_2 (by decide) ?_
  refine lv_isub hx hb dX12_digitOf_3 ?_
  refine g_fi (v := 5) (by decide +kernel) ?_
  refine lv_iload_n hx hb dX12_digitOf_4 rfl (lv_at hl 2 rfl) ?_
  refine lv_isub hx hb dX12_digitOf_5 ?_
  refine g_fi (v := 1) (by decide +kernel) ?_
  refine g_ai (wr := []) (va_runS (As := [.int 1]) (rest := [.int p0]) ⟨hx, hb, hml, hown, hg⟩ (k_X12_power_1 l D y aS s.heap.size) (va_cwS 1 hg ggS_RX12_481_X12_power rfl rfl rfl (by decide +kernel) ⟨Nat.le_of_ble_eq_true rfl, Nat.le_of_ble_eq_true rfl⟩) (g_preS hK hP hD [] rfl (by decide)) rfl rfl hl.1 rfl (lv_room (Nat.le_of_ble_eq_true rfl)) dX12_digitOf_6 ⟨Nat.le_of_ble_eq_true rfl, Nat.le_of_ble_eq_true rfl⟩) hP hD hS hA [] [] rfl rfl (by decide) (by decide) ?_
  clear hP hD hS
  refine fun r22034 u H locs hq hP hD hS => ?_
  subst hq
  replace hP : va_P D vwCl [] H := hP
  replace hD : va_D A [] := hD
  refine lv_idiv hx hb dX12_digitOf_9 (by decide +kernel) ?_
  refine lv_bipush (v := 10) hx hb dX12_digitOf_10 (by decide +kernel) ?_
  refine lv_irem hx hb dX12_digitOf_12 (by decide +kernel) ?_
  exact g_iret hx hb hr hlocks () hP hD hS rfl rfl (Nat.le_of_ble_eq_true rfl) (Nat.le_of_ble_eq_true rfl) dX12_digitOf_13
set_option maxRecDepth 100000 in
set_option maxHeartbeats 4000000 in
theorem k_X12_digitOf_19 (l : Launch) (D : va_G) (y : Nat → ClassId) (aS : Nat → Nat) (sz : Nat) (p0 : Int32) : Met l yX12_digitOf (Cond.code yX12_digitOf cX12_digitOf 3 (some .int) :: wsL_law) ({ frames := 1, cells := 0, slots := 0, locals := 22 } : Room) (va_Pc [.int p0, .int 6, .int 5] (gI D y aS [] sz)) (va_Qi (fun (r : Int32) (u : Unit) => ((p0 / 1) - (p0 / 1) / 10 * 10) = r) (fun u => gO D (va_A [] sz) []) (va_A [] sz)) 0 0 (va_A [] sz) := by
  refine g_of (by decide) (Nat.le_of_ble_eq_true rfl) ?_
  intro p e s m below meth c ls A hx hb hr hml hown hg hlocks hin hsz hK hP hD hS hA hAe hl
  rw [← hAe]
  replace hown : s.vm.findClass RX12 = some m.cls := hown
  replace hl : lv_has ls 3 [(0, .int p0), (1, .int 6), (2, .int 5)] := hl
  refine lv_iload_n hx hb dX12_digitOf_0 rfl (lv_at hl 0 rfl) ?_
  refine lv_iload_n hx hb dX12_digitOf_1 rfl (lv_at hl 1 rfl) ?_
  refine lv_iconst (v := 1) hx hb dX12_digitOf_2 (by decide) ?_
  refine lv_isub hx hb dX12_digitOf_3 ?_
  refine g_fi (v := 5) (by decide +kernel) ?_
  refine lv_iload_n hx hb dX12_digitOf_4 rfl (lv_at hl 2 rfl) ?_
  refine lv_isub hx hb dX12_digitOf_5 ?_
  refine g_fi (v := 0) (by decide +kernel) ?_
  refine g_ai (wr := []) (va_runS (As := [.int 0]) (rest := [.int p0]) ⟨hx, hb, hml, hown, hg⟩ (k_X12_power_2 l D y aS s.heap.size) (va_cwS 1 hg ggS_RX12_481_X12_power rfl rfl rfl (by decide +kernel) ⟨Nat.le_of_ble_eq_true rfl, Nat.le_of_ble_eq_true rfl⟩) (g_preS hK hP hD [] rfl (by decide)) rfl rfl hl.1 rfl (lv_room (Nat.le_of_ble_eq_true rfl)) dX12_digitOf_6 ⟨Nat.le_of_ble_eq_true rfl, Nat.le_of_ble_eq_true rfl⟩) hP hD hS hA [] [] rfl rfl (by decide) (by decide) ?_
  clear hP hD hS
  refine fun r22038 u H locs hq hP hD hS => ?_
  subst hq
  replace hP : va_P D vwCl [] H := hP
  replace hD : va_D A [] := hD
  refine lv_idiv hx hb dX12_digitOf_9 (by decide +kernel) ?_
  refine lv_bipush (v := 10) hx hb dX12_digitOf_10 (by decide +kernel) ?_
  refine lv_irem hx hb dX12_digitOf_12 (by decide +kernel) ?_
  exact g_iret hx hb hr hlocks () hP hD hS rfl rfl (Nat.le_of_ble_eq_true rfl) (Nat.le_of_ble_eq_true rfl) dX12_digitOf_13
set_option maxRecDepth 100000 in
set_option maxHeartbeats 4000000 in
theorem k_X12_secret_0 (l : Launch) (D : va_G) (y : Nat → ClassId) (aS : Nat → Nat) (sz : Nat) (h0 : Nat) (p1 : Int32) (p2 : Int32) (p3 : Int32) (h4 : Nat) (wp22065 : Int32) (wp22066 : Int32) (h7 : Nat) (h8 : Nat) (h9 : Nat) (h10 : Nat) (h11 : Nat) (h12 : Nat) (h13 : Nat) (h14 : Nat) (h15 : Nat) (wp22067 : Int32) (h17 : Nat) (wp22068 : Int32) (h19 : Nat) (wp22069 : Int32) (h21 : Nat) (h22 : Nat) (h23 : Nat) (h24 : Nat) (h25 : Nat) (h26 : Nat) (h27 : Nat) (h28 : Nat) (h29 : Nat) (h30 : Nat) (h31 : Nat) (wp22070 : Int32) (h33 : Nat) (h34 : Nat) (h35 : Nat) (wp22071 : Int32) (h37 : Nat) (h38 : Nat) (h39 : Nat) (h40 : Nat) (h41 : Nat) (h42 : Nat) (h43 : Nat) (h44 : Nat) (h45 : Nat) (h46 : Nat) (h47 : Nat) (h48 : Nat) (h49 : Nat) (h50 : Nat) (h51 : Nat) (wp22072 : Int32) (wp22073 : Int32) (wp22074 : Int32) (wp22075 : Int32) (wp22076 : Int32) (h57 : Nat) (h58 : Nat) (wp22077 : Int32) (h60 : Nat) (h61 : Nat) (wp22078 : Int32) (h63 : Nat) (h64 : Nat) (wp22079 : Int32) (h66 : Nat) (h67 : Nat) (wp22080 : Int32) (h69 : Nat) (h70 : Nat) (h71 : Nat) (h72 : Nat) (wp22081 : Int32) (wp22082 : Int32) (wp22083 : Int32) (wp22084 : Int32) (h77 : Nat) (h78 : Nat) (h79 : Nat) (h80 : Nat) (h81 : Nat) (h82 : Nat) (h83 : Nat) (h84 : Nat) (h85 : Nat) (wf22085 : Nat → Int32) : Met l yX12_secret (Cond.code yX12_secret cX12_secret 6 (some .int) :: wsL_law) ({ frames := 2, cells := 0, slots := 0, locals := 44 } : Room) (va_Pc [.ref h0, .int p1, .int p2, .int p3] (gI D y aS [(h0, .inr (12, (.ref h4 :: .int wp22065 :: .int wp22066 :: .ref h7 :: .ref h8 :: .ref h9 :: .ref h10 :: .ref h11 :: .ref h12 :: .ref h13 :: .ref h14 :: .ref h15 :: .int wp22067 :: .ref h17 :: .int wp22068 :: .ref h19 :: .int wp22069 :: .ref h21 :: .ref h22 :: .ref h23 :: .ref h24 :: .ref h25 :: .ref h26 :: .ref h27 :: .ref h28 :: .ref h29 :: .ref h30 :: .ref h31 :: .int wp22070 :: .ref h33 :: .ref h34 :: .ref h35 :: .int wp22071 :: [.ref h37, .ref h38, .ref h39, .ref h40, .ref h41, .ref h42, .ref h43, .ref h44, .ref h45, .ref h46, .ref h47, .ref h48, .ref h49, .ref h50, .ref h51, .int wp22072, .int wp22073, .int wp22074, .int wp22075, .int wp22076, .ref h57, .ref h58, .int wp22077, .ref h60, .int 0, .ref h61, .int wp22078, .ref h63, .ref h64, .int wp22079, .ref h66, .ref h67, .int wp22080, .ref h69, .ref h70, .ref h71, .ref h72, .int wp22081, .int wp22082, .int wp22083, .int wp22084, .ref h77, .ref h78, .ref h79, .ref h80, .ref h81, .ref h82, .ref h83, .ref h84, .ref h85]))), (h57, .inl (y 0, 3, .inl (fun _ => 0))), (h58, .inl (y 0, 18, .inl wf22085))] sz)) (va_Qi (fun (r : Int32) (u : Int32 × (Nat → Int32) × (Nat → Int32)) => (0 = r ∧ 1 = u.1 ∧ (fun _ => 0) = u.2.1 ∧ wf22085 = u.2.2 ∧ p1.toInt ≤ (-1)) ∨ (0 = r ∧ 1 = u.1 ∧ (fun _ => 0) = u.2.1 ∧ wf22085 = u.2.2 ∧ 3 ≤ p1.toInt) ∨ (0 = r ∧ 2 = u.1 ∧ (fun _ => 0) = u.2.1 ∧ wf22085 = u.2.2 ∧ 0 ≤ p1.toInt ∧ p1.toInt ≤ 2 ∧ p3.toInt ≤ 1) ∨ (0 = r ∧ 2 = u.1 ∧ (fun _ => 0) = u.2.1 ∧ wf22085 = u.2.2 ∧ 0 ≤ p1.toInt ∧ p1.toInt ≤ 2 ∧ 7 ≤ p3.toInt) ∨ (0 = r ∧ 2 = u.1 ∧ (fun _ => 0) = u.2.1 ∧ wf22085 = u.2.2 ∧ 0 ≤ p1.toInt ∧ p1.toInt ≤ 2 ∧ 2 ≤ p3.toInt ∧ p3.toInt ≤ 6 ∧ p2.toInt ≤ (-1)) ∨ (1 = r ∧ 0 = u.1 ∧ (upd (fun _ => 0) ((0 : Int32).toNatClampNeg) 2) = u.2.1 ∧ 0 ≤ p1.toInt ∧ p1.toInt ≤ 0 ∧ 2 ≤ p3.toInt ∧ p3.toInt ≤ 2 ∧ 0 ≤ p2.toInt ∧ p2.toInt ≤ 99) ∨ (1 = r ∧ 0 = u.1 ∧ (upd (fun _ => 0) ((1 : Int32).toNatClampNeg) 2) = u.2.1 ∧ 1 ≤ p1.toInt ∧ p1.toInt ≤ 1 ∧ 2 ≤ p3.toInt ∧ p3.toInt ≤ 2 ∧ 0 ≤ p2.toInt ∧ p2.toInt ≤ 99) ∨ (1 = r ∧ 0 = u.1 ∧ (upd (fun _ => 0) ((2 : Int32).toNatClampNeg) 2) = u.2.1 ∧ 2 ≤ p1.toInt ∧ p1.toInt ≤ 2 ∧ 2 ≤ p3.toInt ∧ p3.toInt ≤ 2 ∧ 0 ≤ p2.toInt ∧ p2.toInt ≤ 99) ∨ (0 = r ∧ 2 = u.1 ∧ (fun _ => 0) = u.2.1 ∧ wf22085 = u.2.2 ∧ 0 ≤ p1.toInt ∧ p1.toInt ≤ 2 ∧ 2 ≤ p3.toInt ∧ p3.toInt ≤ 2 ∧ 100 ≤ p2.toInt) ∨ (1 = r ∧ 0 = u.1 ∧ (upd (fun _ => 0) ((0 : Int32).toNatClampNeg) 3) = u.2.1 ∧ 0 ≤ p1.toInt ∧ p1.toInt ≤ 0 ∧ 3 ≤ p3.toInt ∧ p3.toInt ≤ 3 ∧ 0 ≤ p2.toInt ∧ p2.toInt ≤ 999) ∨ (1 = r ∧ 0 = u.1 ∧ (upd (fun _ => 0) ((1 : Int32).toNatClampNeg) 3) = u.2.1 ∧ 1 ≤ p1.toInt ∧ p1.toInt ≤ 1 ∧ 3 ≤ p3.toInt ∧ p3.toInt ≤ 3 ∧ 0 ≤ p2.toInt ∧ p2.toInt ≤ 999) ∨ (1 = r ∧ 0 = u.1 ∧ (upd (fun _ => 0) ((2 : Int32).toNatClampNeg) 3) = u.2.1 ∧ 2 ≤ p1.toInt ∧ p1.toInt ≤ 2 ∧ 3 ≤ p3.toInt ∧ p3.toInt ≤ 3 ∧ 0 ≤ p2.toInt ∧ p2.toInt ≤ 999) ∨ (0 = r ∧ 2 = u.1 ∧ (fun _ => 0) = u.2.1 ∧ wf22085 = u.2.2 ∧ 0 ≤ p1.toInt ∧ p1.toInt ≤ 2 ∧ 3 ≤ p3.toInt ∧ p3.toInt ≤ 3 ∧ 1000 ≤ p2.toInt) ∨ (1 = r ∧ 0 = u.1 ∧ (upd (fun _ => 0) ((0 : Int32).toNatClampNeg) 4) = u.2.1 ∧ 0 ≤ p1.toInt ∧ p1.toInt ≤ 0 ∧ 4 ≤ p3.toInt ∧ p3.toInt ≤ 4 ∧ 0 ≤ p2.toInt ∧ p2.toInt ≤ 9999) ∨ (1 = r ∧ 0 = u.1 ∧ (upd (fun _ => 0) ((1 : Int32).toNatClampNeg) 4) = u.2.1 ∧ 1 ≤ p1.toInt ∧ p1.toInt ≤ 1 ∧ 4 ≤ p3.toInt ∧ p3.toInt ≤ 4 ∧ 0 ≤ p2.toInt ∧ p2.toInt ≤ 9999) ∨ (1 = r ∧ 0 = u.1 ∧ (upd (fun _ => 0) ((2 : Int32).toNatClampNeg) 4) = u.2.1 ∧ 2 ≤ p1.toInt ∧ p1.toInt ≤ 2 ∧ 4 ≤ p3.toInt ∧ p3.toInt ≤ 4 ∧ 0 ≤ p2.toInt ∧ p2.toInt ≤ 9999) ∨ (0 = r ∧ 2 = u.1 ∧ (fun _ => 0) = u.2.1 ∧ wf22085 = u.2.2 ∧ 0 ≤ p1.toInt ∧ p1.toInt ≤ 2 ∧ 4 ≤ p3.toInt ∧ p3.toInt ≤ 4 ∧ 10000 ≤ p2.toInt) ∨ (1 = r ∧ 0 = u.1 ∧ (upd (fun _ => 0) ((0 : Int32).toNatClampNeg) 5) = u.2.1 ∧ 0 ≤ p1.toInt ∧ p1.toInt ≤ 0 ∧ 5 ≤ p3.toInt ∧ p3.toInt ≤ 5 ∧ 0 ≤ p2.toInt ∧ p2.toInt ≤ 99999) ∨ (1 = r ∧ 0 = u.1 ∧ (upd (fun _ => 0) ((1 : Int32).toNatClampNeg) 5) = u.2.1 ∧ 1 ≤ p1.toInt ∧ p1.toInt ≤ 1 ∧ 5 ≤ p3.toInt ∧ p3.toInt ≤ 5 ∧ 0 ≤ p2.toInt ∧ p2.toInt ≤ 99999) ∨ (1 = r ∧ 0 = u.1 ∧ (upd (fun _ => 0) ((2 : Int32).toNatClampNeg) 5) = u.2.1 ∧ 2 ≤ p1.toInt ∧ p1.toInt ≤ 2 ∧ 5 ≤ p3.toInt ∧ p3.toInt ≤ 5 ∧ 0 ≤ p2.toInt ∧ p2.toInt ≤ 99999) ∨ (0 = r ∧ 2 = u.1 ∧ (fun _ => 0) = u.2.1 ∧ wf22085 = u.2.2 ∧ 0 ≤ p1.toInt ∧ p1.toInt ≤ 2 ∧ 5 ≤ p3.toInt ∧ p3.toInt ≤ 5 ∧ 100000 ≤ p2.toInt) ∨ (1 = r ∧ 0 = u.1 ∧ (upd (fun _ => 0) ((0 : Int32).toNatClampNeg) 6) = u.2.1 ∧ 0 ≤ p1.toInt ∧ p1.toInt ≤ 0 ∧ 6 ≤ p3.toInt ∧ p3.toInt ≤ 6 ∧ 0 ≤ p2.toInt ∧ p2.toInt ≤ 999999) ∨ (1 = r ∧ 0 = u.1 ∧ (upd (fun _ => 0) ((1 : Int32).toNatClampNeg) 6) = u.2.1 ∧ 1 ≤ p1.toInt ∧ p1.toInt ≤ 1 ∧ 6 ≤ p3.toInt ∧ p3.toInt ≤ 6 ∧ 0 ≤ p2.toInt ∧ p2.toInt ≤ 999999) ∨ (1 = r ∧ 0 = u.1 ∧ (upd (fun _ => 0) ((2 : Int32).toNatClampNeg) 6) = u.2.1 ∧ 2 ≤ p1.toInt ∧ p1.toInt ≤ 2 ∧ 6 ≤ p3.toInt ∧ p3.toInt ≤ 6 ∧ 0 ≤ p2.toInt ∧ p2.toInt ≤ 999999) ∨ (0 = r ∧ 2 = u.1 ∧ (fun _ => 0) = u.2.1 ∧ wf22085 = u.2.2 ∧ 0 ≤ p1.toInt ∧ p1.toInt ≤ 2 ∧ 6 ≤ p3.toInt ∧ p3.toInt ≤ 6 ∧ 1000000 ≤ p2.toInt)) (fun u => gO D (va_A [(h0, .inr (12, (.ref h4 :: .int wp22065 :: .int wp22066 :: .ref h7 :: .ref h8 :: .ref h9 :: .ref h10 :: .ref h11 :: .ref h12 :: .ref h13 :: .ref h14 :: .ref h15 :: .int wp22067 :: .ref h17 :: .int wp22068 :: .ref h19 :: .int wp22069 :: .ref h21 :: .ref h22 :: .ref h23 :: .ref h24 :: .ref h25 :: .ref h26 :: .ref h27 :: .ref h28 :: .ref h29 :: .ref h30 :: .ref h31 :: .int wp22070 :: .ref h33 :: .ref h34 :: .ref h35 :: .int wp22071 :: [.ref h37, .ref h38, .ref h39, .ref h40, .ref h41, .ref h42, .ref h43, .ref h44, .ref h45, .ref h46, .ref h47, .ref h48, .ref h49, .ref h50, .ref h51, .int wp22072, .int wp22073, .int wp22074, .int wp22075, .int wp22076, .ref h57, .ref h58, .int wp22077, .ref h60, .int 0, .ref h61, .int wp22078, .ref h63, .ref h64, .int wp22079, .ref h66, .ref h67, .int wp22080, .ref h69, .ref h70, .ref h71, .ref h72, .int wp22081, .int wp22082, .int wp22083, .int wp22084, .ref h77, .ref h78, .ref h79, .ref h80, .ref h81, .ref h82, .ref h83, .ref h84, .ref h85]))), (h57, .inl (y 0, 3, .inl (fun _ => 0))), (h58, .inl (y 0, 18, .inl wf22085))] sz) [(h0, .inr (12, (.ref h4 :: .int wp22065 :: .int wp22066 :: .ref h7 :: .ref h8 :: .ref h9 :: .ref h10 :: .ref h11 :: .ref h12 :: .ref h13 :: .ref h14 :: .ref h15 :: .int wp22067 :: .ref h17 :: .int wp22068 :: .ref h19 :: .int wp22069 :: .ref h21 :: .ref h22 :: .ref h23 :: .ref h24 :: .ref h25 :: .ref h26 :: .ref h27 :: .ref h28 :: .ref h29 :: .ref h30 :: .ref h31 :: .int wp22070 :: .ref h33 :: .ref h34 :: .ref h35 :: .int wp22071 :: [.ref h37, .ref h38, .ref h39, .ref h40, .ref h41, .ref h42, .ref h43, .ref h44, .ref h45, .ref h46, .ref h47, .ref h48, .ref h49, .ref h50, .ref h51, .int wp22072, .int wp22073, .int wp22074, .int wp22075, .int wp22076, .ref h57, .ref h58, .int wp22077, .ref h60, .int u.1, .ref h61, .int wp22078, .ref h63, .ref h64, .int wp22079, .ref h66, .ref h67, .int wp22080, .ref h69, .ref h70, .ref h71, .ref h72, .int wp22081, .int wp22082, .int wp22083, .int wp22084, .ref h77, .ref h78, .ref h79, .ref h80, .ref h81, .ref h82, .ref h83, .ref h84, .ref h85]))), (h57, .inl (y 0, 3, .inl u.2.1)), (h58, .inl (y 0, 18, .inl u.2.2))]) (va_A [(h0, .inr (12, (.ref h4 :: .int wp22065 :: .int wp22066 :: .ref h7 :: .ref h8 :: .ref h9 :: .ref h10 :: .ref h11 :: .ref h12 :: .ref h13 :: .ref h14 :: .ref h15 :: .int wp22067 :: .ref h17 :: .int wp22068 :: .ref h19 :: .int wp22069 :: .ref h21 :: .ref h22 :: .ref h23 :: .ref h24 :: .ref h25 :: .ref h26 :: .ref h27 :: .ref h28 :: .ref h29 :: .ref h30 :: .ref h31 :: .int wp22070 :: .ref h33 :: .ref h34 :: .ref h35 :: .int wp22071 :: [.ref h37, .ref h38, .ref h39, .ref h40, .ref h41, .ref h42, .ref h43, .ref h44, .ref h45, .ref h46, .ref h47, .ref h48, .ref h49, .ref h50, .ref h51, .int wp22072, .int wp22073, .int wp22074, .int wp22075, .int wp22076, .ref h57, .ref h58, .int wp22077, .ref h60, .int 0, .ref h61, .int wp22078, .ref h63, .ref h64, .int wp22079, .ref h66, .ref h67, .int wp22080, .ref h69, .ref h70, .ref h71, .ref h72, .int wp22081, .int wp22082, .int wp22083, .int wp22084, .ref h77, .ref h78, .ref h79, .ref h80, .ref h81, .ref h82, .ref h83, .ref h84, .ref h85]))), (h57, .inl (y 0, 3, .inl (fun _ => 0))), (h58, .inl (y 0, 18, .inl wf22085))] sz)) 0 0 (va_A [(h0, .inr (12, (.ref h4 :: .int wp22065 :: .int wp22066 :: .ref h7 :: .ref h8 :: .ref h9 :: .ref h10 :: .ref h11 :: .ref h12 :: .ref h13 :: .ref h14 :: .ref h15 :: .int wp22067 :: .ref h17 :: .int wp22068 :: .ref h19 :: .int wp22069 :: .ref h21 :: .ref h22 :: .ref h23 :: .ref h24 :: .ref h25 :: .ref h26 :: .ref h27 :: .ref h28 :: .ref h29 :: .ref h30 :: .ref h31 :: .int wp22070 :: .ref h33 :: .ref h34 :: .ref h35 :: .int wp22071 :: [.ref h37, .ref h38, .ref h39, .ref h40, .ref h41, .ref h42, .ref h43, .ref h44, .ref h45, .ref h46, .ref h47, .ref h48, .ref h49, .ref h50, .ref h51, .int wp22072, .int wp22073, .int wp22074, .int wp22075, .int wp22076, .ref h57, .ref h58, .int wp22077, .ref h60, .int 0, .ref h61, .int wp22078, .ref h63, .ref h64, .int wp22079, .ref h66, .ref h67, .int wp22080, .ref h69, .ref h70, .ref h71, .ref h72, .int wp22081, .int wp22082, .int wp22083, .int wp22084, .ref h77, .ref h78, .ref h79, .ref h80, .ref h81, .ref h82, .ref h83, .ref h84, .ref h85]))), (h57, .inl (y 0, 3, .inl (fun _ => 0))), (h58, .inl (y 0, 18, .inl wf22085))] sz) := by
  refine g_of (by decide) (Nat.le_of_ble_eq_true rfl) ?_
  intro p e s m below meth c ls A hx hb hr hml hown hg hlocks hin hsz hK hP hD hS hA hAe hl
  rw [← hAe]
  replace hown : s.vm.findClass RX12 = some m.cls := hown
  replace hl : lv_has ls 6 [(0, .ref h0), (1, .int p1), (2, .int p2), (3, .int p3)] := hl
  refine lv_aload_n hx hb dX12_secret_0 rfl (lv_at hl 0 rfl) ?_
  refine lv_iload_n hx hb dX12_secret_1 rfl (lv_at hl 1 rfl) ?_
  refine lv_iconst (v := 0) hx hb dX12_secret_2 (by decide) ?_
  refine lv_iconst (v := 2) hx hb dX12_secret_3 (by decide) ?_
  refine g_ai (wr := [(h0, .inr (12, (.ref h4 :: .int wp22065 :: .int wp22066 :: .ref h7 :: .ref h8 :: .ref h9 :: .ref h10 :: .ref h11 :: .ref h12 :: .ref h13 :: .ref h14 :: .ref h15 :: .int wp22067 :: .ref h17 :: .int wp22068 :: .ref h19 :: .int wp22069 :: .ref h21 :: .ref h22 :: .ref h23 :: .ref h24 :: .ref h25 :: .ref h26 :: .ref h27 :: .ref h28 :: .ref h29 :: .ref h30 :: .ref h31 :: .int wp22070 :: .ref h33 :: .ref h34 :: .ref h35 :: .int wp22071 :: [.ref h37, .ref h38, .ref h39, .ref h40, .ref h41, .ref h42, .ref h43, .ref h44, .ref h45, .ref h46, .ref h47, .ref h48, .ref h49, .ref h50, .ref h51, .int wp22072, .int wp22073, .int wp22074, .int wp22075, .int wp22076, .ref h57, .ref h58, .int wp22077, .ref h60, .int 0, .ref h61, .int wp22078, .ref h63, .ref h64, .int wp22079, .ref h66, .ref h67, .int wp22080, .ref h69, .ref h70, .ref h71, .ref h72, .int wp22081, .int wp22082, .int wp22083, .int wp22084, .ref h77, .ref h78, .ref h79, .ref h80, .ref h81, .ref h82, .ref h83, .ref h84, .ref h85]))), (h57, .inl (y 0, 3, .inl (fun _ => 0))), (h58, .inl (y 0, 18, .inl wf22085))]) (va_runS (As := [.int p1, .int 0, .int 2]) (rest := [.ref h0]) ⟨hx, hb, hml, hown, hg⟩ (k_X12_in_4 l D y aS s.heap.size p1) (va_cwS 3 hg ggS_RX12_217_X12_in rfl rfl rfl (by decide +kernel) ⟨Nat.le_of_ble_eq_true rfl, Nat.le_of_ble_eq_true rfl⟩) (g_preS hK hP hD [] rfl (by decide)) rfl rfl hl.1 rfl (lv_room (Nat.le_of_ble_eq_true rfl)) dX12_secret_4 ⟨Nat.le_of_ble_eq_true rfl, Nat.le_of_ble_eq_true rfl⟩) hP hD hS hA [] [0, 1, 2] rfl rfl (by decide) (by decide) ?_
  clear hP hD hS
  refine fun r22086 u H locs hq hP hD hS => ?_
  rcases hq with ⟨rfl, z22087⟩ | ⟨rfl, z22088⟩ | ⟨rfl, z22089, z22090⟩
  ·
    replace hP : va_P D vwCl [(h0, .inr (12, (.ref h4 :: .int wp22065 :: .int wp22066 :: .ref h7 :: .ref h8 :: .ref h9 :: .ref h10 :: .ref h11 :: .ref h12 :: .ref h13 :: .ref h14 :: .ref h15 :: .int wp22067 :: .ref h17 :: .int wp22068 :: .ref h19 :: .int wp22069 :: .ref h21 :: .ref h22 :: .ref h23 :: .ref h24 :: .ref h25 :: .ref h26 :: .ref h27 :: .ref h28 :: .ref h29 :: .ref h30 :: .ref h31 :: .int wp22070 :: .ref h33 :: .ref h34 :: .ref h35 :: .int wp22071 :: [.ref h37, .ref h38, .ref h39, .ref h40, .ref h41, .ref h42, .ref h43, .ref h44, .ref h45, .ref h46, .ref h47, .ref h48, .ref h49, .ref h50, .ref h51, .int wp22072, .int wp22073, .int wp22074, .int wp22075, .int wp22076, .ref h57, .ref h58, .int wp22077, .ref h60, .int 0, .ref h61, .int wp22078, .ref h63, .ref h64, .int wp22079, .ref h66, .ref h67, .int wp22080, .ref h69, .ref h70, .ref h71, .ref h72, .int wp22081, .int wp22082, .int wp22083, .int wp22084, .ref h77, .ref h78, .ref h79, .ref h80, .ref h81, .ref h82, .ref h83, .ref h84, .ref h85]))), (h57, .inl (y 0, 3, .inl (fun _ => 0))), (h58, .inl (y 0, 18, .inl wf22085))] H := hP
    replace hD : va_D A [(h0, .inr (12, (.ref h4 :: .int wp22065 :: .int wp22066 :: .ref h7 :: .ref h8 :: .ref h9 :: .ref h10 :: .ref h11 :: .ref h12 :: .ref h13 :: .ref h14 :: .ref h15 :: .int wp22067 :: .ref h17 :: .int wp22068 :: .ref h19 :: .int wp22069 :: .ref h21 :: .ref h22 :: .ref h23 :: .ref h24 :: .ref h25 :: .ref h26 :: .ref h27 :: .ref h28 :: .ref h29 :: .ref h30 :: .ref h31 :: .int wp22070 :: .ref h33 :: .ref h34 :: .ref h35 :: .int wp22071 :: [.ref h37, .ref h38, .ref h39, .ref h40, .ref h41, .ref h42, .ref h43, .ref h44, .ref h45, .ref h46, .ref h47, .ref h48, .ref h49, .ref h50, .ref h51, .int wp22072, .int wp22073, .int wp22074, .int wp22075, .int wp22076, .ref h57, .ref h58, .int wp22077, .ref h60, .int 0, .ref h61, .int wp22078, .ref h63, .ref h64, .int wp22079, .ref h66, .ref h67, .int wp22080, .ref h69, .ref h70, .ref h71, .ref h72, .int wp22081, .int wp22082, .int wp22083, .int wp22084, .ref h77, .ref h78, .ref h79, .ref h80, .ref h81, .ref h82, .ref h83, .ref h84, .ref h85]))), (h57, .inl (y 0, 3, .inl (fun _ => 0))), (h58, .inl (y 0, 18, .inl wf22085))] := hD
    refine lv_if_ne (tgt := 14) hx hb dX12_secret_7 (by decide) (fun c9 => absurd c9 (by decide +kernel)) (fun _ => ?_)
    refine lv_iconst (v := 1) hx hb dX12_secret_10 (by decide) ?_
    refine lv_goto (tgt := 41) hx hb dX12_secret_11 (by decide) ?_
    refine gm_put (D := D) (ci := 12) (v := .int 1) (ty := .int) (C := RX12) (T := TX12) (N := 83) hx hb hg inlX12 tyX12 tyX12_ok nmX12 hown hK.1 hP hD hS 0 rfl rfl 57 (by decide) tX12_57 (hg _ gw_276) (by decide +kernel) rfl rfl (Nat.le_of_ble_eq_true rfl) dX12_secret_41 ?_
    clear hP hD hS H locs
    refine fun H locs (hP : va_P D vwCl [(h0, .inr (12, (.ref h4 :: .int wp22065 :: .int wp22066 :: .ref h7 :: .ref h8 :: .ref h9 :: .ref h10 :: .ref h11 :: .ref h12 :: .ref h13 :: .ref h14 :: .ref h15 :: .int wp22067 :: .ref h17 :: .int wp22068 :: .ref h19 :: .int wp22069 :: .ref h21 :: .ref h22 :: .ref h23 :: .ref h24 :: .ref h25 :: .ref h26 :: .ref h27 :: .ref h28 :: .ref h29 :: .ref h30 :: .ref h31 :: .int wp22070 :: .ref h33 :: .ref h34 :: .ref h35 :: .int wp22071 :: [.ref h37, .ref h38, .ref h39, .ref h40, .ref h41, .ref h42, .ref h43, .ref h44, .ref h45, .ref h46, .ref h47, .ref h48, .ref h49, .ref h50, .ref h51, .int wp22072, .int wp22073, .int wp22074, .int wp22075, .int wp22076, .ref h57, .ref h58, .int wp22077, .ref h60, .int 1, .ref h61, .int wp22078, .ref h63, .ref h64, .int wp22079, .ref h66, .ref h67, .int wp22080, .ref h69, .ref h70, .ref h71, .ref h72, .int wp22081, .int wp22082, .int wp22083, .int wp22084, .ref h77, .ref h78, .ref h79, .ref h80, .ref h81, .ref h82, .ref h83, .ref h84, .ref h85]))), (h57, .inl (y 0, 3, .inl (fun _ => 0))), (h58, .inl (y 0, 18, .inl wf22085))] H) (hD : va_D A [(h0, .inr (12, (.ref h4 :: .int wp22065 :: .int wp22066 :: .ref h7 :: .ref h8 :: .ref h9 :: .ref h10 :: .ref h11 :: .ref h12 :: .ref h13 :: .ref h14 :: .ref h15 :: .int wp22067 :: .ref h17 :: .int wp22068 :: .ref h19 :: .int wp22069 :: .ref h21 :: .ref h22 :: .ref h23 :: .ref h24 :: .ref h25 :: .ref h26 :: .ref h27 :: .ref h28 :: .ref h29 :: .ref h30 :: .ref h31 :: .int wp22070 :: .ref h33 :: .ref h34 :: .ref h35 :: .int wp22071 :: [.ref h37, .ref h38, .ref h39, .ref h40, .ref h41, .ref h42, .ref h43, .ref h44, .ref h45, .ref h46, .ref h47, .ref h48, .ref h49, .ref h50, .ref h51, .int wp22072, .int wp22073, .int wp22074, .int wp22075, .int wp22076, .ref h57, .ref h58, .int wp22077, .ref h60, .int 1, .ref h61, .int wp22078, .ref h63, .ref h64, .int wp22079, .ref h66, .ref h67, .int wp22080, .ref h69, .ref h70, .ref h71, .ref h72, .int wp22081, .int wp22082, .int wp22083, .int wp22084, .ref h77, .ref h78, .ref h79, .ref h80, .ref h81, .ref h82, .ref h83, .ref h84, .ref h85]))), (h57, .inl (y 0, 3, .inl (fun _ => 0))), (h58, .inl (y 0, 18, .inl wf22085))]) hS => ?_
    refine lv_aload_n hx hb dX12_secret_44 rfl (lv_at hl 0 rfl) ?_
    refine gm_get (D := D) (ci := 12) (v := .int 1) (C := RX12) (T := TX12) (N := 83) hx hb hg inlX12 hown hK.1 hP 0 rfl rfl 57 (by decide) tX12_57 (hg _ gw_276) rfl dX12_secret_45 ?_
    refine lv_if_le (tgt := 53) hx hb dX12_secret_48 (by decide) (fun c9 => absurd c9 (by decide +kernel)) (fun _ => ?_)
    refine lv_iconst (v := 0) hx hb dX12_secret_51 (by decide) ?_
    exact g_iret hx hb hr hlocks ⟨1, (fun _ => 0), wf22085⟩ hP hD hS rfl (Or.inl ⟨rfl, rfl, rfl, rfl, (by first | omega | (simp_all; done))⟩) (Nat.le_of_ble_eq_true rfl) (Nat.le_of_ble_eq_true rfl) dX12_secret_52
  ·
    replace hP : va_P D vwCl [(h0, .inr (12, (.ref h4 :: .int wp22065 :: .int wp22066 :: .ref h7 :: .ref h8 :: .ref h9 :: .ref h10 :: .ref h11 :: .ref h12 :: .ref h13 :: .ref h14 :: .ref h15 :: .int wp22067 :: .ref h17 :: .int wp22068 :: .ref h19 :: .int wp22069 :: .ref h21 :: .ref h22 :: .ref h23 :: .ref h24 :: .ref h25 :: .ref h26 :: .ref h27 :: .ref h28 :: .ref h29 :: .ref h30 :: .ref h31 :: .int wp22070 :: .ref h33 :: .ref h34 :: .ref h35 :: .int wp22071 :: [.ref h37, .ref h38, .ref h39, .ref h40, .ref h41, .ref h42, .ref h43, .ref h44, .ref h45, .ref h46, .ref h47, .ref h48, .ref h49, .ref h50, .ref h51, .int wp22072, .int wp22073, .int wp22074, .int wp22075, .int wp22076, .ref h57, .ref h58, .int wp22077, .ref h60, .int 0, .ref h61, .int wp22078, .ref h63, .ref h64, .int wp22079, .ref h66, .ref h67, .int wp22080, .ref h69, .ref h70, .ref h71, .ref h72, .int wp22081, .int wp22082, .int wp22083, .int wp22084, .ref h77, .ref h78, .ref h79, .ref h80, .ref h81, .ref h82, .ref h83, .ref h84, .ref h85]))), (h57, .inl (y 0, 3, .inl (fun _ => 0))), (h58, .inl (y 0, 18, .inl wf22085))] H := hP
    replace hD : va_D A [(h0, .inr (12, (.ref h4 :: .int wp22065 :: .int wp22066 :: .ref h7 :: .ref h8 :: .ref h9 :: .ref h10 :: .ref h11 :: .ref h12 :: .ref h13 :: .ref h14 :: .ref h15 :: .int wp22067 :: .ref h17 :: .int wp22068 :: .ref h19 :: .int wp22069 :: .ref h21 :: .ref h22 :: .ref h23 :: .ref h24 :: .ref h25 :: .ref h26 :: .ref h27 :: .ref h28 :: .ref h29 :: .ref h30 :: .ref h31 :: .int wp22070 :: .ref h33 :: .ref h34 :: .ref h35 :: .int wp22071 :: [.ref h37, .ref h38, .ref h39, .ref h40, .ref h41, .ref h42, .ref h43, .ref h44, .ref h45, .ref h46, .ref h47, .ref h48, .ref h49, .ref h50, .ref h51, .int wp22072, .int wp22073, .int wp22074, .int wp22075, .int wp22076, .ref h57, .ref h58, .int wp22077, .ref h60, .int 0, .ref h61, .int wp22078, .ref h63, .ref h64, .int wp22079, .ref h66, .ref h67, .int wp22080, .ref h69, .ref h70, .ref h71, .ref h72, .int wp22081, .int wp22082, .int wp22083, .int wp22084, .ref h77, .ref h78, .ref h79, .ref h80, .ref h81, .ref h82, .ref h83, .ref h84, .ref h85]))), (h57, .inl (y 0, 3, .inl (fun _ => 0))), (h58, .inl (y 0, 18, .inl wf22085))] := hD
    refine lv_if_ne (tgt := 14) hx hb dX12_secret_7 (by decide) (fun c9 => absurd c9 (by decide +kernel)) (fun _ => ?_)
    refine lv_iconst (v := 1) hx hb dX12_secret_10 (by decide) ?_
    refine lv_goto (tgt := 41) hx hb dX12_secret_11 (by decide) ?_
    refine gm_put (D := D) (ci := 12) (v := .int 1) (ty := .int) (C := RX12) (T := TX12) (N := 83) hx hb hg inlX12 tyX12 tyX12_ok nmX12 hown hK.1 hP hD hS 0 rfl rfl 57 (by decide) tX12_57 (hg _ gw_276) (by decide +kernel) rfl rfl (Nat.le_of_ble_eq_true rfl) dX12_secret_41 ?_
    clear hP hD hS H locs
    refine fun H locs (hP : va_P D vwCl [(h0, .inr (12, (.ref h4 :: .int wp22065 :: .int wp22066 :: .ref h7 :: .ref h8 :: .ref h9 :: .ref h10 :: .ref h11 :: .ref h12 :: .ref h13 :: .ref h14 :: .ref h15 :: .int wp22067 :: .ref h17 :: .int wp22068 :: .ref h19 :: .int wp22069 :: .ref h21 :: .ref h22 :: .ref h23 :: .ref h24 :: .ref h25 :: .ref h26 :: .ref h27 :: .ref h28 :: .ref h29 :: .ref h30 :: .ref h31 :: .int wp22070 :: .ref h33 :: .ref h34 :: .ref h35 :: .int wp22071 :: [.ref h37, .ref h38, .ref h39, .ref h40, .ref h41, .ref h42, .ref h43, .ref h44, .ref h45, .ref h46, .ref h47, .ref h48, .ref h49, .ref h50, .ref h51, .int wp22072, .int wp22073, .int wp22074, .int wp22075, .int wp22076, .ref h57, .ref h58, .int wp22077, .ref h60, .int 1, .ref h61, .int wp22078, .ref h63, .ref h64, .int wp22079, .ref h66, .ref h67, .int wp22080, .ref h69, .ref h70, .ref h71, .ref h72, .int wp22081, .int wp22082, .int wp22083, .int wp22084, .ref h77, .ref h78, .ref h79, .ref h80, .ref h81, .ref h82, .ref h83, .ref h84, .ref h85]))), (h57, .inl (y 0, 3, .inl (fun _ => 0))), (h58, .inl (y 0, 18, .inl wf22085))] H) (hD : va_D A [(h0, .inr (12, (.ref h4 :: .int wp22065 :: .int wp22066 :: .ref h7 :: .ref h8 :: .ref h9 :: .ref h10 :: .ref h11 :: .ref h12 :: .ref h13 :: .ref h14 :: .ref h15 :: .int wp22067 :: .ref h17 :: .int wp22068 :: .ref h19 :: .int wp22069 :: .ref h21 :: .ref h22 :: .ref h23 :: .ref h24 :: .ref h25 :: .ref h26 :: .ref h27 :: .ref h28 :: .ref h29 :: .ref h30 :: .ref h31 :: .int wp22070 :: .ref h33 :: .ref h34 :: .ref h35 :: .int wp22071 :: [.ref h37, .ref h38, .ref h39, .ref h40, .ref h41, .ref h42, .ref h43, .ref h44, .ref h45, .ref h46, .ref h47, .ref h48, .ref h49, .ref h50, .ref h51, .int wp22072, .int wp22073, .int wp22074, .int wp22075, .int wp22076, .ref h57, .ref h58, .int wp22077, .ref h60, .int 1, .ref h61, .int wp22078, .ref h63, .ref h64, .int wp22079, .ref h66, .ref h67, .int wp22080, .ref h69, .ref h70, .ref h71, .ref h72, .int wp22081, .int wp22082, .int wp22083, .int wp22084, .ref h77, .ref h78, .ref h79, .ref h80, .ref h81, .ref h82, .ref h83, .ref h84, .ref h85]))), (h57, .inl (y 0, 3, .inl (fun _ => 0))), (h58, .inl (y 0, 18, .inl wf22085))]) hS => ?_
    refine lv_aload_n hx hb dX12_secret_44 rfl (lv_at hl 0 rfl) ?_
    refine gm_get (D := D) (ci := 12) (v := .int 1) (C := RX12) (T := TX12) (N := 83) hx hb hg inlX12 hown hK.1 hP 0 rfl rfl 57 (by decide) tX12_57 (hg _ gw_276) rfl dX12_secret_45 ?_
    refine lv_if_le (tgt := 53) hx hb dX12_secret_48 (by decide) (fun c9 => absurd c9 (by decide +kernel)) (fun _ => ?_)
    refine lv_iconst (v := 0) hx hb dX12_secret_51 (by decide) ?_
    exact g_iret hx hb hr hlocks ⟨1, (fun _ => 0), wf22085⟩ hP hD hS rfl (Or.inr (Or.inl ⟨rfl, rfl, rfl, rfl, (by first | omega | (simp_all; done))⟩)) (Nat.le_of_ble_eq_true rfl) (Nat.le_of_ble_eq_true rfl) dX12_secret_52
  ·
    replace hP : va_P D vwCl [(h0, .inr (12, (.ref h4 :: .int wp22065 :: .int wp22066 :: .ref h7 :: .ref h8 :: .ref h9 :: .ref h10 :: .ref h11 :: .ref h12 :: .ref h13 :: .ref h14 :: .ref h15 :: .int wp22067 :: .ref h17 :: .int wp22068 :: .ref h19 :: .int wp22069 :: .ref h21 :: .ref h22 :: .ref h23 :: .ref h24 :: .ref h25 :: .ref h26 :: .ref h27 :: .ref h28 :: .ref h29 :: .ref h30 :: .ref h31 :: .int wp22070 :: .ref h33 :: .ref h34 :: .ref h35 :: .int wp22071 :: [.ref h37, .ref h38, .ref h39, .ref h40, .ref h41, .ref h42, .ref h43, .ref h44, .ref h45, .ref h46, .ref h47, .ref h48, .ref h49, .ref h50, .ref h51, .int wp22072, .int wp22073, .int wp22074, .int wp22075, .int wp22076, .ref h57, .ref h58, .int wp22077, .ref h60, .int 0, .ref h61, .int wp22078, .ref h63, .ref h64, .int wp22079, .ref h66, .ref h67, .int wp22080, .ref h69, .ref h70, .ref h71, .ref h72, .int wp22081, .int wp22082, .int wp22083, .int wp22084, .ref h77, .ref h78, .ref h79, .ref h80, .ref h81, .ref h82, .ref h83, .ref h84, .ref h85]))), (h57, .inl (y 0, 3, .inl (fun _ => 0))), (h58, .inl (y 0, 18, .inl wf22085))] H := hP
    replace hD : va_D A [(h0, .inr (12, (.ref h4 :: .int wp22065 :: .int wp22066 :: .ref h7 :: .ref h8 :: .ref h9 :: .ref h10 :: .ref h11 :: .ref h12 :: .ref h13 :: .ref h14 :: .ref h15 :: .int wp22067 :: .ref h17 :: .int wp22068 :: .ref h19 :: .int wp22069 :: .ref h21 :: .ref h22 :: .ref h23 :: .ref h24 :: .ref h25 :: .ref h26 :: .ref h27 :: .ref h28 :: .ref h29 :: .ref h30 :: .ref h31 :: .int wp22070 :: .ref h33 :: .ref h34 :: .ref h35 :: .int wp22071 :: [.ref h37, .ref h38, .ref h39, .ref h40, .ref h41, .ref h42, .ref h43, .ref h44, .ref h45, .ref h46, .ref h47, .ref h48, .ref h49, .ref h50, .ref h51, .int wp22072, .int wp22073, .int wp22074, .int wp22075, .int wp22076, .ref h57, .ref h58, .int wp22077, .ref h60, .int 0, .ref h61, .int wp22078, .ref h63, .ref h64, .int wp22079, .ref h66, .ref h67, .int wp22080, .ref h69, .ref h70, .ref h71, .ref h72, .int wp22081, .int wp22082, .int wp22083, .int wp22084, .ref h77, .ref h78, .ref h79, .ref h80, .ref h81, .ref h82, .ref h83, .ref h84, .ref h85]))), (h57, .inl (y 0, 3, .inl (fun _ => 0))), (h58, .inl (y 0, 18, .inl wf22085))] := hD
    refine lv_if_ne (tgt := 14) hx hb dX12_secret_7 (by decide) (fun _ => ?_) (fun c9 => absurd c9 (by decide +kernel))
    refine lv_iload_n hx hb dX12_secret_14 rfl (lv_at hl 3 rfl) ?_
    refine lv_iconst (v := 2) hx hb dX12_secret_15 (by decide) ?_
    refine lv_bipush (v := 6) hx hb dX12_secret_16 (by decide +kernel) ?_
    refine g_ai (wr := [(h0, .inr (12, (.ref h4 :: .int wp22065 :: .int wp22066 :: .ref h7 :: .ref h8 :: .ref h9 :: .ref h10 :: .ref h11 :: .ref h12 :: .ref h13 :: .ref h14 :: .ref h15 :: .int wp22067 :: .ref h17 :: .int wp22068 :: .ref h19 :: .int wp22069 :: .ref h21 :: .ref h22 :: .ref h23 :: .ref h24 :: .ref h25 :: .ref h26 :: .ref h27 :: .ref h28 :: .ref h29 :: .ref h30 :: .ref h31 :: .int wp22070 :: .ref h33 :: .ref h34 :: .ref h35 :: .int wp22071 :: [.ref h37, .ref h38, .ref h39, .ref h40, .ref h41, .ref h42, .ref h43, .ref h44, .ref h45, .ref h46, .ref h47, .ref h48, .ref h49, .ref h50, .ref h51, .int wp22072, .int wp22073, .int wp22074, .int wp22075, .int wp22076, .ref h57, .ref h58, .int wp22077, .ref h60, .int 0, .ref h61, .int wp22078, .ref h63, .ref h64, .int wp22079, .ref h66, .ref h67, .int wp22080, .ref h69, .ref h70, .ref h71, .ref h72, .int wp22081, .int wp22082, .int wp22083, .int wp22084, .ref h77, .ref h78, .ref h79, .ref h80, .ref h81, .ref h82, .ref h83, .ref h84, .ref h85]))), (h57, .inl (y 0, 3, .inl (fun _ => 0))), (h58, .inl (y 0, 18, .inl wf22085))]) (va_runS (As := [.int p3, .int 2, .int 6]) (rest := [.ref h0]) ⟨hx, hb, hml, hown, hg⟩ (k_X12_in_13 l D y aS H.size p3) (va_cwS 3 hg ggS_RX12_217_X12_in rfl rfl rfl (by decide +kernel) ⟨Nat.le_of_ble_eq_true rfl, Nat.le_of_ble_eq_true rfl⟩) (g_preS hK hP hD [] rfl (by decide)) rfl rfl hl.1 rfl (lv_room (Nat.le_of_ble_eq_true rfl)) dX12_secret_18 ⟨Nat.le_of_ble_eq_true rfl, Nat.le_of_ble_eq_true rfl⟩) hP hD hS hA [] [0, 1, 2] rfl rfl (by decide) (by decide) ?_
    clear hP hD hS H locs
    refine fun r22091 u H locs hq hP hD hS => ?_
    rcases hq with ⟨rfl, z22092⟩ | ⟨rfl, z22093⟩ | ⟨rfl, z22094, z22095⟩
    ·
      replace hP : va_P D vwCl [(h0, .inr (12, (.ref h4 :: .int wp22065 :: .int wp22066 :: .ref h7 :: .ref h8 :: .ref h9 :: .ref h10 :: .ref h11 :: .ref h12 :: .ref h13 :: .ref h14 :: .ref h15 :: .int wp22067 :: .ref h17 :: .int wp22068 :: .ref h19 :: .int wp22069 :: .ref h21 :: .ref h22 :: .ref h23 :: .ref h24 :: .ref h25 :: .ref h26 :: .ref h27 :: .ref h28 :: .ref h29 :: .ref h30 :: .ref h31 :: .int wp22070 :: .ref h33 :: .ref h34 :: .ref h35 :: .int wp22071 :: [.ref h37, .ref h38, .ref h39, .ref h40, .ref h41, .ref h42, .ref h43, .ref h44, .ref h45, .ref h46, .ref h47, .ref h48, .ref h49, .ref h50, .ref h51, .int wp22072, .int wp22073, .int wp22074, .int wp22075, .int wp22076, .ref h57, .ref h58, .int wp22077, .ref h60, .int 0, .ref h61, .int wp22078, .ref h63, .ref h64, .int wp22079, .ref h66, .ref h67, .int wp22080, .ref h69, .ref h70, .ref h71, .ref h72, .int wp22081, .int wp22082, .int wp22083, .int wp22084, .ref h77, .ref h78, .ref h79, .ref h80, .ref h81, .ref h82, .ref h83, .ref h84, .ref h85]))), (h57, .inl (y 0, 3, .inl (fun _ => 0))), (h58, .inl (y 0, 18, .inl wf22085))] H := hP
      replace hD : va_D A [(h0, .inr (12, (.ref h4 :: .int wp22065 :: .int wp22066 :: .ref h7 :: .ref h8 :: .ref h9 :: .ref h10 :: .ref h11 :: .ref h12 :: .ref h13 :: .ref h14 :: .ref h15 :: .int wp22067 :: .ref h17 :: .int wp22068 :: .ref h19 :: .int wp22069 :: .ref h21 :: .ref h22 :: .ref h23 :: .ref h24 :: .ref h25 :: .ref h26 :: .ref h27 :: .ref h28 :: .ref h29 :: .ref h30 :: .ref h31 :: .int wp22070 :: .ref h33 :: .ref h34 :: .ref h35 :: .int wp22071 :: [.ref h37, .ref h38, .ref h39, .ref h40, .ref h41, .ref h42, .ref h43, .ref h44, .ref h45, .ref h46, .ref h47, .ref h48, .ref h49, .ref h50, .ref h51, .int wp22072, .int wp22073, .int wp22074, .int wp22075, .int wp22076, .ref h57, .ref h58, .int wp22077, .ref h60, .int 0, .ref h61, .int wp22078, .ref h63, .ref h64, .int wp22079, .ref h66, .ref h67, .int wp22080, .ref h69, .ref h70, .ref h71, .ref h72, .int wp22081, .int wp22082, .int wp22083, .int wp22084, .ref h77, .ref h78, .ref h79, .ref h80, .ref h81, .ref h82, .ref h83, .ref h84, .ref h85]))), (h57, .inl (y 0, 3, .inl (fun _ => 0))), (h58, .inl (y 0, 18, .inl wf22085))] := hD
      refine lv_if_eq (tgt := 36) hx hb dX12_secret_21 (by decide) (fun _ => ?_) (fun c9 => absurd c9 (by decide +kernel))
      refine lv_iconst (v := 2) hx hb dX12_secret_36 (by decide) ?_
      refine lv_goto (tgt := 41) hx hb dX12_secret_37 (by decide) ?_
      refine gm_put (D := D) (ci := 12) (v := .int 2) (ty := .int) (C := RX12) (T := TX12) (N := 83) hx hb hg inlX12 tyX12 tyX12_ok nmX12 hown hK.1 hP hD hS 0 rfl rfl 57 (by decide) tX12_57 (hg _ gw_276) (by decide +kernel) rfl rfl (Nat.le_of_ble_eq_true rfl) dX12_secret_41 ?_
      clear hP hD hS H locs
      refine fun H locs (hP : va_P D vwCl [(h0, .inr (12, (.ref h4 :: .int wp22065 :: .int wp22066 :: .ref h7 :: .ref h8 :: .ref h9 :: .ref h10 :: .ref h11 :: .ref h12 :: .ref h13 :: .ref h14 :: .ref h15 :: .int wp22067 :: .ref h17 :: .int wp22068 :: .ref h19 :: .int wp22069 :: .ref h21 :: .ref h22 :: .ref h23 :: .ref h24 :: .ref h25 :: .ref h26 :: .ref h27 :: .ref h28 :: .ref h29 :: .ref h30 :: .ref h31 :: .int wp22070 :: .ref h33 :: .ref h34 :: .ref h35 :: .int wp22071 :: [.ref h37, .ref h38, .ref h39, .ref h40, .ref h41, .ref h42, .ref h43, .ref h44, .ref h45, .ref h46, .ref h47, .ref h48, .ref h49, .ref h50, .ref h51, .int wp22072, .int wp22073, .int wp22074, .int wp22075, .int wp22076, .ref h57, .ref h58, .int wp22077, .ref h60, .int 2, .ref h61, .int wp22078, .ref h63, .ref h64, .int wp22079, .ref h66, .ref h67, .int wp22080, .ref h69, .ref h70, .ref h71, .ref h72, .int wp22081, .int wp22082, .int wp22083, .int wp22084, .ref h77, .ref h78, .ref h79, .ref h80, .ref h81, .ref h82, .ref h83, .ref h84, .ref h85]))), (h57, .inl (y 0, 3, .inl (fun _ => 0))), (h58, .inl (y 0, 18, .inl wf22085))] H) (hD : va_D A [(h0, .inr (12, (.ref h4 :: .int wp22065 :: .int wp22066 :: .ref h7 :: .ref h8 :: .ref h9 :: .ref h10 :: .ref h11 :: .ref h12 :: .ref h13 :: .ref h14 :: .ref h15 :: .int wp22067 :: .ref h17 :: .int wp22068 :: .ref h19 :: .int wp22069 :: .ref h21 :: .ref h22 :: .ref h23 :: .ref h24 :: .ref h25 :: .ref h26 :: .ref h27 :: .ref h28 :: .ref h29 :: .ref h30 :: .ref h31 :: .int wp22070 :: .ref h33 :: .ref h34 :: .ref h35 :: .int wp22071 :: [.ref h37, .ref h38, .ref h39, .ref h40, .ref h41, .ref h42, .ref h43, .ref h44, .ref h45, .ref h46, .ref h47, .ref h48, .ref h49, .ref h50, .ref h51, .int wp22072, .int wp22073, .int wp22074, .int wp22075, .int wp22076, .ref h57, .ref h58, .int wp22077, .ref h60, .int 2, .ref h61, .int wp22078, .ref h63, .ref h64, .int wp22079, .ref h66, .ref h67, .int wp22080, .ref h69, .ref h70, .ref h71, .ref h72, .int wp22081, .int wp22082, .int wp22083, .int wp22084, .ref h77, .ref h78, .ref h79, .ref h80, .ref h81, .ref h82, .ref h83, .ref h84, .ref h85]))), (h57, .inl (y 0, 3, .inl (fun _ => 0))), (h58, .inl (y 0, 18, .inl wf22085))]) hS => ?_
      refine lv_aload_n hx hb dX12_secret_44 rfl (lv_at hl 0 rfl) ?_
      refine gm_get (D := D) (ci := 12) (v := .int 2) (C := RX12) (T := TX12) (N := 83) hx hb hg inlX12 hown hK.1 hP 0 rfl rfl 57 (by decide) tX12_57 (hg _ gw_276) rfl dX12_secret_45 ?_
      refine lv_if_le (tgt := 53) hx hb dX12_secret_48 (by decide) (fun c9 => absurd c9 (by decide +kernel)) (fun _ => ?_)
      refine lv_iconst (v := 0) hx hb dX12_secret_51 (by decide) ?_
      exact g_iret hx hb hr hlocks ⟨2, (fun _ => 0), wf22085⟩ hP hD hS rfl (Or.inr (Or.inr (Or.inl ⟨rfl, rfl, rfl, rfl, (by first | omega | (simp_all; done)), (by first | omega | (simp_all; done)), (by first | omega | (simp_all; done))⟩))) (Nat.le_of_ble_eq_true rfl) (Nat.le_of_ble_eq_true rfl) dX12_secret_52
    ·
      replace hP : va_P D vwCl [(h0, .inr (12, (.ref h4 :: .int wp22065 :: .int wp22066 :: .ref h7 :: .ref h8 :: .ref h9 :: .ref h10 :: .ref h11 :: .ref h12 :: .ref h13 :: .ref h14 :: .ref h15 :: .int wp22067 :: .ref h17 :: .int wp22068 :: .ref h19 :: .int wp22069 :: .ref h21 :: .ref h22 :: .ref h23 :: .ref h24 :: .ref h25 :: .ref h26 :: .ref h27 :: .ref h28 :: .ref h29 :: .ref h30 :: .ref h31 :: .int wp22070 :: .ref h33 :: .ref h34 :: .ref h35 :: .int wp22071 :: [.ref h37, .ref h38, .ref h39, .ref h40, .ref h41, .ref h42, .ref h43, .ref h44, .ref h45, .ref h46, .ref h47, .ref h48, .ref h49, .ref h50, .ref h51, .int wp22072, .int wp22073, .int wp22074, .int wp22075, .int wp22076, .ref h57, .ref h58, .int wp22077, .ref h60, .int 0, .ref h61, .int wp22078, .ref h63, .ref h64, .int wp22079, .ref h66, .ref h67, .int wp22080, .ref h69, .ref h70, .ref h71, .ref h72, .int wp22081, .int wp22082, .int wp22083, .int wp22084, .ref h77, .ref h78, .ref h79, .ref h80, .ref h81, .ref h82, .ref h83, .ref h84, .ref h85]))), (h57, .inl (y 0, 3, .inl (fun _ => 0))), (h58, .inl (y 0, 18, .inl wf22085))] H := hP
      replace hD : va_D A [(h0, .inr (12, (.ref h4 :: .int wp22065 :: .int wp22066 :: .ref h7 :: .ref h8 :: .ref h9 :: .ref h10 :: .ref h11 :: .ref h12 :: .ref h13 :: .ref h14 :: .ref h15 :: .int wp22067 :: .ref h17 :: .int wp22068 :: .ref h19 :: .int wp22069 :: .ref h21 :: .ref h22 :: .ref h23 :: .ref h24 :: .ref h25 :: .ref h26 :: .ref h27 :: .ref h28 :: .ref h29 :: .ref h30 :: .ref h31 :: .int wp22070 :: .ref h33 :: .ref h34 :: .ref h35 :: .int wp22071 :: [.ref h37, .ref h38, .ref h39, .ref h40, .ref h41, .ref h42, .ref h43, .ref h44, .ref h45, .ref h46, .ref h47, .ref h48, .ref h49, .ref h50, .ref h51, .int wp22072, .int wp22073, .int wp22074, .int wp22075, .int wp22076, .ref h57, .ref h58, .int wp22077, .ref h60, .int 0, .ref h61, .int wp22078, .ref h63, .ref h64, .int wp22079, .ref h66, .ref h67, .int wp22080, .ref h69, .ref h70, .ref h71, .ref h72, .int wp22081, .int wp22082, .int wp22083, .int wp22084, .ref h77, .ref h78, .ref h79, .ref h80, .ref h81, .ref h82, .ref h83, .ref h84, .ref h85]))), (h57, .inl (y 0, 3, .inl (fun _ => 0))), (h58, .inl (y 0, 18, .inl wf22085))] := hD
      refine lv_if_eq (tgt := 36) hx hb dX12_secret_21 (by decide) (fun _ => ?_) (fun c9 => absurd c9 (by decide +kernel))
      refine lv_iconst (v := 2) hx hb dX12_secret_36 (by decide) ?_
      refine lv_goto (tgt := 41) hx hb dX12_secret_37 (by decide) ?_
      refine gm_put (D := D) (ci := 12) (v := .int 2) (ty := .int) (C := RX12) (T := TX12) (N := 83) hx hb hg inlX12 tyX12 tyX12_ok nmX12 hown hK.1 hP hD hS 0 rfl rfl 57 (by decide) tX12_57 (hg _ gw_276) (by decide +kernel) rfl rfl (Nat.le_of_ble_eq_true rfl) dX12_secret_41 ?_
      clear hP hD hS H locs
      refine fun H locs (hP : va_P D vwCl [(h0, .inr (12, (.ref h4 :: .int wp22065 :: .int wp22066 :: .ref h7 :: .ref h8 :: .ref h9 :: .ref h10 :: .ref h11 :: .ref h12 :: .ref h13 :: .ref h14 :: .ref h15 :: .int wp22067 :: .ref h17 :: .int wp22068 :: .ref h19 :: .int wp22069 :: .ref h21 :: .ref h22 :: .ref h23 :: .ref h24 :: .ref h25 :: .ref h26 :: .ref h27 :: .ref h28 :: .ref h29 :: .ref h30 :: .ref h31 :: .int wp22070 :: .ref h33 :: .ref h34 :: .ref h35 :: .int wp22071 :: [.ref h37, .ref h38, .ref h39, .ref h40, .ref h41, .ref h42, .ref h43, .ref h44, .ref h45, .ref h46, .ref h47, .ref h48, .ref h49, .ref h50, .ref h51, .int wp22072, .int wp22073, .int wp22074, .int wp22075, .int wp22076, .ref h57, .ref h58, .int wp22077, .ref h60, .int 2, .ref h61, .int wp22078, .ref h63, .ref h64, .int wp22079, .ref h66, .ref h67, .int wp22080, .ref h69, .ref h70, .ref h71, .ref h72, .int wp22081, .int wp22082, .int wp22083, .int wp22084, .ref h77, .ref h78, .ref h79, .ref h80, .ref h81, .ref h82, .ref h83, .ref h84, .ref h85]))), (h57, .inl (y 0, 3, .inl (fun _ => 0))), (h58, .inl (y 0, 18, .inl wf22085))] H) (hD : va_D A [(h0, .inr (12, (.ref h4 :: .int wp22065 :: .int wp22066 :: .ref h7 :: .ref h8 :: .ref h9 :: .ref h10 :: .ref h11 :: .ref h12 :: .ref h13 :: .ref h14 :: .ref h15 :: .int wp22067 :: .ref h17 :: .int wp22068 :: .ref h19 :: .int wp22069 :: .ref h21 :: .ref h22 :: .ref h23 :: .ref h24 :: .ref h25 :: .ref h26 :: .ref h27 :: .ref h28 :: .ref h29 :: .ref h30 :: .ref h31 :: .int wp22070 :: .ref h33 :: .ref h34 :: .ref h35 :: .int wp22071 :: [.ref h37, .ref h38, .ref h39, .ref h40, .ref h41, .ref h42, .ref h43, .ref h44, .ref h45, .ref h46, .ref h47, .ref h48, .ref h49, .ref h50, .ref h51, .int wp22072, .int wp22073, .int wp22074, .int wp22075, .int wp22076, .ref h57, .ref h58, .int wp22077, .ref h60, .int 2, .ref h61, .int wp22078, .ref h63, .ref h64, .int wp22079, .ref h66, .ref h67, .int wp22080, .ref h69, .ref h70, .ref h71, .ref h72, .int wp22081, .int wp22082, .int wp22083, .int wp22084, .ref h77, .ref h78, .ref h79, .ref h80, .ref h81, .ref h82, .ref h83, .ref h84, .ref h85]))), (h57, .inl (y 0, 3, .inl (fun _ => 0))), (h58, .inl (y 0, 18, .inl wf22085))]) hS => ?_
      refine lv_aload_n hx hb dX12_secret_44 rfl (lv_at hl 0 rfl) ?_
      refine gm_get (D := D) (ci := 12) (v := .int 2) (C := RX12) (T := TX12) (N := 83) hx hb hg inlX12 hown hK.1 hP 0 rfl rfl 57 (by decide) tX12_57 (hg _ gw_276) rfl dX12_secret_45 ?_
      refine lv_if_le (tgt := 53) hx hb dX12_secret_48 (by decide) (fun c9 => absurd c9 (by decide +kernel)) (fun _ => ?_)
      refine lv_iconst (v := 0) hx hb dX12_secret_51 (by decide) ?_
      exact g_iret hx hb hr hlocks ⟨2, (fun _ => 0), wf22085⟩ hP hD hS rfl (Or.inr (Or.inr (Or.inr (Or.inl ⟨rfl, rfl, rfl, rfl, (by first | omega | (simp_all; done)), (by first | omega | (simp_all; done)), (by first | omega | (simp_all; done))⟩)))) (Nat.le_of_ble_eq_true rfl) (Nat.le_of_ble_eq_true rfl) dX12_secret_52
    ·
      replace hP : va_P D vwCl [(h0, .inr (12, (.ref h4 :: .int wp22065 :: .int wp22066 :: .ref h7 :: .ref h8 :: .ref h9 :: .ref h10 :: .ref h11 :: .ref h12 :: .ref h13 :: .ref h14 :: .ref h15 :: .int wp22067 :: .ref h17 :: .int wp22068 :: .ref h19 :: .int wp22069 :: .ref h21 :: .ref h22 :: .ref h23 :: .ref h24 :: .ref h25 :: .ref h26 :: .ref h27 :: .ref h28 :: .ref h29 :: .ref h30 :: .ref h31 :: .int wp22070 :: .ref h33 :: .ref h34 :: .ref h35 :: .int wp22071 :: [.ref h37, .ref h38, .ref h39, .ref h40, .ref h41, .ref h42, .ref h43, .ref h44, .ref h45, .ref h46, .ref h47, .ref h48, .ref h49, .ref h50, .ref h51, .int wp22072, .int wp22073, .int wp22074, .int wp22075, .int wp22076, .ref h57, .ref h58, .int wp22077, .ref h60, .int 0, .ref h61, .int wp22078, .ref h63, .ref h64, .int wp22079, .ref h66, .ref h67, .int wp22080, .ref h69, .ref h70, .ref h71, .ref h72, .int wp22081, .int wp22082, .int wp22083, .int wp22084, .ref h77, .ref h78, .ref h79, .ref h80, .ref h81, .ref h82, .ref h83, .ref h84, .ref h85]))), (h57, .inl (y 0, 3, .inl (fun _ => 0))), (h58, .inl (y 0, 18, .inl wf22085))] H := hP
      replace hD : va_D A [(h0, .inr (12, (.ref h4 :: .int wp22065 :: .int wp22066 :: .ref h7 :: .ref h8 :: .ref h9 :: .ref h10 :: .ref h11 :: .ref h12 :: .ref h13 :: .ref h14 :: .ref h15 :: .int wp22067 :: .ref h17 :: .int wp22068 :: .ref h19 :: .int wp22069 :: .ref h21 :: .ref h22 :: .ref h23 :: .ref h24 :: .ref h25 :: .ref h26 :: .ref h27 :: .ref h28 :: .ref h29 :: .ref h30 :: .ref h31 :: .int wp22070 :: .ref h33 :: .ref h34 :: .ref h35 :: .int wp22071 :: [.ref h37, .ref h38, .ref h39, .ref h40, .ref h41, .ref h42, .ref h43, .ref h44, .ref h45, .ref h46, .ref h47, .ref h48, .ref h49, .ref h50, .ref h51, .int wp22072, .int wp22073, .int wp22074, .int wp22075, .int wp22076, .ref h57, .ref h58, .int wp22077, .ref h60, .int 0, .ref h61, .int wp22078, .ref h63, .ref h64, .int wp22079, .ref h66, .ref h67, .int wp22080, .ref h69, .ref h70, .ref h71, .ref h72, .int wp22081, .int wp22082, .int wp22083, .int wp22084, .ref h77, .ref h78, .ref h79, .ref h80, .ref h81, .ref h82, .ref h83, .ref h84, .ref h85]))), (h57, .inl (y 0, 3, .inl (fun _ => 0))), (h58, .inl (y 0, 18, .inl wf22085))] := hD
      refine lv_if_eq (tgt := 36) hx hb dX12_secret_21 (by decide) (fun c9 => absurd c9 (by decide +kernel)) (fun _ => ?_)
      refine lv_iload_n hx hb dX12_secret_24 rfl (lv_at hl 2 rfl) ?_
      refine lv_if_lt (tgt := 36) hx hb dX12_secret_25 (by decide) (fun z22096 => ?_) (fun z22096 => ?_)
      · have z22096 := g_ltt z22096; rw [g_l0] at z22096
        refine lv_iconst (v := 2) hx hb dX12_secret_36 (by decide) ?_
        refine lv_goto (tgt := 41) hx hb dX12_secret_37 (by decide) ?_
        refine gm_put (D := D) (ci := 12) (v := .int 2) (ty := .int) (C := RX12) (T := TX12) (N := 83) hx hb hg inlX12 tyX12 tyX12_ok nmX12 hown hK.1 hP hD hS 0 rfl rfl 57 (by decide) tX12_57 (hg _ gw_276) (by decide +kernel) rfl rfl (Nat.le_of_ble_eq_true rfl) dX12_secret_41 ?_
        clear hP hD hS H locs
        refine fun H locs (hP : va_P D vwCl [(h0, .inr (12, (.ref h4 :: .int wp22065 :: .int wp22066 :: .ref h7 :: .ref h8 :: .ref h9 :: .ref h10 :: .ref h11 :: .ref h12 :: .ref h13 :: .ref h14 :: .ref h15 :: .int wp22067 :: .ref h17 :: .int wp22068 :: .ref h19 :: .int wp22069 :: .ref h21 :: .ref h22 :: .ref h23 :: .ref h24 :: .ref h25 :: .ref h26 :: .ref h27 :: .ref h28 :: .ref h29 :: .ref h30 :: .ref h31 :: .int wp22070 :: .ref h33 :: .ref h34 :: .ref h35 :: .int wp22071 :: [.ref h37, .ref h38, .ref h39, .ref h40, .ref h41, .ref h42, .ref h43, .ref h44, .ref h45, .ref h46, .ref h47, .ref h48, .ref h49, .ref h50, .ref h51, .int wp22072, .int wp22073, .int wp22074, .int wp22075, .int wp22076, .ref h57, .ref h58, .int wp22077, .ref h60, .int 2, .ref h61, .int wp22078, .ref h63, .ref h64, .int wp22079, .ref h66, .ref h67, .int wp22080, .ref h69, .ref h70, .ref h71, .ref h72, .int wp22081, .int wp22082, .int wp22083, .int wp22084, .ref h77, .ref h78, .ref h79, .ref h80, .ref h81, .ref h82, .ref h83, .ref h84, .ref h85]))), (h57, .inl (y 0, 3, .inl (fun _ => 0))), (h58, .inl (y 0, 18, .inl wf22085))] H) (hD : va_D A [(h0, .inr (12, (.ref h4 :: .int wp22065 :: .int wp22066 :: .ref h7 :: .ref h8 :: .ref h9 :: .ref h10 :: .ref h11 :: .ref h12 :: .ref h13 :: .ref h14 :: .ref h15 :: .int wp22067 :: .ref h17 :: .int wp22068 :: .ref h19 :: .int wp22069 :: .ref h21 :: .ref h22 :: .ref h23 :: .ref h24 :: .ref h25 :: .ref h26 :: .ref h27 :: .ref h28 :: .ref h29 :: .ref h30 :: .ref h31 :: .int wp22070 :: .ref h33 :: .ref h34 :: .ref h35 :: .int wp22071 :: [.ref h37, .ref h38, .ref h39, .ref h40, .ref h41, .ref h42, .ref h43, .ref h44, .ref h45, .ref h46, .ref h47, .ref h48, .ref h49, .ref h50, .ref h51, .int wp22072, .int wp22073, .int wp22074, .int wp22075, .int wp22076, .ref h57, .ref h58, .int wp22077, .ref h60, .int 2, .ref h61, .int wp22078, .ref h63, .ref h64, .int wp22079, .ref h66, .ref h67, .int wp22080, .ref h69, .ref h70, .ref h71, .ref h72, .int wp22081, .int wp22082, .int wp22083, .int wp22084, .ref h77, .ref h78, .ref h79, .ref h80, .ref h81, .ref h82, .ref h83, .ref h84, .ref h85]))), (h57, .inl (y 0, 3, .inl (fun _ => 0))), (h58, .inl (y 0, 18, .inl wf22085))]) hS => ?_
        refine lv_aload_n hx hb dX12_secret_44 rfl (lv_at hl 0 rfl) ?_
        refine gm_get (D := D) (ci := 12) (v := .int 2) (C := RX12) (T := TX12) (N := 83) hx hb hg inlX12 hown hK.1 hP 0 rfl rfl 57 (by decide) tX12_57 (hg _ gw_276) rfl dX12_secret_45 ?_
        refine lv_if_le (tgt := 53) hx hb dX12_secret_48 (by decide) (fun c9 => absurd c9 (by decide +kernel)) (fun _ => ?_)
        refine lv_iconst (v := 0) hx hb dX12_secret_51 (by decide) ?_
        exact g_iret hx hb hr hlocks ⟨2, (fun _ => 0), wf22085⟩ hP hD hS rfl (Or.inr (Or.inr (Or.inr (Or.inr (Or.inl ⟨rfl, rfl, rfl, rfl, (by first | omega | (simp_all; done)), (by first | omega | (simp_all; done)), (by first | omega | (simp_all; done)), (by first | omega | (simp_all; done)), (by first | omega | (simp_all; done))⟩))))) (Nat.le_of_ble_eq_true rfl) (Nat.le_of_ble_eq_true rfl) dX12_secret_52
      · have z22096 := g_ltf z22096; rw [g_l0] at z22096
        refine lv_iload_n hx hb dX12_secret_28 rfl (lv_at hl 2 rfl) ?_
        refine lv_iload_n hx hb dX12_secret_29 rfl (lv_at hl 3 rfl) ?_
        refine g_ai (wr := [(h0, .inr (12, (.ref h4 :: .int wp22065 :: .int wp22066 :: .ref h7 :: .ref h8 :: .ref h9 :: .ref h10 :: .ref h11 :: .ref h12 :: .ref h13 :: .ref h14 :: .ref h15 :: .int wp22067 :: .ref h17 :: .int wp22068 :: .ref h19 :: .int wp22069 :: .ref h21 :: .ref h22 :: .ref h23 :: .ref h24 :: .ref h25 :: .ref h26 :: .ref h27 :: .ref h28 :: .ref h29 :: .ref h30 :: .ref h31 :: .int wp22070 :: .ref h33 :: .ref h34 :: .ref h35 :: .int wp22071 :: [.ref h37, .ref h38, .ref h39, .ref h40, .ref h41, .ref h42, .ref h43, .ref h44, .ref h45, .ref h46, .ref h47, .ref h48, .ref h49, .ref h50, .ref h51, .int wp22072, .int wp22073, .int wp22074, .int wp22075, .int wp22076, .ref h57, .ref h58, .int wp22077, .ref h60, .int 0, .ref h61, .int wp22078, .ref h63, .ref h64, .int wp22079, .ref h66, .ref h67, .int wp22080, .ref h69, .ref h70, .ref h71, .ref h72, .int wp22081, .int wp22082, .int wp22083, .int wp22084, .ref h77, .ref h78, .ref h79, .ref h80, .ref h81, .ref h82, .ref h83, .ref h84, .ref h85]))), (h57, .inl (y 0, 3, .inl (fun _ => 0))), (h58, .inl (y 0, 18, .inl wf22085))]) (va_runS (As := [.int p3]) (rest := [.int p2, .ref h0]) ⟨hx, hb, hml, hown, hg⟩ (k_X12_power_0 l D y aS H.size p3 (by first | decide +kernel | omega) (by first | decide +kernel | omega)) (va_cwS 1 hg ggS_RX12_481_X12_power rfl rfl rfl (by decide +kernel) ⟨Nat.le_of_ble_eq_true rfl, Nat.le_of_ble_eq_true rfl⟩) (g_preS hK hP hD [] rfl (by decide)) rfl rfl hl.1 rfl (lv_room (Nat.le_of_ble_eq_true rfl)) dX12_secret_30 ⟨Nat.le_of_ble_eq_true rfl, Nat.le_of_ble_eq_true rfl⟩) hP hD hS hA [] [0, 1, 2] rfl rfl (by decide) (by decide) ?_
        clear hP hD hS H locs
        refine fun r22097 u H locs hq hP hD hS => ?_
        rcases hq with ⟨rfl, z22098⟩ | ⟨rfl, z22099, z22100⟩ | ⟨rfl, z22101, z22102⟩ | ⟨rfl, z22103, z22104⟩ | ⟨rfl, z22105⟩
        ·
          obtain rfl : p3 = 2 := Int32.toInt_inj.mp (by rw [g_l2]; omega)
          replace hP : va_P D vwCl [(h0, .inr (12, (.ref h4 :: .int wp22065 :: .int wp22066 :: .ref h7 :: .ref h8 :: .ref h9 :: .ref h10 :: .ref h11 :: .ref h12 :: .ref h13 :: .ref h14 :: .ref h15 :: .int wp22067 :: .ref h17 :: .int wp22068 :: .ref h19 :: .int wp22069 :: .ref h21 :: .ref h22 :: .ref h23 :: .ref h24 :: .ref h25 :: .ref h26 :: .ref h27 :: .ref h28 :: .ref h29 :: .ref h30 :: .ref h31 :: .int wp22070 :: .ref h33 :: .ref h34 :: .ref h35 :: .int wp22071 :: [.ref h37, .ref h38, .ref h39, .ref h40, .ref h41, .ref h42, .ref h43, .ref h44, .ref h45, .ref h46, .ref h47, .ref h48, .ref h49, .ref h50, .ref h51, .int wp22072, .int wp22073, .int wp22074, .int wp22075, .int wp22076, .ref h57, .ref h58, .int wp22077, .ref h60, .int 0, .ref h61, .int wp22078, .ref h63, .ref h64, .int wp22079, .ref h66, .ref h67, .int wp22080, .ref h69, .ref h70, .ref h71, .ref h72, .int wp22081, .int wp22082, .int wp22083, .int wp22084, .ref h77, .ref h78, .ref h79, .ref h80, .ref h81, .ref h82, .ref h83, .ref h84, .ref h85]))), (h57, .inl (y 0, 3, .inl (fun _ => 0))), (h58, .inl (y 0, 18, .inl wf22085))] H := hP
          replace hD : va_D A [(h0, .inr (12, (.ref h4 :: .int wp22065 :: .int wp22066 :: .ref h7 :: .ref h8 :: .ref h9 :: .ref h10 :: .ref h11 :: .ref h12 :: .ref h13 :: .ref h14 :: .ref h15 :: .int wp22067 :: .ref h17 :: .int wp22068 :: .ref h19 :: .int wp22069 :: .ref h21 :: .ref h22 :: .ref h23 :: .ref h24 :: .ref h25 :: .ref h26 :: .ref h27 :: .ref h28 :: .ref h29 :: .ref h30 :: .ref h31 :: .int wp22070 :: .ref h33 :: .ref h34 :: .ref h35 :: .int wp22071 :: [.ref h37, .ref h38, .ref h39, .ref h40, .ref h41, .ref h42, .ref h43, .ref h44, .ref h45, .ref h46, .ref h47, .ref h48, .ref h49, .ref h50, .ref h51, .int wp22072, .int wp22073, .int wp22074, .int wp22075, .int wp22076, .ref h57, .ref h58, .int wp22077, .ref h60, .int 0, .ref h61, .int wp22078, .ref h63, .ref h64, .int wp22079, .ref h66, .ref h67, .int wp22080, .ref h69, .ref h70, .ref h71, .ref h72, .int wp22081, .int wp22082, .int wp22083, .int wp22084, .ref h77, .ref h78, .ref h79, .ref h80, .ref h81, .ref h82, .ref h83, .ref h84, .ref h85]))), (h57, .inl (y 0, 3, .inl (fun _ => 0))), (h58, .inl (y 0, 18, .inl wf22085))] := hD
          refine lv_icmp_lt (tgt := 40) hx hb dX12_secret_33 (by decide) (fun z22106 => ?_) (fun z22106 => ?_)
          · have z22106 := g_ltt z22106; rw [g_l100] at z22106
            refine lv_iconst (v := 0) hx hb dX12_secret_40 (by decide) ?_
            refine gm_put (D := D) (ci := 12) (v := .int 0) (ty := .int) (C := RX12) (T := TX12) (N := 83) hx hb hg inlX12 tyX12 tyX12_ok nmX12 hown hK.1 hP hD hS 0 rfl rfl 57 (by decide) tX12_57 (hg _ gw_276) (by decide +kernel) rfl rfl (Nat.le_of_ble_eq_true rfl) dX12_secret_41 ?_
            clear hP hD hS H locs
            refine fun H locs (hP : va_P D vwCl [(h0, .inr (12, (.ref h4 :: .int wp22065 :: .int wp22066 :: .ref h7 :: .ref h8 :: .ref h9 :: .ref h10 :: .ref h11 :: .ref h12 :: .ref h13 :: .ref h14 :: .ref h15 :: .int wp22067 :: .ref h17 :: .int wp22068 :: .ref h19 :: .int wp22069 :: .ref h21 :: .ref h22 :: .ref h23 :: .ref h24 :: .ref h25 :: .ref h26 :: .ref h27 :: .ref h28 :: .ref h29 :: .ref h30 :: .ref h31 :: .int wp22070 :: .ref h33 :: .ref h34 :: .ref h35 :: .int wp22071 :: [.ref h37, .ref h38, .ref h39, .ref h40, .ref h41, .ref h42, .ref h43, .ref h44, .ref h45, .ref h46, .ref h47, .ref h48, .ref h49, .ref h50, .ref h51, .int wp22072, .int wp22073, .int wp22074, .int wp22075, .int wp22076, .ref h57, .ref h58, .int wp22077, .ref h60, .int 0, .ref h61, .int wp22078, .ref h63, .ref h64, .int wp22079, .ref h66, .ref h67, .int wp22080, .ref h69, .ref h70, .ref h71, .ref h72, .int wp22081, .int wp22082, .int wp22083, .int wp22084, .ref h77, .ref h78, .ref h79, .ref h80, .ref h81, .ref h82, .ref h83, .ref h84, .ref h85]))), (h57, .inl (y 0, 3, .inl (fun _ => 0))), (h58, .inl (y 0, 18, .inl wf22085))] H) (hD : va_D A [(h0, .inr (12, (.ref h4 :: .int wp22065 :: .int wp22066 :: .ref h7 :: .ref h8 :: .ref h9 :: .ref h10 :: .ref h11 :: .ref h12 :: .ref h13 :: .ref h14 :: .ref h15 :: .int wp22067 :: .ref h17 :: .int wp22068 :: .ref h19 :: .int wp22069 :: .ref h21 :: .ref h22 :: .ref h23 :: .ref h24 :: .ref h25 :: .ref h26 :: .ref h27 :: .ref h28 :: .ref h29 :: .ref h30 :: .ref h31 :: .int wp22070 :: .ref h33 :: .ref h34 :: .ref h35 :: .int wp22071 :: [.ref h37, .ref h38, .ref h39, .ref h40, .ref h41, .ref h42, .ref h43, .ref h44, .ref h45, .ref h46, .ref h47, .ref h48, .ref h49, .ref h50, .ref h51, .int wp22072, .int wp22073, .int wp22074, .int wp22075, .int wp22076, .ref h57, .ref h58, .int wp22077, .ref h60, .int 0, .ref h61, .int wp22078, .ref h63, .ref h64, .int wp22079, .ref h66, .ref h67, .int wp22080, .ref h69, .ref h70, .ref h71, .ref h72, .int wp22081, .int wp22082, .int wp22083, .int wp22084, .ref h77, .ref h78, .ref h79, .ref h80, .ref h81, .ref h82, .ref h83, .ref h84, .ref h85]))), (h57, .inl (y 0, 3, .inl (fun _ => 0))), (h58, .inl (y 0, 18, .inl wf22085))]) hS => ?_
            refine lv_aload_n hx hb dX12_secret_44 rfl (lv_at hl 0 rfl) ?_
            refine gm_get (D := D) (ci := 12) (v := .int 0) (C := RX12) (T := TX12) (N := 83) hx hb hg inlX12 hown hK.1 hP 0 rfl rfl 57 (by decide) tX12_57 (hg _ gw_276) rfl dX12_secret_45 ?_
            refine lv_if_le (tgt := 53) hx hb dX12_secret_48 (by decide) (fun _ => ?_) (fun c9 => absurd c9 (by decide +kernel))
            have hsp : p1 = 0 ∨ p1 = 1 ∨ p1 = 2 := by
              simp only [← Int32.toInt_inj, g_l0, g_l1, g_l2]; omega
            rcases hsp with rfl | rfl | rfl
            ·
              refine lv_aload_n hx hb dX12_secret_53 rfl (lv_at hl 0 rfl) ?_
              refine gm_get (D := D) (ci := 12) (v := .ref h57) (C := RX12) (T := TX12) (N := 83) hx hb hg inlX12 hown hK.1 hP 0 rfl rfl 53 (by decide) tX12_53 (hg _ gw_207) rfl dX12_secret_54 ?_
              refine lv_iload_n hx hb dX12_secret_57 rfl (lv_at hl 1 rfl) ?_
              refine lv_iload_n hx hb dX12_secret_58 rfl (lv_at hl 3 rfl) ?_
              refine va_iast hx hb hK.1 hP hD hS 1 0 rfl rfl (by unfold vp_in; decide +kernel) dX12_secret_59 ?_
              clear hP hD hS H locs
              refine fun H locs (hP : va_P D vwCl [(h0, .inr (12, (.ref h4 :: .int wp22065 :: .int wp22066 :: .ref h7 :: .ref h8 :: .ref h9 :: .ref h10 :: .ref h11 :: .ref h12 :: .ref h13 :: .ref h14 :: .ref h15 :: .int wp22067 :: .ref h17 :: .int wp22068 :: .ref h19 :: .int wp22069 :: .ref h21 :: .ref h22 :: .ref h23 :: .ref h24 :: .ref h25 :: .ref h26 :: .ref h27 :: .ref h28 :: .ref h29 :: .ref h30 :: .ref h31 :: .int wp22070 :: .ref h33 :: .ref h34 :: .ref h35 :: .int wp22071 :: [.ref h37, .ref h38, .ref h39, .ref h40, .ref h41, .ref h42, .ref h43, .ref h44, .ref h45, .ref h46, .ref h47, .ref h48, .ref h49, .ref h50, .ref h51, .int wp22072, .int wp22073, .int wp22074, .int wp22075, .int wp22076, .ref h57, .ref h58, .int wp22077, .ref h60, .int 0, .ref h61, .int wp22078, .ref h63, .ref h64, .int wp22079, .ref h66, .ref h67, .int wp22080, .ref h69, .ref h70, .ref h71, .ref h72, .int wp22081, .int wp22082, .int wp22083, .int wp22084, .ref h77, .ref h78, .ref h79, .ref h80, .ref h81, .ref h82, .ref h83, .ref h84, .ref h85]))), (h57, .inl (y 0, 3, .inl (upd (fun _ => 0) ((0 : Int32).toNatClampNeg) 2))), (h58, .inl (y 0, 18, .inl wf22085))] H) (hD : va_D A [(h0, .inr (12, (.ref h4 :: .int wp22065 :: .int wp22066 :: .ref h7 :: .ref h8 :: .ref h9 :: .ref h10 :: .ref h11 :: .ref h12 :: .ref h13 :: .ref h14 :: .ref h15 :: .int wp22067 :: .ref h17 :: .int wp22068 :: .ref h19 :: .int wp22069 :: .ref h21 :: .ref h22 :: .ref h23 :: .ref h24 :: .ref h25 :: .ref h26 :: .ref h27 :: .ref h28 :: .ref h29 :: .ref h30 :: .ref h31 :: .int wp22070 :: .ref h33 :: .ref h34 :: .ref h35 :: .int wp22071 :: [.ref h37, .ref h38, .ref h39, .ref h40, .ref h41, .ref h42, .ref h43, .ref h44, .ref h45, .ref h46, .ref h47, .ref h48, .ref h49, .ref h50, .ref h51, .int wp22072, .int wp22073, .int wp22074, .int wp22075, .int wp22076, .ref h57, .ref h58, .int wp22077, .ref h60, .int 0, .ref h61, .int wp22078, .ref h63, .ref h64, .int wp22079, .ref h66, .ref h67, .int wp22080, .ref h69, .ref h70, .ref h71, .ref h72, .int wp22081, .int wp22082, .int wp22083, .int wp22084, .ref h77, .ref h78, .ref h79, .ref h80, .ref h81, .ref h82, .ref h83, .ref h84, .ref h85]))), (h57, .inl (y 0, 3, .inl (upd (fun _ => 0) ((0 : Int32).toNatClampNeg) 2))), (h58, .inl (y 0, 18, .inl wf22085))]) hS => ?_
              refine lv_iconst (v := 0) hx hb dX12_secret_60 (by decide) ?_
              refine lv_istore (lv' := [(4, .int 0), (0, .ref h0), (1, .int 0), (2, .int p2), (3, .int 2)]) hx hb dX12_secret_61 hl (by decide) rfl ?_
              clear hl
              clear ls
              intro ls hl
              refine lv_iload hx hb dX12_secret_63 (lv_at hl 0 rfl) ?_
              refine lv_iload_n hx hb dX12_secret_65 rfl (lv_at hl 4 rfl) ?_
              refine lv_icmp_ge (tgt := 94) hx hb dX12_secret_66 (by decide) (fun c9 => absurd c9 (by decide +kernel)) (fun _ => ?_)
              refine lv_aload_n hx hb dX12_secret_69 rfl (lv_at hl 1 rfl) ?_
              refine gm_get (D := D) (ci := 12) (v := .ref h58) (C := RX12) (T := TX12) (N := 83) hx hb hg inlX12 hown hK.1 hP 0 rfl rfl 54 (by decide) tX12_54 (hg _ gw_208) rfl dX12_secret_70 ?_
              refine lv_bipush (v := 6) hx hb dX12_secret_73 (by decide +kernel) ?_
              refine lv_iload_n hx hb dX12_secret_75 rfl (lv_at hl 2 rfl) ?_
              refine lv_imul hx hb dX12_secret_76 ?_
              refine g_fi (v := 0) (by decide +kernel) ?_
              refine lv_iload hx hb dX12_secret_77 (lv_at hl 0 rfl) ?_
              refine lv_iadd hx hb dX12_secret_79 ?_
              refine g_fi (v := 0) (by decide +kernel) ?_
              refine lv_iload_n hx hb dX12_secret_80 rfl (lv_at hl 3 rfl) ?_
              refine lv_iload_n hx hb dX12_secret_81 rfl (lv_at hl 4 rfl) ?_
              refine lv_iload hx hb dX12_secret_82 (lv_at hl 0 rfl) ?_
              refine g_ai (wr := [(h0, .inr (12, (.ref h4 :: .int wp22065 :: .int wp22066 :: .ref h7 :: .ref h8 :: .ref h9 :: .ref h10 :: .ref h11 :: .ref h12 :: .ref h13 :: .ref h14 :: .ref h15 :: .int wp22067 :: .ref h17 :: .int wp22068 :: .ref h19 :: .int wp22069 :: .ref h21 :: .ref h22 :: .ref h23 :: .ref h24 :: .ref h25 :: .ref h26 :: .ref h27 :: .ref h28 :: .ref h29 :: .ref h30 :: .ref h31 :: .int wp22070 :: .ref h33 :: .ref h34 :: .ref h35 :: .int wp22071 :: [.ref h37, .ref h38, .ref h39, .ref h40, .ref h41, .ref h42, .ref h43, .ref h44, .ref h45, .ref h46, .ref h47, .ref h48, .ref h49, .ref h50, .ref h51, .int wp22072, .int wp22073, .int wp22074, .int wp22075, .int wp22076, .ref h57, .ref h58, .int wp22077, .ref h60, .int 0, .ref h61, .int wp22078, .ref h63, .ref h64, .int wp22079, .ref h66, .ref h67, .int wp22080, .ref h69, .ref h70, .ref h71, .ref h72, .int wp22081, .int wp22082, .int wp22083, .int wp22084, .ref h77, .ref h78, .ref h79, .ref h80, .ref h81, .ref h82, .ref h83, .ref h84, .ref h85]))), (h57, .inl (y 0, 3, .inl (upd (fun _ => 0) ((0 : Int32).toNatClampNeg) 2))), (h58, .inl (y 0, 18, .inl wf22085))]) (va_runS (As := [.int p2, .int 2, .int 0]) (rest := [.int 0, .ref h58]) ⟨hx, hb, hml, hown, hg⟩ (k_X12_digitOf_0 l D y aS H.size p2) (va_cwS 3 hg ggS_RX12_484_X12_digitOf rfl rfl rfl (by decide +kernel) ⟨Nat.le_of_ble_eq_true rfl, Nat.le_of_ble_eq_true rfl⟩) (g_preS hK hP hD [] rfl (by decide)) rfl rfl hl.1 rfl (lv_room (Nat.le_of_ble_eq_true rfl)) dX12_secret_84 ⟨Nat.le_of_ble_eq_true rfl, Nat.le_of_ble_eq_true rfl⟩) hP hD hS hA [] [0, 1, 2] rfl rfl (by decide) (by decide) ?_
              clear hP hD hS H locs
              refine fun r22107 u H locs hq hP hD hS => ?_
              subst hq
              replace hP : va_P D vwCl [(h0, .inr (12, (.ref h4 :: .int wp22065 :: .int wp22066 :: .ref h7 :: .ref h8 :: .ref h9 :: .ref h10 :: .ref h11 :: .ref h12 :: .ref h13 :: .ref h14 :: .ref h15 :: .int wp22067 :: .ref h17 :: .int wp22068 :: .ref h19 :: .int wp22069 :: .ref h21 :: .ref h22 :: .ref h23 :: .ref h24 :: .ref h25 :: .ref h26 :: .ref h27 :: .ref h28 :: .ref h29 :: .ref h30 :: .ref h31 :: .int wp22070 :: .ref h33 :: .ref h34 :: .ref h35 :: .int wp22071 :: [.ref h37, .ref h38, .ref h39, .ref h40, .ref h41, .ref h42, .ref h43, .ref h44, .ref h45, .ref h46, .ref h47, .ref h48, .ref h49, .ref h50, .ref h51, .int wp22072, .int wp22073, .int wp22074, .int wp22075, .int wp22076, .ref h57, .ref h58, .int wp22077, .ref h60, .int 0, .ref h61, .int wp22078, .ref h63, .ref h64, .int wp22079, .ref h66, .ref h67, .int wp22080, .ref h69, .ref h70, .ref h71, .ref h72, .int wp22081, .int wp22082, .int wp22083, .int wp22084, .ref h77, .ref h78, .ref h79, .ref h80, .ref h81, .ref h82, .ref h83, .ref h84, .ref h85]))), (h57, .inl (y 0, 3, .inl (upd (fun _ => 0) ((0 : Int32).toNatClampNeg) 2))), (h58, .inl (y 0, 18, .inl wf22085))] H := hP
              replace hD : va_D A [(h0, .inr (12, (.ref h4 :: .int wp22065 :: .int wp22066 :: .ref h7 :: .ref h8 :: .ref h9 :: .ref h10 :: .ref h11 :: .ref h12 :: .ref h13 :: .ref h14 :: .ref h15 :: .int wp22067 :: .ref h17 :: .int wp22068 :: .ref h19 :: .int wp22069 :: .ref h21 :: .ref h22 :: .ref h23 :: .ref h24 :: .ref h25 :: .ref h26 :: .ref h27 :: .ref h28 :: .ref h29 :: .ref h30 :: .ref h31 :: .int wp22070 :: .ref h33 :: .ref h34 :: .ref h35 :: .int wp22071 :: [.ref h37, .ref h38, .ref h39, .ref h40, .ref h41, .ref h42, .ref h43, .ref h44, .ref h45, .ref h46, .ref h47, .ref h48, .ref h49, .ref h50, .ref h51, .int wp22072, .int wp22073, .int wp22074, .int wp22075, .int wp22076, .ref h57, .ref h58, .int wp22077, .ref h60, .int 0, .ref h61, .int wp22078, .ref h63, .ref h64, .int wp22079, .ref h66, .ref h67, .int wp22080, .ref h69, .ref h70, .ref h71, .ref h72, .int wp22081, .int wp22082, .int wp22083, .int wp22084, .ref h77, .ref h78, .ref h79, .ref h80, .ref h81, .ref h82, .ref h83, .ref h84, .ref h85]))), (h57, .inl (y 0, 3, .inl (upd (fun _ => 0) ((0 : Int32).toNatClampNeg) 2))), (h58, .inl (y 0, 18, .inl wf22085))] := hD
              refine va_iast hx hb hK.1 hP hD hS 2 0 rfl rfl (by unfold vp_in; decide +kernel) dX12_secret_87 ?_
              clear hP hD hS H locs
              refine fun H locs (hP : va_P D vwCl [(h0, .inr (12, (.ref h4 :: .int wp22065 :: .int wp22066 :: .ref h7 :: .ref h8 :: .ref h9 :: .ref h10 :: .ref h11 :: .ref h12 :: .ref h13 :: .ref h14 :: .ref h15 :: .int wp22067 :: .ref h17 :: .int wp22068 :: .ref h19 :: .int wp22069 :: .ref h21 :: .ref h22 :: .ref h23 :: .ref h24 :: .ref h25 :: .ref h26 :: .ref h27 :: .ref h28 :: .ref h29 :: .ref h30 :: .ref h31 :: .int wp22070 :: .ref h33 :: .ref h34 :: .ref h35 :: .int wp22071 :: [.ref h37, .ref h38, .ref h39, .ref h40, .ref h41, .ref h42, .ref h43, .ref h44, .ref h45, .ref h46, .ref h47, .ref h48, .ref h49, .ref h50, .ref h51, .int wp22072, .int wp22073, .int wp22074, .int wp22075, .int wp22076, .ref h57, .ref h58, .int wp22077, .ref h60, .int 0, .ref h61, .int wp22078, .ref h63, .ref h64, .int wp22079, .ref h66, .ref h67, .int wp22080, .ref h69, .ref h70, .ref h71, .ref h72, .int wp22081, .int wp22082, .int wp22083, .int wp22084, .ref h77, .ref h78, .ref h79, .ref h80, .ref h81, .ref h82, .ref h83, .ref h84, .ref h85]))), (h57, .inl (y 0, 3, .inl (upd (fun _ => 0) ((0 : Int32).toNatClampNeg) 2))), (h58, .inl (y 0, 18, .inl (upd wf22085 ((0 : Int32).toNatClampNeg) ((p2 / 10) - (p2 / 10) / 10 * 10))))] H) (hD : va_D A [(h0, .inr (12, (.ref h4 :: .int wp22065 :: .int wp22066 :: .ref h7 :: .ref h8 :: .ref h9 :: .ref h10 :: .ref h11 :: .ref h12 :: .ref h13 :: .ref h14 :: .ref h15 :: .int wp22067 :: .ref h17 :: .int wp22068 :: .ref h19 :: .int wp22069 :: .ref h21 :: .ref h22 :: .ref h23 :: .ref h24 :: .ref h25 :: .ref h26 :: .ref h27 :: .ref h28 :: .ref h29 :: .ref h30 :: .ref h31 :: .int wp22070 :: .ref h33 :: .ref h34 :: .ref h35 :: .int wp22071 :: [.ref h37, .ref h38, .ref h39, .ref h40, .ref h41, .ref h42, .ref h43, .ref h44, .ref h45, .ref h46, .ref h47, .ref h48, .ref h49, .ref h50, .ref h51, .int wp22072, .int wp22073, .int wp22074, .int wp22075, .int wp22076, .ref h57, .ref h58, .int wp22077, .ref h60, .int 0, .ref h61, .int wp22078, .ref h63, .ref h64, .int wp22079, .ref h66, .ref h67, .int wp22080, .ref h69, .ref h70, .ref h71, .ref h72, .int wp22081, .int wp22082, .int wp22083, .int wp22084, .ref h77, .ref h78, .ref h79, .ref h80, .ref h81, .ref h82, .ref h83, .ref h84, .ref h85]))), (h57, .inl (y 0, 3, .inl (upd (fun _ => 0) ((0 : Int32).toNatClampNeg) 2))), (h58, .inl (y 0, 18, .inl (upd wf22085 ((0 : Int32).toNatClampNeg) ((p2 / 10) - (p2 / 10) / 10 * 10))))]) hS => ?_
              obtain ⟨fn22108, hfn22108⟩ : ∃ f9 : Nat → Int32, f9 = (upd wf22085 ((0 : Int32).toNatClampNeg) ((p2 / 10) - (p2 / 10) / 10 * 10)) := ⟨_, rfl⟩
              rw [← hfn22108] at hP hD
              clear hfn22108
              refine lv_iinc (v := 1) (lv' := [(4, .int 1), (0, .ref h0), (1, .int 0), (2, .int p2), (3, .int 2)]) hx hb dX12_secret_88 hl (k := 0) rfl (by decide +kernel) (by decide) rfl ?_
              clear hl
              clear ls
              intro ls hl
              refine lv_goto (tgt := 63) hx hb dX12_secret_91 (by decide) ?_
              refine lv_iload hx hb dX12_secret_63 (lv_at hl 0 rfl) ?_
              refine lv_iload_n hx hb dX12_secret_65 rfl (lv_at hl 4 rfl) ?_
              refine lv_icmp_ge (tgt := 94) hx hb dX12_secret_66 (by decide) (fun c9 => absurd c9 (by decide +kernel)) (fun _ => ?_)
              refine lv_aload_n hx hb dX12_secret_69 rfl (lv_at hl 1 rfl) ?_
              refine gm_get (D := D) (ci := 12) (v := .ref h58) (C := RX12) (T := TX12) (N := 83) hx hb hg inlX12 hown hK.1 hP 0 rfl rfl 54 (by decide) tX12_54 (hg _ gw_208) rfl dX12_secret_70 ?_
              refine lv_bipush (v := 6) hx hb dX12_secret_73 (by decide +kernel) ?_
              refine lv_iload_n hx hb dX12_secret_75 rfl (lv_at hl 2 rfl) ?_
              refine lv_imul hx hb dX12_secret_76 ?_
              refine g_fi (v := 0) (by decide +kernel) ?_
              refine lv_iload hx hb dX12_secret_77 (lv_at hl 0 rfl) ?_
              refine lv_iadd hx hb dX12_secret_79 ?_
              refine g_fi (v := 1) (by decide +kernel) ?_
              refine lv_iload_n hx hb dX12_secret_80 rfl (lv_at hl 3 rfl) ?_
              refine lv_iload_n hx hb dX12_secret_81 rfl (lv_at hl 4 rfl) ?_
              refine lv_iload hx hb dX12_secret_82 (lv_at hl 0 rfl) ?_
              refine g_ai (wr := [(h0, .inr (12, (.ref h4 :: .int wp22065 :: .int wp22066 :: .ref h7 :: .ref h8 :: .ref h9 :: .ref h10 :: .ref h11 :: .ref h12 :: .ref h13 :: .ref h14 :: .ref h15 :: .int wp22067 :: .ref h17 :: .int wp22068 :: .ref h19 :: .int wp22069 :: .ref h21 :: .ref h22 :: .ref h23 :: .ref h24 :: .ref h25 :: .ref h26 :: .ref h27 :: .ref h28 :: .ref h29 :: .ref h30 :: .ref h31 :: .int wp22070 :: .ref h33 :: .ref h34 :: .ref h35 :: .int wp22071 :: [.ref h37, .ref h38, .ref h39, .ref h40, .ref h41, .ref h42, .ref h43, .ref h44, .ref h45, .ref h46, .ref h47, .ref h48, .ref h49, .ref h50, .ref h51, .int wp22072, .int wp22073, .int wp22074, .int wp22075, .int wp22076, .ref h57, .ref h58, .int wp22077, .ref h60, .int 0, .ref h61, .int wp22078, .ref h63, .ref h64, .int wp22079, .ref h66, .ref h67, .int wp22080, .ref h69, .ref h70, .ref h71, .ref h72, .int wp22081, .int wp22082, .int wp22083, .int wp22084, .ref h77, .ref h78, .ref h79, .ref h80, .ref h81, .ref h82, .ref h83, .ref h84, .ref h85]))), (h57, .inl (y 0, 3, .inl (upd (fun _ => 0) ((0 : Int32).toNatClampNeg) 2))), (h58, .inl (y 0, 18, .inl fn22108))]) (va_runS (As := [.int p2, .int 2, .int 1]) (rest := [.int 1, .ref h58]) ⟨hx, hb, hml, hown, hg⟩ (k_X12_digitOf_1 l D y aS H.size p2) (va_cwS 3 hg ggS_RX12_484_X12_digitOf rfl rfl rfl (by decide +kernel) ⟨Nat.le_of_ble_eq_true rfl, Nat.le_of_ble_eq_true rfl⟩) (g_preS hK hP hD [] rfl (by decide)) rfl rfl hl.1 rfl (lv_room (Nat.le_of_ble_eq_true rfl)) dX12_secret_84 ⟨Nat.le_of_ble_eq_true rfl, Nat.le_of_ble_eq_true rfl⟩) hP hD hS hA [] [0, 1, 2] rfl rfl (by decide) (by decide) ?_
              clear hP hD hS H locs
              refine fun r22109 u H locs hq hP hD hS => ?_
              subst hq
              replace hP : va_P D vwCl [(h0, .inr (12, (.ref h4 :: .int wp22065 :: .int wp22066 :: .ref h7 :: .ref h8 :: .ref h9 :: .ref h10 :: .ref h11 :: .ref h12 :: .ref h13 :: .ref h14 :: .ref h15 :: .int wp22067 :: .ref h17 :: .int wp22068 :: .ref h19 :: .int wp22069 :: .ref h21 :: .ref h22 :: .ref h23 :: .ref h24 :: .ref h25 :: .ref h26 :: .ref h27 :: .ref h28 :: .ref h29 :: .ref h30 :: .ref h31 :: .int wp22070 :: .ref h33 :: .ref h34 :: .ref h35 :: .int wp22071 :: [.ref h37, .ref h38, .ref h39, .ref h40, .ref h41, .ref h42, .ref h43, .ref h44, .ref h45, .ref h46, .ref h47, .ref h48, .ref h49, .ref h50, .ref h51, .int wp22072, .int wp22073, .int wp22074, .int wp22075, .int wp22076, .ref h57, .ref h58, .int wp22077, .ref h60, .int 0, .ref h61, .int wp22078, .ref h63, .ref h64, .int wp22079, .ref h66, .ref h67, .int wp22080, .ref h69, .ref h70, .ref h71, .ref h72, .int wp22081, .int wp22082, .int wp22083, .int wp22084, .ref h77, .ref h78, .ref h79, .ref h80, .ref h81, .ref h82, .ref h83, .ref h84, .ref h85]))), (h57, .inl (y 0, 3, .inl (upd (fun _ => 0) ((0 : Int32).toNatClampNeg) 2))), (h58, .inl (y 0, 18, .inl fn22108))] H := hP
              replace hD : va_D A [(h0, .inr (12, (.ref h4 :: .int wp22065 :: .int wp22066 :: .ref h7 :: .ref h8 :: .ref h9 :: .ref h10 :: .ref h11 :: .ref h12 :: .ref h13 :: .ref h14 :: .ref h15 :: .int wp22067 :: .ref h17 :: .int wp22068 :: .ref h19 :: .int wp22069 :: .ref h21 :: .ref h22 :: .ref h23 :: .ref h24 :: .ref h25 :: .ref h26 :: .ref h27 :: .ref h28 :: .ref h29 :: .ref h30 :: .ref h31 :: .int wp22070 :: .ref h33 :: .ref h34 :: .ref h35 :: .int wp22071 :: [.ref h37, .ref h38, .ref h39, .ref h40, .ref h41, .ref h42, .ref h43, .ref h44, .ref h45, .ref h46, .ref h47, .ref h48, .ref h49, .ref h50, .ref h51, .int wp22072, .int wp22073, .int wp22074, .int wp22075, .int wp22076, .ref h57, .ref h58, .int wp22077, .ref h60, .int 0, .ref h61, .int wp22078, .ref h63, .ref h64, .int wp22079, .ref h66, .ref h67, .int wp22080, .ref h69, .ref h70, .ref h71, .ref h72, .int wp22081, .int wp22082, .int wp22083, .int wp22084, .ref h77, .ref h78, .ref h79, .ref h80, .ref h81, .ref h82, .ref h83, .ref h84, .ref h85]))), (h57, .inl (y 0, 3, .inl (upd (fun _ => 0) ((0 : Int32).toNatClampNeg) 2))), (h58, .inl (y 0, 18, .inl fn22108))] := hD
              refine va_iast hx hb hK.1 hP hD hS 2 0 rfl rfl (by unfold vp_in; decide +kernel) dX12_secret_87 ?_
              clear hP hD hS H locs
              refine fun H locs (hP : va_P D vwCl [(h0, .inr (12, (.ref h4 :: .int wp22065 :: .int wp22066 :: .ref h7 :: .ref h8 :: .ref h9 :: .ref h10 :: .ref h11 :: .ref h12 :: .ref h13 :: .ref h14 :: .ref h15 :: .int wp22067 :: .ref h17 :: .int wp22068 :: .ref h19 :: .int wp22069 :: .ref h21 :: .ref h22 :: .ref h23 :: .ref h24 :: .ref h25 :: .ref h26 :: .ref h27 :: .ref h28 :: .ref h29 :: .ref h30 :: .ref h31 :: .int wp22070 :: .ref h33 :: .ref h34 :: .ref h35 :: .int wp22071 :: [.ref h37, .ref h38, .ref h39, .ref h40, .ref h41, .ref h42, .ref h43, .ref h44, .ref h45, .ref h46, .ref h47, .ref h48, .ref h49, .ref h50, .ref h51, .int wp22072, .int wp22073, .int wp22074, .int wp22075, .int wp22076, .ref h57, .ref h58, .int wp22077, .ref h60, .int 0, .ref h61, .int wp22078, .ref h63, .ref h64, .int wp22079, .ref h66, .ref h67, .int wp22080, .ref h69, .ref h70, .ref h71, .ref h72, .int wp22081, .int wp22082, .int wp22083, .int wp22084, .ref h77, .ref h78, .ref h79, .ref h80, .ref h81, .ref h82, .ref h83, .ref h84, .ref h85]))), (h57, .inl (y 0, 3, .inl (upd (fun _ => 0) ((0 : Int32).toNatClampNeg) 2))), (h58, .inl (y 0, 18, .inl (upd fn22108 ((1 : Int32).toNatClampNeg) ((p2 / 1) - (p2 / 1) / 10 * 10))))] H) (hD : va_D A [(h0, .inr (12, (.ref h4 :: .int wp22065 :: .int wp22066 :: .ref h7 :: .ref h8 :: .ref h9 :: .ref h10 :: .ref h11 :: .ref h12 :: .ref h13 :: .ref h14 :: .ref h15 :: .int wp22067 :: .ref h17 :: .int wp22068 :: .ref h19 :: .int wp22069 :: .ref h21 :: .ref h22 :: .ref h23 :: .ref h24 :: .ref h25 :: .ref h26 :: .ref h27 :: .ref h28 :: .ref h29 :: .ref h30 :: .ref h31 :: .int wp22070 :: .ref h33 :: .ref h34 :: .ref h35 :: .int wp22071 :: [.ref h37, .ref h38, .ref h39, .ref h40, .ref h41, .ref h42, .ref h43, .ref h44, .ref h45, .ref h46, .ref h47, .ref h48, .ref h49, .ref h50, .ref h51, .int wp22072, .int wp22073, .int wp22074, .int wp22075, .int wp22076, .ref h57, .ref h58, .int wp22077, .ref h60, .int 0, .ref h61, .int wp22078, .ref h63, .ref h64, .int wp22079, .ref h66, .ref h67, .int wp22080, .ref h69, .ref h70, .ref h71, .ref h72, .int wp22081, .int wp22082, .int wp22083, .int wp22084, .ref h77, .ref h78, .ref h79, .ref h80, .ref h81, .ref h82, .ref h83, .ref h84, .ref h85]))), (h57, .inl (y 0, 3, .inl (upd (fun _ => 0) ((0 : Int32).toNatClampNeg) 2))), (h58, .inl (y 0, 18, .inl (upd fn22108 ((1 : Int32).toNatClampNeg) ((p2 / 1) - (p2 / 1) / 10 * 10))))]) hS => ?_
              obtain ⟨fn22110, hfn22110⟩ : ∃ f9 : Nat → Int32, f9 = (upd fn22108 ((1 : Int32).toNatClampNeg) ((p2 / 1) - (p2 / 1) / 10 * 10)) := ⟨_, rfl⟩
              rw [← hfn22110] at hP hD
              clear hfn22110
              refine lv_iinc (v := 2) (lv' := [(4, .int 2), (0, .ref h0), (1, .int 0), (2, .int p2), (3, .int 2)]) hx hb dX12_secret_88 hl (k := 0) rfl (by decide +kernel) (by decide) rfl ?_
              clear hl
              clear ls
              intro ls hl
              refine lv_goto (tgt := 63) hx hb dX12_secret_91 (by decide) ?_
              refine lv_iload hx hb dX12_secret_63 (lv_at hl 0 rfl) ?_
              refine lv_iload_n hx hb dX12_secret_65 rfl (lv_at hl 4 rfl) ?_
              refine lv_icmp_ge (tgt := 94) hx hb dX12_secret_66 (by decide) (fun _ => ?_) (fun c9 => absurd c9 (by decide +kernel))
              refine lv_iconst (v := 0) hx hb dX12_secret_94 (by decide) ?_
              refine lv_istore (lv' := [(4, .int 0), (0, .ref h0), (1, .int 0), (2, .int p2), (3, .int 2)]) hx hb dX12_secret_95 hl (by decide) rfl ?_
              clear hl
              clear ls
              intro ls hl
              refine lv_iconst (v := 0) hx hb dX12_secret_97 (by decide) ?_
              refine lv_istore (lv' := [(5, .int 0), (4, .int 0), (0, .ref h0), (1, .int 0), (2, .int p2), (3, .int 2)]) hx hb dX12_secret_98 hl (by decide) rfl ?_
              clear hl
              clear ls
              intro ls hl
              refine lv_iload hx hb dX12_secret_100 (lv_at hl 0 rfl) ?_
              refine lv_iconst (v := 3) hx hb dX12_secret_102 (by decide) ?_
              refine lv_icmp_ge (tgt := 132) hx hb dX12_secret_103 (by decide) (fun c9 => absurd c9 (by decide +kernel)) (fun _ => ?_)
              refine lv_iload hx hb dX12_secret_106 (lv_at hl 1 rfl) ?_
              refine lv_aload_n hx hb dX12_secret_108 rfl (lv_at hl 2 rfl) ?_
              refine gm_get (D := D) (ci := 12) (v := .ref h57) (C := RX12) (T := TX12) (N := 83) hx hb hg inlX12 hown hK.1 hP 0 rfl rfl 53 (by decide) tX12_53 (hg _ gw_207) rfl dX12_secret_109 ?_
              refine lv_iload hx hb dX12_secret_112 (lv_at hl 0 rfl) ?_
              refine va_iald hx hb hK.1 hP 1 0 rfl rfl (by unfold vp_in; decide +kernel) dX12_secret_114 ?_
              refine g_fi (v := 2) (by rfl) ?_
              refine lv_if_le (tgt := 122) hx hb dX12_secret_115 (by decide) (fun c9 => absurd c9 (by decide +kernel)) (fun _ => ?_)
              refine lv_iconst (v := 1) hx hb dX12_secret_118 (by decide) ?_
              refine lv_goto (tgt := 123) hx hb dX12_secret_119 (by decide) ?_
              refine lv_iadd hx hb dX12_secret_123 ?_
              refine g_fi (v := 1) (by decide +kernel) ?_
              refine lv_istore (lv' := [(4, .int 1), (5, .int 0), (0, .ref h0), (1, .int 0), (2, .int p2), (3, .int 2)]) hx hb dX12_secret_124 hl (by decide) rfl ?_
              clear hl
              clear ls
              intro ls hl
              refine lv_iinc (v := 1) (lv' := [(5, .int 1), (4, .int 1), (0, .ref h0), (1, .int 0), (2, .int p2), (3, .int 2)]) hx hb dX12_secret_126 hl (k := 1) rfl (by decide +kernel) (by decide) rfl ?_
              clear hl
              clear ls
              intro ls hl
              refine lv_goto (tgt := 100) hx hb dX12_secret_129 (by decide) ?_
              refine lv_iload hx hb dX12_secret_100 (lv_at hl 0 rfl) ?_
              refine lv_iconst (v := 3) hx hb dX12_secret_102 (by decide) ?_
              refine lv_icmp_ge (tgt := 132) hx hb dX12_secret_103 (by decide) (fun c9 => absurd c9 (by decide +kernel)) (fun _ => ?_)
              refine lv_iload hx hb dX12_secret_106 (lv_at hl 1 rfl) ?_
              refine lv_aload_n hx hb dX12_secret_108 rfl (lv_at hl 2 rfl) ?_
              refine gm_get (D := D) (ci := 12) (v := .ref h57) (C := RX12) (T := TX12) (N := 83) hx hb hg inlX12 hown hK.1 hP 0 rfl rfl 53 (by decide) tX12_53 (hg _ gw_207) rfl dX12_secret_109 ?_
              refine lv_iload hx hb dX12_secret_112 (lv_at hl 0 rfl) ?_
              refine va_iald hx hb hK.1 hP 1 0 rfl rfl (by unfold vp_in; decide +kernel) dX12_secret_114 ?_
              refine g_fi (v := 0) (by rfl) ?_
              refine lv_if_le (tgt := 122) hx hb dX12_secret_115 (by decide) (fun _ => ?_) (fun c9 => absurd c9 (by decide +kernel))
              refine lv_iconst (v := 0) hx hb dX12_secret_122 (by decide) ?_
              refine lv_iadd hx hb dX12_secret_123 ?_
              refine g_fi (v := 1) (by decide +kernel) ?_
              refine lv_istore (lv' := [(4, .int 1), (5, .int 1), (0, .ref h0), (1, .int 0), (2, .int p2), (3, .int 2)]) hx hb dX12_secret_124 hl (by decide) rfl ?_
              clear hl
              clear ls
              intro ls hl
              refine lv_iinc (v := 2) (lv' := [(5, .int 2), (4, .int 1), (0, .ref h0), (1, .int 0), (2, .int p2), (3, .int 2)]) hx hb dX12_secret_126 hl (k := 1) rfl (by decide +kernel) (by decide) rfl ?_
              clear hl
              clear ls
              intro ls hl
              refine lv_goto (tgt := 100) hx hb dX12_secret_129 (by decide) ?_
              refine lv_iload hx hb dX12_secret_100 (lv_at hl 0 rfl) ?_
              refine lv_iconst (v := 3) hx hb dX12_secret_102 (by decide) ?_
              refine lv_icmp_ge (tgt := 132) hx hb dX12_secret_103 (by decide) (fun c9 => absurd c9 (by decide +kernel)) (fun _ => ?_)
              refine lv_iload hx hb dX12_secret_106 (lv_at hl 1 rfl) ?_
              refine lv_aload_n hx hb dX12_secret_108 rfl (lv_at hl 2 rfl) ?_
              refine gm_get (D := D) (ci := 12) (v := .ref h57) (C := RX12) (T := TX12) (N := 83) hx hb hg inlX12 hown hK.1 hP 0 rfl rfl 53 (by decide) tX12_53 (hg _ gw_207) rfl dX12_secret_109 ?_
              refine lv_iload hx hb dX12_secret_112 (lv_at hl 0 rfl) ?_
              refine va_iald hx hb hK.1 hP 1 0 rfl rfl (by unfold vp_in; decide +kernel) dX12_secret_114 ?_
              refine g_fi (v := 0) (by rfl) ?_
              refine lv_if_le (tgt := 122) hx hb dX12_secret_115 (by decide) (fun _ => ?_) (fun c9 => absurd c9 (by decide +kernel))
              refine lv_iconst (v := 0) hx hb dX12_secret_122 (by decide) ?_
              refine lv_iadd hx hb dX12_secret_123 ?_
              refine g_fi (v := 1) (by decide +kernel) ?_
              refine lv_istore (lv' := [(4, .int 1), (5, .int 2), (0, .ref h0), (1, .int 0), (2, .int p2), (3, .int 2)]) hx hb dX12_secret_124 hl (by decide) rfl ?_
              clear hl
              clear ls
              intro ls hl
              refine lv_iinc (v := 3) (lv' := [(5, .int 3), (4, .int 1), (0, .ref h0), (1, .int 0), (2, .int p2), (3, .int 2)]) hx hb dX12_secret_126 hl (k := 1) rfl (by decide +kernel) (by decide) rfl ?_
              clear hl
              clear ls
              intro ls hl
              refine lv_goto (tgt := 100) hx hb dX12_secret_129 (by decide) ?_
              refine lv_iload hx hb dX12_secret_100 (lv_at hl 0 rfl) ?_
              refine lv_iconst (v := 3) hx hb dX12_secret_102 (by decide) ?_
              refine lv_icmp_ge (tgt := 132) hx hb dX12_secret_103 (by decide) (fun _ => ?_) (fun c9 => absurd c9 (by decide +kernel))
              refine lv_iload hx hb dX12_secret_132 (lv_at hl 1 rfl) ?_
              exact g_iret hx hb hr hlocks ⟨0, (upd (fun _ => 0) ((0 : Int32).toNatClampNeg) 2), fn22110⟩ hP hD hS rfl (Or.inr (Or.inr (Or.inr (Or.inr (Or.inr (Or.inl ⟨rfl, rfl, rfl, (by first | omega | (simp_all; done)), (by first | omega | (simp_all; done)), (by first | omega | (simp_all; done)), (by first | omega | (simp_all; done)), (by first | omega | (simp_all; done)), (by first | omega | (simp_all; done))⟩)))))) (Nat.le_of_ble_eq_true rfl) (Nat.le_of_ble_eq_true rfl) dX12_secret_134
            ·
              refine lv_aload_n hx hb dX12_secret_53 rfl (lv_at hl 0 rfl) ?_
              refine gm_get (D := D) (ci := 12) (v := .ref h57) (C := RX12) (T := TX12) (N := 83) hx hb hg inlX12 hown hK.1 hP 0 rfl rfl 53 (by decide) tX12_53 (hg _ gw_207) rfl dX12_secret_54 ?_
              refine lv_iload_n hx hb dX12_secret_57 rfl (lv_at hl 1 rfl) ?_
              refine lv_iload_n hx hb dX12_secret_58 rfl (lv_at hl 3 rfl) ?_
              refine va_iast hx hb hK.1 hP hD hS 1 0 rfl rfl (by unfold vp_in; decide +kernel) dX12_secret_59 ?_
              clear hP hD hS H locs
              refine fun H locs (hP : va_P D vwCl [(h0, .inr (12, (.ref h4 :: .int wp22065 :: .int wp22066 :: .ref h7 :: .ref h8 :: .ref h9 :: .ref h10 :: .ref h11 :: .ref h12 :: .ref h13 :: .ref h14 :: .ref h15 :: .int wp22067 :: .ref h17 :: .int wp22068 :: .ref h19 :: .int wp22069 :: .ref h21 :: .ref h22 :: .ref h23 :: .ref h24 :: .ref h25 :: .ref h26 :: .ref h27 :: .ref h28 :: .ref h29 :: .ref h30 :: .ref h31 :: .int wp22070 :: .ref h33 :: .ref h34 :: .ref h35 :: .int wp22071 :: [.ref h37, .ref h38, .ref h39, .ref h40, .ref h41, .ref h42, .ref h43, .ref h44, .ref h45, .ref h46, .ref h47, .ref h48, .ref h49, .ref h50, .ref h51, .int wp22072, .int wp22073, .int wp22074, .int wp22075, .int wp22076, .ref h57, .ref h58, .int wp22077, .ref h60, .int 0, .ref h61, .int wp22078, .ref h63, .ref h64, .int wp22079, .ref h66, .ref h67, .int wp22080, .ref h69, .ref h70, .ref h71, .ref h72, .int wp22081, .int wp22082, .int wp22083, .int wp22084, .ref h77, .ref h78, .ref h79, .ref h80, .ref h81, .ref h82, .ref h83, .ref h84, .ref h85]))), (h57, .inl (y 0, 3, .inl (upd (fun _ => 0) ((1 : Int32).toNatClampNeg) 2))), (h58, .inl (y 0, 18, .inl wf22085))] H) (hD : va_D A [(h0, .inr (12, (.ref h4 :: .int wp22065 :: .int wp22066 :: .ref h7 :: .ref h8 :: .ref h9 :: .ref h10 :: .ref h11 :: .ref h12 :: .ref h13 :: .ref h14 :: .ref h15 :: .int wp22067 :: .ref h17 :: .int wp22068 :: .ref h19 :: .int wp22069 :: .ref h21 :: .ref h22 :: .ref h23 :: .ref h24 :: .ref h25 :: .ref h26 :: .ref h27 :: .ref h28 :: .ref h29 :: .ref h30 :: .ref h31 :: .int wp22070 :: .ref h33 :: .ref h34 :: .ref h35 :: .int wp22071 :: [.ref h37, .ref h38, .ref h39, .ref h40, .ref h41, .ref h42, .ref h43, .ref h44, .ref h45, .ref h46, .ref h47, .ref h48, .ref h49, .ref h50, .ref h51, .int wp22072, .int wp22073, .int wp22074, .int wp22075, .int wp22076, .ref h57, .ref h58, .int wp22077, .ref h60, .int 0, .ref h61, .int wp22078, .ref h63, .ref h64, .int wp22079, .ref h66, .ref h67, .int wp22080, .ref h69, .ref h70, .ref h71, .ref h72, .int wp22081, .int wp22082, .int wp22083, .int wp22084, .ref h77, .ref h78, .ref h79, .ref h80, .ref h81, .ref h82, .ref h83, .ref h84, .ref h85]))), (h57, .inl (y 0, 3, .inl (upd (fun _ => 0) ((1 : Int32).toNatClampNeg) 2))), (h58, .inl (y 0, 18, .inl wf22085))]) hS => ?_
              refine lv_iconst (v := 0) hx hb dX12_secret_60 (by decide) ?_
              refine lv_istore (lv' := [(4, .int 0), (0, .ref h0), (1, .int 1), (2, .int p2), (3, .int 2)]) hx hb dX12_secret_61 hl (by decide) rfl ?_
              clear hl
              clear ls
              intro ls hl
              refine lv_iload hx hb dX12_secret_63 (lv_at hl 0 rfl) ?_
              refine lv_iload_n hx hb dX12_secret_65 rfl (lv_at hl 4 rfl) ?_
              refine lv_icmp_ge (tgt := 94) hx hb dX12_secret_66 (by decide) (fun c9 => absurd c9 (by decide +kernel)) (fun _ => ?_)
              refine lv_aload_n hx hb dX12_secret_69 rfl (lv_at hl 1 rfl) ?_
              refine gm_get (D := D) (ci := 12) (v := .ref h58) (C := RX12) (T := TX12) (N := 83) hx hb hg inlX12 hown hK.1 hP 0 rfl rfl 54 (by decide) tX12_54 (hg _ gw_208) rfl dX12_secret_70 ?_
              refine lv_bipush (v := 6) hx hb dX12_secret_73 (by decide +kernel) ?_
              refine lv_iload_n hx hb dX12_secret_75 rfl (lv_at hl 2 rfl) ?_
              refine lv_imul hx hb dX12_secret_76 ?_
              refine g_fi (v := 6) (by decide +kernel) ?_
              refine lv_iload hx hb dX12_secret_77 (lv_at hl 0 rfl) ?_
              refine lv_iadd hx hb dX12_secret_79 ?_
              refine g_fi (v := 6) (by decide +kernel) ?_
              refine lv_iload_n hx hb dX12_secret_80 rfl (lv_at hl 3 rfl) ?_
              refine lv_iload_n hx hb dX12_secret_81 rfl (lv_at hl 4 rfl) ?_
              refine lv_iload hx hb dX12_secret_82 (lv_at hl 0 rfl) ?_
              refine g_ai (wr := [(h0, .inr (12, (.ref h4 :: .int wp22065 :: .int wp22066 :: .ref h7 :: .ref h8 :: .ref h9 :: .ref h10 :: .ref h11 :: .ref h12 :: .ref h13 :: .ref h14 :: .ref h15 :: .int wp22067 :: .ref h17 :: .int wp22068 :: .ref h19 :: .int wp22069 :: .ref h21 :: .ref h22 :: .ref h23 :: .ref h24 :: .ref h25 :: .ref h26 :: .ref h27 :: .ref h28 :: .ref h29 :: .ref h30 :: .ref h31 :: .int wp22070 :: .ref h33 :: .ref h34 :: .ref h35 :: .int wp22071 :: [.ref h37, .ref h38, .ref h39, .ref h40, .ref h41, .ref h42, .ref h43, .ref h44, .ref h45, .ref h46, .ref h47, .ref h48, .ref h49, .ref h50, .ref h51, .int wp22072, .int wp22073, .int wp22074, .int wp22075, .int wp22076, .ref h57, .ref h58, .int wp22077, .ref h60, .int 0, .ref h61, .int wp22078, .ref h63, .ref h64, .int wp22079, .ref h66, .ref h67, .int wp22080, .ref h69, .ref h70, .ref h71, .ref h72, .int wp22081, .int wp22082, .int wp22083, .int wp22084, .ref h77, .ref h78, .ref h79, .ref h80, .ref h81, .ref h82, .ref h83, .ref h84, .ref h85]))), (h57, .inl (y 0, 3, .inl (upd (fun _ => 0) ((1 : Int32).toNatClampNeg) 2))), (h58, .inl (y 0, 18, .inl wf22085))]) (va_runS (As := [.int p2, .int 2, .int 0]) (rest := [.int 6, .ref h58]) ⟨hx, hb, hml, hown, hg⟩ (k_X12_digitOf_0 l D y aS H.size p2) (va_cwS 3 hg ggS_RX12_484_X12_digitOf rfl rfl rfl (by decide +kernel) ⟨Nat.le_of_ble_eq_true rfl, Nat.le_of_ble_eq_true rfl⟩) (g_preS hK hP hD [] rfl (by decide)) rfl rfl hl.1 rfl (lv_room (Nat.le_of_ble_eq_true rfl)) dX12_secret_84 ⟨Nat.le_of_ble_eq_true rfl, Nat.le_of_ble_eq_true rfl⟩) hP hD hS hA [] [0, 1, 2] rfl rfl (by decide) (by decide) ?_
              clear hP hD hS H locs
              refine fun r22111 u H locs hq hP hD hS => ?_
              subst hq
              replace hP : va_P D vwCl [(h0, .inr (12, (.ref h4 :: .int wp22065 :: .int wp22066 :: .ref h7 :: .ref h8 :: .ref h9 :: .ref h10 :: .ref h11 :: .ref h12 :: .ref h13 :: .ref h14 :: .ref h15 :: .int wp22067 :: .ref h17 :: .int wp22068 :: .ref h19 :: .int wp22069 :: .ref h21 :: .ref h22 :: .ref h23 :: .ref h24 :: .ref h25 :: .ref h26 :: .ref h27 :: .ref h28 :: .ref h29 :: .ref h30 :: .ref h31 :: .int wp22070 :: .ref h33 :: .ref h34 :: .ref h35 :: .int wp22071 :: [.ref h37, .ref h38, .ref h39, .ref h40, .ref h41, .ref h42, .ref h43, .ref h44, .ref h45, .ref h46, .ref h47, .ref h48, .ref h49, .ref h50, .ref h51, .int wp22072, .int wp22073, .int wp22074, .int wp22075, .int wp22076, .ref h57, .ref h58, .int wp22077, .ref h60, .int 0, .ref h61, .int wp22078, .ref h63, .ref h64, .int wp22079, .ref h66, .ref h67, .int wp22080, .ref h69, .ref h70, .ref h71, .ref h72, .int wp22081, .int wp22082, .int wp22083, .int wp22084, .ref h77, .ref h78, .ref h79, .ref h80, .ref h81, .ref h82, .ref h83, .ref h84, .ref h85]))), (h57, .inl (y 0, 3, .inl (upd (fun _ => 0) ((1 : Int32).toNatClampNeg) 2))), (h58, .inl (y 0, 18, .inl wf22085))] H := hP
              replace hD : va_D A [(h0, .inr (12, (.ref h4 :: .int wp22065 :: .int wp22066 :: .ref h7 :: .ref h8 :: .ref h9 :: .ref h10 :: .ref h11 :: .ref h12 :: .ref h13 :: .ref h14 :: .ref h15 :: .int wp22067 :: .ref h17 :: .int wp22068 :: .ref h19 :: .int wp22069 :: .ref h21 :: .ref h22 :: .ref h23 :: .ref h24 :: .ref h25 :: .ref h26 :: .ref h27 :: .ref h28 :: .ref h29 :: .ref h30 :: .ref h31 :: .int wp22070 :: .ref h33 :: .ref h34 :: .ref h35 :: .int wp22071 :: [.ref h37, .ref h38, .ref h39, .ref h40, .ref h41, .ref h42, .ref h43, .ref h44, .ref h45, .ref h46, .ref h47, .ref h48, .ref h49, .ref h50, .ref h51, .int wp22072, .int wp22073, .int wp22074, .int wp22075, .int wp22076, .ref h57, .ref h58, .int wp22077, .ref h60, .int 0, .ref h61, .int wp22078, .ref h63, .ref h64, .int wp22079, .ref h66, .ref h67, .int wp22080, .ref h69, .ref h70, .ref h71, .ref h72, .int wp22081, .int wp22082, .int wp22083, .int wp22084, .ref h77, .ref h78, .ref h79, .ref h80, .ref h81, .ref h82, .ref h83, .ref h84, .ref h85]))), (h57, .inl (y 0, 3, .inl (upd (fun _ => 0) ((1 : Int32).toNatClampNeg) 2))), (h58, .inl (y 0, 18, .inl wf22085))] := hD
              refine va_iast hx hb hK.1 hP hD hS 2 0 rfl rfl (by unfold vp_in; decide +kernel) dX12_secret_87 ?_
              clear hP hD hS H locs
              refine fun H locs (hP : va_P D vwCl [(h0, .inr (12, (.ref h4 :: .int wp22065 :: .int wp22066 :: .ref h7 :: .ref h8 :: .ref h9 :: .ref h10 :: .ref h11 :: .ref h12 :: .ref h13 :: .ref h14 :: .ref h15 :: .int wp22067 :: .ref h17 :: .int wp22068 :: .ref h19 :: .int wp22069 :: .ref h21 :: .ref h22 :: .ref h23 :: .ref h24 :: .ref h25 :: .ref h26 :: .ref h27 :: .ref h28 :: .ref h29 :: .ref h30 :: .ref h31 :: .int wp22070 :: .ref h33 :: .ref h34 :: .ref h35 :: .int wp22071 :: [.ref h37, .ref h38, .ref h39, .ref h40, .ref h41, .ref h42, .ref h43, .ref h44, .ref h45, .ref h46, .ref h47, .ref h48, .ref h49, .ref h50, .ref h51, .int wp22072, .int wp22073, .int wp22074, .int wp22075, .int wp22076, .ref h57, .ref h58, .int wp22077, .ref h60, .int 0, .ref h61, .int wp22078, .ref h63, .ref h64, .int wp22079, .ref h66, .ref h67, .int wp22080, .ref h69, .ref h70, .ref h71, .ref h72, .int wp22081, .int wp22082, .int wp22083, .int wp22084, .ref h77, .ref h78, .ref h79, .ref h80, .ref h81, .ref h82, .ref h83, .ref h84, .ref h85]))), (h57, .inl (y 0, 3, .inl (upd (fun _ => 0) ((1 : Int32).toNatClampNeg) 2))), (h58, .inl (y 0, 18, .inl (upd wf22085 ((6 : Int32).toNatClampNeg) ((p2 / 10) - (p2 / 10) / 10 * 10))))] H) (hD : va_D A [(h0, .inr (12, (.ref h4 :: .int wp22065 :: .int wp22066 :: .ref h7 :: .ref h8 :: .ref h9 :: .ref h10 :: .ref h11 :: .ref h12 :: .ref h13 :: .ref h14 :: .ref h15 :: .int wp22067 :: .ref h17 :: .int wp22068 :: .ref h19 :: .int wp22069 :: .ref h21 :: .ref h22 :: .ref h23 :: .ref h24 :: .ref h25 :: .ref h26 :: .ref h27 :: .ref h28 :: .ref h29 :: .ref h30 :: .ref h31 :: .int wp22070 :: .ref h33 :: .ref h34 :: .ref h35 :: .int wp22071 :: [.ref h37, .ref h38, .ref h39, .ref h40, .ref h41, .ref h42, .ref h43, .ref h44, .ref h45, .ref h46, .ref h47, .ref h48, .ref h49, .ref h50, .ref h51, .int wp22072, .int wp22073, .int wp22074, .int wp22075, .int wp22076, .ref h57, .ref h58, .int wp22077, .ref h60, .int 0, .ref h61, .int wp22078, .ref h63, .ref h64, .int wp22079, .ref h66, .ref h67, .int wp22080, .ref h69, .ref h70, .ref h71, .ref h72, .int wp22081, .int wp22082, .int wp22083, .int wp22084, .ref h77, .ref h78, .ref h79, .ref h80, .ref h81, .ref h82, .ref h83, .ref h84, .ref h85]))), (h57, .inl (y 0, 3, .inl (upd (fun _ => 0) ((1 : Int32).toNatClampNeg) 2))), (h58, .inl (y 0, 18, .inl (upd wf22085 ((6 : Int32).toNatClampNeg) ((p2 / 10) - (p2 / 10) / 10 * 10))))]) hS => ?_
              obtain ⟨fn22112, hfn22112⟩ : ∃ f9 : Nat → Int32, f9 = (upd wf22085 ((6 : Int32).toNatClampNeg) ((p2 / 10) - (p2 / 10) / 10 * 10)) := ⟨_, rfl⟩
              rw [← hfn22112] at hP hD
              clear hfn22112
              refine lv_iinc (v := 1) (lv' := [(4, .int 1), (0, .ref h0), (1, .int 1), (2, .int p2), (3, .int 2)]) hx hb dX12_secret_88 hl (k := 0) rfl (by decide +kernel) (by decide) rfl ?_
              clear hl
              clear ls
              intro ls hl
              refine lv_goto (tgt := 63) hx hb dX12_secret_91 (by decide) ?_
              refine lv_iload hx hb dX12_secret_63 (lv_at hl 0 rfl) ?_
              refine lv_iload_n hx hb dX12_secret_65 rfl (lv_at hl 4 rfl) ?_
              refine lv_icmp_ge (tgt := 94) hx hb dX12_secret_66 (by decide) (fun c9 => absurd c9 (by decide +kernel)) (fun _ => ?_)
              refine lv_aload_n hx hb dX12_secret_69 rfl (lv_at hl 1 rfl) ?_
              refine gm_get (D := D) (ci := 12) (v := .ref h58) (C := RX12) (T := TX12) (N := 83) hx hb hg inlX12 hown hK.1 hP 0 rfl rfl 54 (by decide) tX12_54 (hg _ gw_208) rfl dX12_secret_70 ?_
              refine lv_bipush (v := 6) hx hb dX12_secret_73 (by decide +kernel) ?_
              refine lv_iload_n hx hb dX12_secret_75 rfl (lv_at hl 2 rfl) ?_
              refine lv_imul hx hb dX12_secret_76 ?_
              refine g_fi (v := 6) (by decide +kernel) ?_
              refine lv_iload hx hb dX12_secret_77 (lv_at hl 0 rfl) ?_
              refine lv_iadd hx hb dX12_secret_79 ?_
              refine g_fi (v := 7) (by decide +kernel) ?_
              refine lv_iload_n hx hb dX12_secret_80 rfl (lv_at hl 3 rfl) ?_
              refine lv_iload_n hx hb dX12_secret_81 rfl (lv_at hl 4 rfl) ?_
              refine lv_iload hx hb dX12_secret_82 (lv_at hl 0 rfl) ?_
              refine g_ai (wr := [(h0, .inr (12, (.ref h4 :: .int wp22065 :: .int wp22066 :: .ref h7 :: .ref h8 :: .ref h9 :: .ref h10 :: .ref h11 :: .ref h12 :: .ref h13 :: .ref h14 :: .ref h15 :: .int wp22067 :: .ref h17 :: .int wp22068 :: .ref h19 :: .int wp22069 :: .ref h21 :: .ref h22 :: .ref h23 :: .ref h24 :: .ref h25 :: .ref h26 :: .ref h27 :: .ref h28 :: .ref h29 :: .ref h30 :: .ref h31 :: .int wp22070 :: .ref h33 :: .ref h34 :: .ref h35 :: .int wp22071 :: [.ref h37, .ref h38, .ref h39, .ref h40, .ref h41, .ref h42, .ref h43, .ref h44, .ref h45, .ref h46, .ref h47, .ref h48, .ref h49, .ref h50, .ref h51, .int wp22072, .int wp22073, .int wp22074, .int wp22075, .int wp22076, .ref h57, .ref h58, .int wp22077, .ref h60, .int 0, .ref h61, .int wp22078, .ref h63, .ref h64, .int wp22079, .ref h66, .ref h67, .int wp22080, .ref h69, .ref h70, .ref h71, .ref h72, .int wp22081, .int wp22082, .int wp22083, .int wp22084, .ref h77, .ref h78, .ref h79, .ref h80, .ref h81, .ref h82, .ref h83, .ref h84, .ref h85]))), (h57, .inl (y 0, 3, .inl (upd (fun _ => 0) ((1 : Int32).toNatClampNeg) 2))), (h58, .inl (y 0, 18, .inl fn22112))]) (va_runS (As := [.int p2, .int 2, .int 1]) (rest := [.int 7, .ref h58]) ⟨hx, hb, hml, hown, hg⟩ (k_X12_digitOf_1 l D y aS H.size p2) (va_cwS 3 hg ggS_RX12_484_X12_digitOf rfl rfl rfl (by decide +kernel) ⟨Nat.le_of_ble_eq_true rfl, Nat.le_of_ble_eq_true rfl⟩) (g_preS hK hP hD [] rfl (by decide)) rfl rfl hl.1 rfl (lv_room (Nat.le_of_ble_eq_true rfl)) dX12_secret_84 ⟨Nat.le_of_ble_eq_true rfl, Nat.le_of_ble_eq_true rfl⟩) hP hD hS hA [] [0, 1, 2] rfl rfl (by decide) (by decide) ?_
              clear hP hD hS H locs
              refine fun r22113 u H locs hq hP hD hS => ?_
              subst hq
              replace hP : va_P D vwCl [(h0, .inr (12, (.ref h4 :: .int wp22065 :: .int wp22066 :: .ref h7 :: .ref h8 :: .ref h9 :: .ref h10 :: .ref h11 :: .ref h12 :: .ref h13 :: .ref h14 :: .ref h15 :: .int wp22067 :: .ref h17 :: .int wp22068 :: .ref h19 :: .int wp22069 :: .ref h21 :: .ref h22 :: .ref h23 :: .ref h24 :: .ref h25 :: .ref h26 :: .ref h27 :: .ref h28 :: .ref h29 :: .ref h30 :: .ref h31 :: .int wp22070 :: .ref h33 :: .ref h34 :: .ref h35 :: .int wp22071 :: [.ref h37, .ref h38, .ref h39, .ref h40, .ref h41, .ref h42, .ref h43, .ref h44, .ref h45, .ref h46, .ref h47, .ref h48, .ref h49, .ref h50, .ref h51, .int wp22072, .int wp22073, .int wp22074, .int wp22075, .int wp22076, .ref h57, .ref h58, .int wp22077, .ref h60, .int 0, .ref h61, .int wp22078, .ref h63, .ref h64, .int wp22079, .ref h66, .ref h67, .int wp22080, .ref h69, .ref h70, .ref h71, .ref h72, .int wp22081, .int wp22082, .int wp22083, .int wp22084, .ref h77, .ref h78, .ref h79, .ref h80, .ref h81, .ref h82, .ref h83, .ref h84, .ref h85]))), (h57, .inl (y 0, 3, .inl (upd (fun _ => 0) ((1 : Int32).toNatClampNeg) 2))), (h58, .inl (y 0, 18, .inl fn22112))] H := hP
              replace hD : va_D A [(h0, .inr (12, (.ref h4 :: .int wp22065 :: .int wp22066 :: .ref h7 :: .ref h8 :: .ref h9 :: .ref h10 :: .ref h11 :: .ref h12 :: .ref h13 :: .ref h14 :: .ref h15 :: .int wp22067 :: .ref h17 :: .int wp22068 :: .ref h19 :: .int wp22069 :: .ref h21 :: .ref h22 :: .ref h23 :: .ref h24 :: .ref h25 :: .ref h26 :: .ref h27 :: .ref h28 :: .ref h29 :: .ref h30 :: .ref h31 :: .int wp22070 :: .ref h33 :: .ref h34 :: .ref h35 :: .int wp22071 :: [.ref h37, .ref h38, .ref h39, .ref h40, .ref h41, .ref h42, .ref h43, .ref h44, .ref h45, .ref h46, .ref h47, .ref h48, .ref h49, .ref h50, .ref h51, .int wp22072, .int wp22073, .int wp22074, .int wp22075, .int wp22076, .ref h57, .ref h58, .int wp22077, .ref h60, .int 0, .ref h61, .int wp22078, .ref h63, .ref h64, .int wp22079, .ref h66, .ref h67, .int wp22080, .ref h69, .ref h70, .ref h71, .ref h72, .int wp22081, .int wp22082, .int wp22083, .int wp22084, .ref h77, .ref h78, .ref h79, .ref h80, .ref h81, .ref h82, .ref h83, .ref h84, .ref h85]))), (h57, .inl (y 0, 3, .inl (upd (fun _ => 0) ((1 : Int32).toNatClampNeg) 2))), (h58, .inl (y 0, 18, .inl fn22112))] := hD
              refine va_iast hx hb hK.1 hP hD hS 2 0 rfl rfl (by unfold vp_in; decide +kernel) dX12_secret_87 ?_
              clear hP hD hS H locs
              refine fun H locs (hP : va_P D vwCl [(h0, .inr (12, (.ref h4 :: .int wp22065 :: .int wp22066 :: .ref h7 :: .ref h8 :: .ref h9 :: .ref h10 :: .ref h11 :: .ref h12 :: .ref h13 :: .ref h14 :: .ref h15 :: .int wp22067 :: .ref h17 :: .int wp22068 :: .ref h19 :: .int wp22069 :: .ref h21 :: .ref h22 :: .ref h23 :: .ref h24 :: .ref h25 :: .ref h26 :: .ref h27 :: .ref h28 :: .ref h29 :: .ref h30 :: .ref h31 :: .int wp22070 :: .ref h33 :: .ref h34 :: .ref h35 :: .int wp22071 :: [.ref h37, .ref h38, .ref h39, .ref h40, .ref h41, .ref h42, .ref h43, .ref h44, .ref h45, .ref h46, .ref h47, .ref h48, .ref h49, .ref h50, .ref h51, .int wp22072, .int wp22073, .int wp22074, .int wp22075, .int wp22076, .ref h57, .ref h58, .int wp22077, .ref h60, .int 0, .ref h61, .int wp22078, .ref h63, .ref h64, .int wp22079, .ref h66, .ref h67, .int wp22080, .ref h69, .ref h70, .ref h71, .ref h72, .int wp22081, .int wp22082, .int wp22083, .int wp22084, .ref h77, .ref h78, .ref h79, .ref h80, .ref h81, .ref h82, .ref h83, .ref h84, .ref h85]))), (h57, .inl (y 0, 3, .inl (upd (fun _ => 0) ((1 : Int32).toNatClampNeg) 2))), (h58, .inl (y 0, 18, .inl (upd fn22112 ((7 : Int32).toNatClampNeg) ((p2 / 1) - (p2 / 1) / 10 * 10))))] H) (hD : va_D A [(h0, .inr (12, (.ref h4 :: .int wp22065 :: .int wp22066 :: .ref h7 :: .ref h8 :: .ref h9 :: .ref h10 :: .ref h11 :: .ref h12 :: .ref h13 :: .ref h14 :: .ref h15 :: .int wp22067 :: .ref h17 :: .int wp22068 :: .ref h19 :: .int wp22069 :: .ref h21 :: .ref h22 :: .ref h23 :: .ref h24 :: .ref h25 :: .ref h26 :: .ref h27 :: .ref h28 :: .ref h29 :: .ref h30 :: .ref h31 :: .int wp22070 :: .ref h33 :: .ref h34 :: .ref h35 :: .int wp22071 :: [.ref h37, .ref h38, .ref h39, .ref h40, .ref h41, .ref h42, .ref h43, .ref h44, .ref h45, .ref h46, .ref h47, .ref h48, .ref h49, .ref h50, .ref h51, .int wp22072, .int wp22073, .int wp22074, .int wp22075, .int wp22076, .ref h57, .ref h58, .int wp22077, .ref h60, .int 0, .ref h61, .int wp22078, .ref h63, .ref h64, .int wp22079, .ref h66, .ref h67, .int wp22080, .ref h69, .ref h70, .ref h71, .ref h72, .int wp22081, .int wp22082, .int wp22083, .int wp22084, .ref h77, .ref h78, .ref h79, .ref h80, .ref h81, .ref h82, .ref h83, .ref h84, .ref h85]))), (h57, .inl (y 0, 3, .inl (upd (fun _ => 0) ((1 : Int32).toNatClampNeg) 2))), (h58, .inl (y 0, 18, .inl (upd fn22112 ((7 : Int32).toNatClampNeg) ((p2 / 1) - (p2 / 1) / 10 * 10))))]) hS => ?_
              obtain ⟨fn22114, hfn22114⟩ : ∃ f9 : Nat → Int32, f9 = (upd fn22112 ((7 : Int32).toNatClampNeg) ((p2 / 1) - (p2 / 1) / 10 * 10)) := ⟨_, rfl⟩
              rw [← hfn22114] at hP hD
              clear hfn22114
              refine lv_iinc (v := 2) (lv' := [(4, .int 2), (0, .ref h0), (1, .int 1), (2, .int p2), (3, .int 2)]) hx hb dX12_secret_88 hl (k := 0) rfl (by decide +kernel) (by decide) rfl ?_
              clear hl
              clear ls
              intro ls hl
              refine lv_goto (tgt := 63) hx hb dX12_secret_91 (by decide) ?_
              refine lv_iload hx hb dX12_secret_63 (lv_at hl 0 rfl) ?_
              refine lv_iload_n hx hb dX12_secret_65 rfl (lv_at hl 4 rfl) ?_
              refine lv_icmp_ge (tgt := 94) hx hb dX12_secret_66 (by decide) (fun _ => ?_) (fun c9 => absurd c9 (by decide +kernel))
              refine lv_iconst (v := 0) hx hb dX12_secret_94 (by decide) ?_
              refine lv_istore (lv' := [(4, .int 0), (0, .ref h0), (1, .int 1), (2, .int p2), (3, .int 2)]) hx hb dX12_secret_95 hl (by decide) rfl ?_
              clear hl
              clear ls
              intro ls hl
              refine lv_iconst (v := 0) hx hb dX12_secret_97 (by decide) ?_
              refine lv_istore (lv' := [(5, .int 0), (4, .int 0), (0, .ref h0), (1, .int 1), (2, .int p2), (3, .int 2)]) hx hb dX12_secret_98 hl (by decide) rfl ?_
              clear hl
              clear ls
              intro ls hl
              refine lv_iload hx hb dX12_secret_100 (lv_at hl 0 rfl) ?_
              refine lv_iconst (v := 3) hx hb dX12_secret_102 (by decide) ?_
              refine lv_icmp_ge (tgt := 132) hx hb dX12_secret_103 (by decide) (fun c9 => absurd c9 (by decide +kernel)) (fun _ => ?_)
              refine lv_iload hx hb dX12_secret_106 (lv_at hl 1 rfl) ?_
              refine lv_aload_n hx hb dX12_secret_108 rfl (lv_at hl 2 rfl) ?_
              refine gm_get (D := D) (ci := 12) (v := .ref h57) (C := RX12) (T := TX12) (N := 83) hx hb hg inlX12 hown hK.1 hP 0 rfl rfl 53 (by decide) tX12_53 (hg _ gw_207) rfl dX12_secret_109 ?_
              refine lv_iload hx hb dX12_secret_112 (lv_at hl 0 rfl) ?_
              refine va_iald hx hb hK.1 hP 1 0 rfl rfl (by unfold vp_in; decide +kernel) dX12_secret_114 ?_
              refine g_fi (v := 0) (by rfl) ?_
              refine lv_if_le (tgt := 122) hx hb dX12_secret_115 (by decide) (fun _ => ?_) (fun c9 => absurd c9 (by decide +kernel))
              refine lv_iconst (v := 0) hx hb dX12_secret_122 (by decide) ?_
              refine lv_iadd hx hb dX12_secret_123 ?_
              refine g_fi (v := 0) (by decide +kernel) ?_
              refine lv_istore (lv' := [(4, .int 0), (5, .int 0), (0, .ref h0), (1, .int 1), (2, .int p2), (3, .int 2)]) hx hb dX12_secret_124 hl (by decide) rfl ?_
              clear hl
              clear ls
              intro ls hl
              refine lv_iinc (v := 1) (lv' := [(5, .int 1), (4, .int 0), (0, .ref h0), (1, .int 1), (2, .int p2), (3, .int 2)]) hx hb dX12_secret_126 hl (k := 1) rfl (by decide +kernel) (by decide) rfl ?_
              clear hl
              clear ls
              intro ls hl
              refine lv_goto (tgt := 100) hx hb dX12_secret_129 (by decide) ?_
              refine lv_iload hx hb dX12_secret_100 (lv_at hl 0 rfl) ?_
              refine lv_iconst (v := 3) hx hb dX12_secret_102 (by decide) ?_
              refine lv_icmp_ge (tgt := 132) hx hb dX12_secret_103 (by decide) (fun c9 => absurd c9 (by decide +kernel)) (fun _ => ?_)
              refine lv_iload hx hb dX12_secret_106 (lv_at hl 1 rfl) ?_
              refine lv_aload_n hx hb dX12_secret_108 rfl (lv_at hl 2 rfl) ?_
              refine gm_get (D := D) (ci := 12) (v := .ref h57) (C := RX12) (T := TX12) (N := 83) hx hb hg inlX12 hown hK.1 hP 0 rfl rfl 53 (by decide) tX12_53 (hg _ gw_207) rfl dX12_secret_109 ?_
              refine lv_iload hx hb dX12_secret_112 (lv_at hl 0 rfl) ?_
              refine va_iald hx hb hK.1 hP 1 0 rfl rfl (by unfold vp_in; decide +kernel) dX12_secret_114 ?_
              refine g_fi (v := 2) (by rfl) ?_
              refine lv_if_le (tgt := 122) hx hb dX12_secret_115 (by decide) (fun c9 => absurd c9 (by decide +kernel)) (fun _ => ?_)
              refine lv_iconst (v := 1) hx hb dX12_secret_118 (by decide) ?_
              refine lv_goto (tgt := 123) hx hb dX12_secret_119 (by decide) ?_
              refine lv_iadd hx hb dX12_secret_123 ?_
              refine g_fi (v := 1) (by decide +kernel) ?_
              refine lv_istore (lv' := [(4, .int 1), (5, .int 1), (0, .ref h0), (1, .int 1), (2, .int p2), (3, .int 2)]) hx hb dX12_secret_124 hl (by decide) rfl ?_
              clear hl
              clear ls
              intro ls hl
              refine lv_iinc (v := 2) (lv' := [(5, .int 2), (4, .int 1), (0, .ref h0), (1, .int 1), (2, .int p2), (3, .int 2)]) hx hb dX12_secret_126 hl (k := 1) rfl (by decide +kernel) (by decide) rfl ?_
              clear hl
              clear ls
              intro ls hl
              refine lv_goto (tgt := 100) hx hb dX12_secret_129 (by decide) ?_
              refine lv_iload hx hb dX12_secret_100 (lv_at hl 0 rfl) ?_
              refine lv_iconst (v := 3) hx hb dX12_secret_102 (by decide) ?_
              refine lv_icmp_ge (tgt := 132) hx hb dX12_secret_103 (by decide) (fun c9 => absurd c9 (by decide +kernel)) (fun _ => ?_)
              refine lv_iload hx hb dX12_secret_106 (lv_at hl 1 rfl) ?_
              refine lv_aload_n hx hb dX12_secret_108 rfl (lv_at hl 2 rfl) ?_
              refine gm_get (D := D) (ci := 12) (v := .ref h57) (C := RX12) (T := TX12) (N := 83) hx hb hg inlX12 hown hK.1 hP 0 rfl rfl 53 (by decide) tX12_53 (hg _ gw_207) rfl dX12_secret_109 ?_
              refine lv_iload hx hb dX12_secret_112 (lv_at hl 0 rfl) ?_
              refine va_iald hx hb hK.1 hP 1 0 rfl rfl (by unfold vp_in; decide +kernel) dX12_secret_114 ?_
              refine g_fi (v := 0) (by rfl) ?_
              refine lv_if_le (tgt := 122) hx hb dX12_secret_115 (by decide) (fun _ => ?_) (fun c9 => absurd c9 (by decide +kernel))
              refine lv_iconst (v := 0) hx hb dX12_secret_122 (by decide) ?_
              refine lv_iadd hx hb dX12_secret_123 ?_
              refine g_fi (v := 1) (by decide +kernel) ?_
              refine lv_istore (lv' := [(4, .int 1), (5, .int 2), (0, .ref h0), (1, .int 1), (2, .int p2), (3, .int 2)]) hx hb dX12_secret_124 hl (by decide) rfl ?_
              clear hl
              clear ls
              intro ls hl
              refine lv_iinc (v := 3) (lv' := [(5, .int 3), (4, .int 1), (0, .ref h0), (1, .int 1), (2, .int p2), (3, .int 2)]) hx hb dX12_secret_126 hl (k := 1) rfl (by decide +kernel) (by decide) rfl ?_
              clear hl
              clear ls
              intro ls hl
              refine lv_goto (tgt := 100) hx hb dX12_secret_129 (by decide) ?_
              refine lv_iload hx hb dX12_secret_100 (lv_at hl 0 rfl) ?_
              refine lv_iconst (v := 3) hx hb dX12_secret_102 (by decide) ?_
              refine lv_icmp_ge (tgt := 132) hx hb dX12_secret_103 (by decide) (fun _ => ?_) (fun c9 => absurd c9 (by decide +kernel))
              refine lv_iload hx hb dX12_secret_132 (lv_at hl 1 rfl) ?_
              exact g_iret hx hb hr hlocks ⟨0, (upd (fun _ => 0) ((1 : Int32).toNatClampNeg) 2), fn22114⟩ hP hD hS rfl (Or.inr (Or.inr (Or.inr (Or.inr (Or.inr (Or.inr (Or.inl ⟨rfl, rfl, rfl, (by first | omega | (simp_all; done)), (by first | omega | (simp_all; done)), (by first | omega | (simp_all; done)), (by first | omega | (simp_all; done)), (by first | omega | (simp_all; done)), (by first | omega | (simp_all; done))⟩))))))) (Nat.le_of_ble_eq_true rfl) (Nat.le_of_ble_eq_true rfl) dX12_secret_134
            ·
              refine lv_aload_n hx hb dX12_secret_53 rfl (lv_at hl 0 rfl) ?_
              refine gm_get (D := D) (ci := 12) (v := .ref h57) (C := RX12) (T := TX12) (N := 83) hx hb hg inlX12 hown hK.1 hP 0 rfl rfl 53 (by decide) tX12_53 (hg _ gw_207) rfl dX12_secret_54 ?_
              refine lv_iload_n hx hb dX12_secret_57 rfl (lv_at hl 1 rfl) ?_
              refine lv_iload_n hx hb dX12_secret_58 rfl (lv_at hl 3 rfl) ?_
              refine va_iast hx hb hK.1 hP hD hS 1 0 rfl rfl (by unfold vp_in; decide +kernel) dX12_secret_59 ?_
              clear hP hD hS H locs
              refine fun H locs (hP : va_P D vwCl [(h0, .inr (12, (.ref h4 :: .int wp22065 :: .int wp22066 :: .ref h7 :: .ref h8 :: .ref h9 :: .ref h10 :: .ref h11 :: .ref h12 :: .ref h13 :: .ref h14 :: .ref h15 :: .int wp22067 :: .ref h17 :: .int wp22068 :: .ref h19 :: .int wp22069 :: .ref h21 :: .ref h22 :: .ref h23 :: .ref h24 :: .ref h25 :: .ref h26 :: .ref h27 :: .ref h28 :: .ref h29 :: .ref h30 :: .ref h31 :: .int wp22070 :: .ref h33 :: .ref h34 :: .ref h35 :: .int wp22071 :: [.ref h37, .ref h38, .ref h39, .ref h40, .ref h41, .ref h42, .ref h43, .ref h44, .ref h45, .ref h46, .ref h47, .ref h48, .ref h49, .ref h50, .ref h51, .int wp22072, .int wp22073, .int wp22074, .int wp22075, .int wp22076, .ref h57, .ref h58, .int wp22077, .ref h60, .int 0, .ref h61, .int wp22078, .ref h63, .ref h64, .int wp22079, .ref h66, .ref h67, .int wp22080, .ref h69, .ref h70, .ref h71, .ref h72, .int wp22081, .int wp22082, .int wp22083, .int wp22084, .ref h77, .ref h78, .ref h79, .ref h80, .ref h81, .ref h82, .ref h83, .ref h84, .ref h85]))), (h57, .inl (y 0, 3, .inl (upd (fun _ => 0) ((2 : Int32).toNatClampNeg) 2))), (h58, .inl (y 0, 18, .inl wf22085))] H) (hD : va_D A [(h0, .inr (12, (.ref h4 :: .int wp22065 :: .int wp22066 :: .ref h7 :: .ref h8 :: .ref h9 :: .ref h10 :: .ref h11 :: .ref h12 :: .ref h13 :: .ref h14 :: .ref h15 :: .int wp22067 :: .ref h17 :: .int wp22068 :: .ref h19 :: .int wp22069 :: .ref h21 :: .ref h22 :: .ref h23 :: .ref h24 :: .ref h25 :: .ref h26 :: .ref h27 :: .ref h28 :: .ref h29 :: .ref h30 :: .ref h31 :: .int wp22070 :: .ref h33 :: .ref h34 :: .ref h35 :: .int wp22071 :: [.ref h37, .ref h38, .ref h39, .ref h40, .ref h41, .ref h42, .ref h43, .ref h44, .ref h45, .ref h46, .ref h47, .ref h48, .ref h49, .ref h50, .ref h51, .int wp22072, .int wp22073, .int wp22074, .int wp22075, .int wp22076, .ref h57, .ref h58, .int wp22077, .ref h60, .int 0, .ref h61, .int wp22078, .ref h63, .ref h64, .int wp22079, .ref h66, .ref h67, .int wp22080, .ref h69, .ref h70, .ref h71, .ref h72, .int wp22081, .int wp22082, .int wp22083, .int wp22084, .ref h77, .ref h78, .ref h79, .ref h80, .ref h81, .ref h82, .ref h83, .ref h84, .ref h85]))), (h57, .inl (y 0, 3, .inl (upd (fun _ => 0) ((2 : Int32).toNatClampNeg) 2))), (h58, .inl (y 0, 18, .inl wf22085))]) hS => ?_
              refine lv_iconst (v := 0) hx hb dX12_secret_60 (by decide) ?_
              refine lv_istore (lv' := [(4, .int 0), (0, .ref h0), (1, .int 2), (2, .int p2), (3, .int 2)]) hx hb dX12_secret_61 hl (by decide) rfl ?_
              clear hl
              clear ls
              intro ls hl
              refine lv_iload hx hb dX12_secret_63 (lv_at hl 0 rfl) ?_
              refine lv_iload_n hx hb dX12_secret_65 rfl (lv_at hl 4 rfl) ?_
              refine lv_icmp_ge (tgt := 94) hx hb dX12_secret_66 (by decide) (fun c9 => absurd c9 (by decide +kernel)) (fun _ => ?_)
              refine lv_aload_n hx hb dX12_secret_69 rfl (lv_at hl 1 rfl) ?_
              refine gm_get (D := D) (ci := 12) (v := .ref h58) (C := RX12) (T := TX12) (N := 83) hx hb hg inlX12 hown hK.1 hP 0 rfl rfl 54 (by decide) tX12_54 (hg _ gw_208) rfl dX12_secret_70 ?_
              refine lv_bipush (v := 6) hx hb dX12_secret_73 (by decide +kernel) ?_
              refine lv_iload_n hx hb dX12_secret_75 rfl (lv_at hl 2 rfl) ?_
              refine lv_imul hx hb dX12_secret_76 ?_
              refine g_fi (v := 12) (by decide +kernel) ?_
              refine lv_iload hx hb dX12_secret_77 (lv_at hl 0 rfl) ?_
              refine lv_iadd hx hb dX12_secret_79 ?_
              refine g_fi (v := 12) (by decide +kernel) ?_
              refine lv_iload_n hx hb dX12_secret_80 rfl (lv_at hl 3 rfl) ?_
              refine lv_iload_n hx hb dX12_secret_81 rfl (lv_at hl 4 rfl) ?_
              refine lv_iload hx hb dX12_secret_82 (lv_at hl 0 rfl) ?_
              refine g_ai (wr := [(h0, .inr (12, (.ref h4 :: .int wp22065 :: .int wp22066 :: .ref h7 :: .ref h8 :: .ref h9 :: .ref h10 :: .ref h11 :: .ref h12 :: .ref h13 :: .ref h14 :: .ref h15 :: .int wp22067 :: .ref h17 :: .int wp22068 :: .ref h19 :: .int wp22069 :: .ref h21 :: .ref h22 :: .ref h23 :: .ref h24 :: .ref h25 :: .ref h26 :: .ref h27 :: .ref h28 :: .ref h29 :: .ref h30 :: .ref h31 :: .int wp22070 :: .ref h33 :: .ref h34 :: .ref h35 :: .int wp22071 :: [.ref h37, .ref h38, .ref h39, .ref h40, .ref h41, .ref h42, .ref h43, .ref h44, .ref h45, .ref h46, .ref h47, .ref h48, .ref h49, .ref h50, .ref h51, .int wp22072, .int wp22073, .int wp22074, .int wp22075, .int wp22076, .ref h57, .ref h58, .int wp22077, .ref h60, .int 0, .ref h61, .int wp22078, .ref h63, .ref h64, .int wp22079, .ref h66, .ref h67, .int wp22080, .ref h69, .ref h70, .ref h71, .ref h72, .int wp22081, .int wp22082, .int wp22083, .int wp22084, .ref h77, .ref h78, .ref h79, .ref h80, .ref h81, .ref h82, .ref h83, .ref h84, .ref h85]))), (h57, .inl (y 0, 3, .inl (upd (fun _ => 0) ((2 : Int32).toNatClampNeg) 2))), (h58, .inl (y 0, 18, .inl wf22085))]) (va_runS (As := [.int p2, .int 2, .int 0]) (rest := [.int 12, .ref h58]) ⟨hx, hb, hml, hown, hg⟩ (k_X12_digitOf_0 l D y aS H.size p2) (va_cwS 3 hg ggS_RX12_484_X12_digitOf rfl rfl rfl (by decide +kernel) ⟨Nat.le_of_ble_eq_true rfl, Nat.le_of_ble_eq_true rfl⟩) (g_preS hK hP hD [] rfl (by decide)) rfl rfl hl.1 rfl (lv_room (Nat.le_of_ble_eq_true rfl)) dX12_secret_84 ⟨Nat.le_of_ble_eq_true rfl, Nat.le_of_ble_eq_true rfl⟩) hP hD hS hA [] [0, 1, 2] rfl rfl (by decide) (by decide) ?_
              clear hP hD hS H locs
              refine fun r22115 u H locs hq hP hD hS => ?_
              subst hq
              replace hP : va_P D vwCl [(h0, .inr (12, (.ref h4 :: .int wp22065 :: .int wp22066 :: .ref h7 :: .ref h8 :: .ref h9 :: .ref h10 :: .ref h11 :: .ref h12 :: .ref h13 :: .ref h14 :: .ref h15 :: .int wp22067 :: .ref h17 :: .int wp22068 :: .ref h19 :: .int wp22069 :: .ref h21 :: .ref h22 :: .ref h23 :: .ref h24 :: .ref h25 :: .ref h26 :: .ref h27 :: .ref h28 :: .ref h29 :: .ref h30 :: .ref h31 :: .int wp22070 :: .ref h33 :: .ref h34 :: .ref h35 :: .int wp22071 :: [.ref h37, .ref h38, .ref h39, .ref h40, .ref h41, .ref h42, .ref h43, .ref h44, .ref h45, .ref h46, .ref h47, .ref h48, .ref h49, .ref h50, .ref h51, .int wp22072, .int wp22073, .int wp22074, .int wp22075, .int wp22076, .ref h57, .ref h58, .int wp22077, .ref h60, .int 0, .ref h61, .int wp22078, .ref h63, .ref h64, .int wp22079, .ref h66, .ref h67, .int wp22080, .ref h69, .ref h70, .ref h71, .ref h72, .int wp22081, .int wp22082, .int wp22083, .int wp22084, .ref h77, .ref h78, .ref h79, .ref h80, .ref h81, .ref h82, .ref h83, .ref h84, .ref h85]))), (h57, .inl (y 0, 3, .inl (upd (fun _ => 0) ((2 : Int32).toNatClampNeg) 2))), (h58, .inl (y 0, 18, .inl wf22085))] H := hP
              replace hD : va_D A [(h0, .inr (12, (.ref h4 :: .int wp22065 :: .int wp22066 :: .ref h7 :: .ref h8 :: .ref h9 :: .ref h10 :: .ref h11 :: .ref h12 :: .ref h13 :: .ref h14 :: .ref h15 :: .int wp22067 :: .ref h17 :: .int wp22068 :: .ref h19 :: .int wp22069 :: .ref h21 :: .ref h22 :: .ref h23 :: .ref h24 :: .ref h25 :: .ref h26 :: .ref h27 :: .ref h28 :: .ref h29 :: .ref h30 :: .ref h31 :: .int wp22070 :: .ref h33 :: .ref h34 :: .ref h35 :: .int wp22071 :: [.ref h37, .ref h38, .ref h39, .ref h40, .ref h41, .ref h42, .ref h43, .ref h44, .ref h45, .ref h46, .ref h47, .ref h48, .ref h49, .ref h50, .ref h51, .int wp22072, .int wp22073, .int wp22074, .int wp22075, .int wp22076, .ref h57, .ref h58, .int wp22077, .ref h60, .int 0, .ref h61, .int wp22078, .ref h63, .ref h64, .int wp22079, .ref h66, .ref h67, .int wp22080, .ref h69, .ref h70, .ref h71, .ref h72, .int wp22081, .int wp22082, .int wp22083, .int wp22084, .ref h77, .ref h78, .ref h79, .ref h80, .ref h81, .ref h82, .ref h83, .ref h84, .ref h85]))), (h57, .inl (y 0, 3, .inl (upd (fun _ => 0) ((2 : Int32).toNatClampNeg) 2))), (h58, .inl (y 0, 18, .inl wf22085))] := hD
              refine va_iast hx hb hK.1 hP hD hS 2 0 rfl rfl (by unfold vp_in; decide +kernel) dX12_secret_87 ?_
              clear hP hD hS H locs
              refine fun H locs (hP : va_P D vwCl [(h0, .inr (12, (.ref h4 :: .int wp22065 :: .int wp22066 :: .ref h7 :: .ref h8 :: .ref h9 :: .ref h10 :: .ref h11 :: .ref h12 :: .ref h13 :: .ref h14 :: .ref h15 :: .int wp22067 :: .ref h17 :: .int wp22068 :: .ref h19 :: .int wp22069 :: .ref h21 :: .ref h22 :: .ref h23 :: .ref h24 :: .ref h25 :: .ref h26 :: .ref h27 :: .ref h28 :: .ref h29 :: .ref h30 :: .ref h31 :: .int wp22070 :: .ref h33 :: .ref h34 :: .ref h35 :: .int wp22071 :: [.ref h37, .ref h38, .ref h39, .ref h40, .ref h41, .ref h42, .ref h43, .ref h44, .ref h45, .ref h46, .ref h47, .ref h48, .ref h49, .ref h50, .ref h51, .int wp22072, .int wp22073, .int wp22074, .int wp22075, .int wp22076, .ref h57, .ref h58, .int wp22077, .ref h60, .int 0, .ref h61, .int wp22078, .ref h63, .ref h64, .int wp22079, .ref h66, .ref h67, .int wp22080, .ref h69, .ref h70, .ref h71, .ref h72, .int wp22081, .int wp22082, .int wp22083, .int wp22084, .ref h77, .ref h78, .ref h79, .ref h80, .ref h81, .ref h82, .ref h83, .ref h84, .ref h85]))), (h57, .inl (y 0, 3, .inl (upd (fun _ => 0) ((2 : Int32).toNatClampNeg) 2))), (h58, .inl (y 0, 18, .inl (upd wf22085 ((12 : Int32).toNatClampNeg) ((p2 / 10) - (p2 / 10) / 10 * 10))))] H) (hD : va_D A [(h0, .inr (12, (.ref h4 :: .int wp22065 :: .int wp22066 :: .ref h7 :: .ref h8 :: .ref h9 :: .ref h10 :: .ref h11 :: .ref h12 :: .ref h13 :: .ref h14 :: .ref h15 :: .int wp22067 :: .ref h17 :: .int wp22068 :: .ref h19 :: .int wp22069 :: .ref h21 :: .ref h22 :: .ref h23 :: .ref h24 :: .ref h25 :: .ref h26 :: .ref h27 :: .ref h28 :: .ref h29 :: .ref h30 :: .ref h31 :: .int wp22070 :: .ref h33 :: .ref h34 :: .ref h35 :: .int wp22071 :: [.ref h37, .ref h38, .ref h39, .ref h40, .ref h41, .ref h42, .ref h43, .ref h44, .ref h45, .ref h46, .ref h47, .ref h48, .ref h49, .ref h50, .ref h51, .int wp22072, .int wp22073, .int wp22074, .int wp22075, .int wp22076, .ref h57, .ref h58, .int wp22077, .ref h60, .int 0, .ref h61, .int wp22078, .ref h63, .ref h64, .int wp22079, .ref h66, .ref h67, .int wp22080, .ref h69, .ref h70, .ref h71, .ref h72, .int wp22081, .int wp22082, .int wp22083, .int wp22084, .ref h77, .ref h78, .ref h79, .ref h80, .ref h81, .ref h82, .ref h83, .ref h84, .ref h85]))), (h57, .inl (y 0, 3, .inl (upd (fun _ => 0) ((2 : Int32).toNatClampNeg) 2))), (h58, .inl (y 0, 18, .inl (upd wf22085 ((12 : Int32).toNatClampNeg) ((p2 / 10) - (p2 / 10) / 10 * 10))))]) hS => ?_
              obtain ⟨fn22116, hfn22116⟩ : ∃ f9 : Nat → Int32, f9 = (upd wf22085 ((12 : Int32).toNatClampNeg) ((p2 / 10) - (p2 / 10) / 10 * 10)) := ⟨_, rfl⟩
              rw [← hfn22116] at hP hD
              clear hfn22116
              refine lv_iinc (v := 1) (lv' := [(4, .int 1), (0, .ref h0), (1, .int 2), (2, .int p2), (3, .int 2)]) hx hb dX12_secret_88 hl (k := 0) rfl (by decide +kernel) (by decide) rfl ?_
              clear hl
              clear ls
              intro ls hl
              refine lv_goto (tgt := 63) hx hb dX12_secret_91 (by decide) ?_
              refine lv_iload hx hb dX12_secret_63 (lv_at hl 0 rfl) ?_
              refine lv_iload_n hx hb dX12_secret_65 rfl (lv_at hl 4 rfl) ?_
              refine lv_icmp_ge (tgt := 94) hx hb dX12_secret_66 (by decide) (fun c9 => absurd c9 (by decide +kernel)) (fun _ => ?_)
              refine lv_aload_n hx hb dX12_secret_69 rfl (lv_at hl 1 rfl) ?_
              refine gm_get (D := D) (ci := 12) (v := .ref h58) (C := RX12) (T := TX12) (N := 83) hx hb hg inlX12 hown hK.1 hP 0 rfl rfl 54 (by decide) tX12_54 (hg _ gw_208) rfl dX12_secret_70 ?_
              refine lv_bipush (v := 6) hx hb dX12_secret_73 (by decide +kernel) ?_
              refine lv_iload_n hx hb dX12_secret_75 rfl (lv_at hl 2 rfl) ?_
              refine lv_imul hx hb dX12_secret_76 ?_
              refine g_fi (v := 12) (by decide +kernel) ?_
              refine lv_iload hx hb dX12_secret_77 (lv_at hl 0 rfl) ?_
              refine lv_iadd hx hb dX12_secret_79 ?_
              refine g_fi (v := 13) (by decide +kernel) ?_
              refine lv_iload_n hx hb dX12_secret_80 rfl (lv_at hl 3 rfl) ?_
              refine lv_iload_n hx hb dX12_secret_81 rfl (lv_at hl 4 rfl) ?_
              refine lv_iload hx hb dX12_secret_82 (lv_at hl 0 rfl) ?_
              refine g_ai (wr := [(h0, .inr (12, (.ref h4 :: .int wp22065 :: .int wp22066 :: .ref h7 :: .ref h8 :: .ref h9 :: .ref h10 :: .ref h11 :: .ref h12 :: .ref h13 :: .ref h14 :: .ref h15 :: .int wp22067 :: .ref h17 :: .int wp22068 :: .ref h19 :: .int wp22069 :: .ref h21 :: .ref h22 :: .ref h23 :: .ref h24 :: .ref h25 :: .ref h26 :: .ref h27 :: .ref h28 :: .ref h29 :: .ref h30 :: .ref h31 :: .int wp22070 :: .ref h33 :: .ref h34 :: .ref h35 :: .int wp22071 :: [.ref h37, .ref h38, .ref h39, .ref h40, .ref h41, .ref h42, .ref h43, .ref h44, .ref h45, .ref h46, .ref h47, .ref h48, .ref h49, .ref h50, .ref h51, .int wp22072, .int wp22073, .int wp22074, .int wp22075, .int wp22076, .ref h57, .ref h58, .int wp22077, .ref h60, .int 0, .ref h61, .int wp22078, .ref h63, .ref h64, .int wp22079, .ref h66, .ref h67, .int wp22080, .ref h69, .ref h70, .ref h71, .ref h72, .int wp22081, .int wp22082, .int wp22083, .int wp22084, .ref h77, .ref h78, .ref h79, .ref h80, .ref h81, .ref h82, .ref h83, .ref h84, .ref h85]))), (h57, .inl (y 0, 3, .inl (upd (fun _ => 0) ((2 : Int32).toNatClampNeg) 2))), (h58, .inl (y 0, 18, .inl fn22116))]) (va_runS (As := [.int p2, .int 2, .int 1]) (rest := [.int 13, .ref h58]) ⟨hx, hb, hml, hown, hg⟩ (k_X12_digitOf_1 l D y aS H.size p2) (va_cwS 3 hg ggS_RX12_484_X12_digitOf rfl rfl rfl (by decide +kernel) ⟨Nat.le_of_ble_eq_true rfl, Nat.le_of_ble_eq_true rfl⟩) (g_preS hK hP hD [] rfl (by decide)) rfl rfl hl.1 rfl (lv_room (Nat.le_of_ble_eq_true rfl)) dX12_secret_84 ⟨Nat.le_of_ble_eq_true rfl, Nat.le_of_ble_eq_true rfl⟩) hP hD hS hA [] [0, 1, 2] rfl rfl (by decide) (by decide) ?_
              clear hP hD hS H locs
              refine fun r22117 u H locs hq hP hD hS => ?_
              subst hq
              replace hP : va_P D vwCl [(h0, .inr (12, (.ref h4 :: .int wp22065 :: .int wp22066 :: .ref h7 :: .ref h8 :: .ref h9 :: .ref h10 :: .ref h11 :: .ref h12 :: .ref h13 :: .ref h14 :: .ref h15 :: .int wp22067 :: .ref h17 :: .int wp22068 :: .ref h19 :: .int wp22069 :: .ref h21 :: .ref h22 :: .ref h23 :: .ref h24 :: .ref h25 :: .ref h26 :: .ref h27 :: .ref h28 :: .ref h29 :: .ref h30 :: .ref h31 :: .int wp22070 :: .ref h33 :: .ref h34 :: .ref h35 :: .int wp22071 :: [.ref h37, .ref h38, .ref h39, .ref h40, .ref h41, .ref h42, .ref h43, .ref h44, .ref h45, .ref h46, .ref h47, .ref h48, .ref h49, .ref h50, .ref h51, .int wp22072, .int wp22073, .int wp22074, .int wp22075, .int wp22076, .ref h57, .ref h58, .int wp22077, .ref h60, .int 0, .ref h61, .int wp22078, .ref h63, .ref h64, .int wp22079, .ref h66, .ref h67, .int wp22080, .ref h69, .ref h70, .ref h71, .ref h72, .int wp22081, .int wp22082, .int wp22083, .int wp22084, .ref h77, .ref h78, .ref h79, .ref h80, .ref h81, .ref h82, .ref h83, .ref h84, .ref h85]))), (h57, .inl (y 0, 3, .inl (upd (fun _ => 0) ((2 : Int32).toNatClampNeg) 2))), (h58, .inl (y 0, 18, .inl fn22116))] H := hP
              replace hD : va_D A [(h0, .inr (12, (.ref h4 :: .int wp22065 :: .int wp22066 :: .ref h7 :: .ref h8 :: .ref h9 :: .ref h10 :: .ref h11 :: .ref h12 :: .ref h13 :: .ref h14 :: .ref h15 :: .int wp22067 :: .ref h17 :: .int wp22068 :: .ref h19 :: .int wp22069 :: .ref h21 :: .ref h22 :: .ref h23 :: .ref h24 :: .ref h25 :: .ref h26 :: .ref h27 :: .ref h28 :: .ref h29 :: .ref h30 :: .ref h31 :: .int wp22070 :: .ref h33 :: .ref h34 :: .ref h35 :: .int wp22071 :: [.ref h37, .ref h38, .ref h39, .ref h40, .ref h41, .ref h42, .ref h43, .ref h44, .ref h45, .ref h46, .ref h47, .ref h48, .ref h49, .ref h50, .ref h51, .int wp22072, .int wp22073, .int wp22074, .int wp22075, .int wp22076, .ref h57, .ref h58, .int wp22077, .ref h60, .int 0, .ref h61, .int wp22078, .ref h63, .ref h64, .int wp22079, .ref h66, .ref h67, .int wp22080, .ref h69, .ref h70, .ref h71, .ref h72, .int wp22081, .int wp22082, .int wp22083, .int wp22084, .ref h77, .ref h78, .ref h79, .ref h80, .ref h81, .ref h82, .ref h83, .ref h84, .ref h85]))), (h57, .inl (y 0, 3, .inl (upd (fun _ => 0) ((2 : Int32).toNatClampNeg) 2))), (h58, .inl (y 0, 18, .inl fn22116))] := hD
              refine va_iast hx hb hK.1 hP hD hS 2 0 rfl rfl (by unfold vp_in; decide +kernel) dX12_secret_87 ?_
              clear hP hD hS H locs
              refine fun H locs (hP : va_P D vwCl [(h0, .inr (12, (.ref h4 :: .int wp22065 :: .int wp22066 :: .ref h7 :: .ref h8 :: .ref h9 :: .ref h10 :: .ref h11 :: .ref h12 :: .ref h13 :: .ref h14 :: .ref h15 :: .int wp22067 :: .ref h17 :: .int wp22068 :: .ref h19 :: .int wp22069 :: .ref h21 :: .ref h22 :: .ref h23 :: .ref h24 :: .ref h25 :: .ref h26 :: .ref h27 :: .ref h28 :: .ref h29 :: .ref h30 :: .ref h31 :: .int wp22070 :: .ref h33 :: .ref h34 :: .ref h35 :: .int wp22071 :: [.ref h37, .ref h38, .ref h39, .ref h40, .ref h41, .ref h42, .ref h43, .ref h44, .ref h45, .ref h46, .ref h47, .ref h48, .ref h49, .ref h50, .ref h51, .int wp22072, .int wp22073, .int wp22074, .int wp22075, .int wp22076, .ref h57, .ref h58, .int wp22077, .ref h60, .int 0, .ref h61, .int wp22078, .ref h63, .ref h64, .int wp22079, .ref h66, .ref h67, .int wp22080, .ref h69, .ref h70, .ref h71, .ref h72, .int wp22081, .int wp22082, .int wp22083, .int wp22084, .ref h77, .ref h78, .ref h79, .ref h80, .ref h81, .ref h82, .ref h83, .ref h84, .ref h85]))), (h57, .inl (y 0, 3, .inl (upd (fun _ => 0) ((2 : Int32).toNatClampNeg) 2))), (h58, .inl (y 0, 18, .inl (upd fn22116 ((13 : Int32).toNatClampNeg) ((p2 / 1) - (p2 / 1) / 10 * 10))))] H) (hD : va_D A [(h0, .inr (12, (.ref h4 :: .int wp22065 :: .int wp22066 :: .ref h7 :: .ref h8 :: .ref h9 :: .ref h10 :: .ref h11 :: .ref h12 :: .ref h13 :: .ref h14 :: .ref h15 :: .int wp22067 :: .ref h17 :: .int wp22068 :: .ref h19 :: .int wp22069 :: .ref h21 :: .ref h22 :: .ref h23 :: .ref h24 :: .ref h25 :: .ref h26 :: .ref h27 :: .ref h28 :: .ref h29 :: .ref h30 :: .ref h31 :: .int wp22070 :: .ref h33 :: .ref h34 :: .ref h35 :: .int wp22071 :: [.ref h37, .ref h38, .ref h39, .ref h40, .ref h41, .ref h42, .ref h43, .ref h44, .ref h45, .ref h46, .ref h47, .ref h48, .ref h49, .ref h50, .ref h51, .int wp22072, .int wp22073, .int wp22074, .int wp22075, .int wp22076, .ref h57, .ref h58, .int wp22077, .ref h60, .int 0, .ref h61, .int wp22078, .ref h63, .ref h64, .int wp22079, .ref h66, .ref h67, .int wp22080, .ref h69, .ref h70, .ref h71, .ref h72, .int wp22081, .int wp22082, .int wp22083, .int wp22084, .ref h77, .ref h78, .ref h79, .ref h80, .ref h81, .ref h82, .ref h83, .ref h84, .ref h85]))), (h57, .inl (y 0, 3, .inl (upd (fun _ => 0) ((2 : Int32).toNatClampNeg) 2))), (h58, .inl (y 0, 18, .inl (upd fn22116 ((13 : Int32).toNatClampNeg) ((p2 / 1) - (p2 / 1) / 10 * 10))))]) hS => ?_
              obtain ⟨fn22118, hfn22118⟩ : ∃ f9 : Nat → Int32, f9 = (upd fn22116 ((13 : Int32).toNatClampNeg) ((p2 / 1) - (p2 / 1) / 10 * 10)) := ⟨_, rfl⟩
              rw [← hfn22118] at hP hD
              clear hfn22118
              refine lv_iinc (v := 2) (lv' := [(4, .int 2), (0, .ref h0), (1, .int 2), (2, .int p2), (3, .int 2)]) hx hb dX12_secret_88 hl (k := 0) rfl (by decide +kernel) (by decide) rfl ?_
              clear hl
              clear ls
              intro ls hl
              refine lv_goto (tgt := 63) hx hb dX12_secret_91 (by decide) ?_
              refine lv_iload hx hb dX12_secret_63 (lv_at hl 0 rfl) ?_
              refine lv_iload_n hx hb dX12_secret_65 rfl (lv_at hl 4 rfl) ?_
              refine lv_icmp_ge (tgt := 94) hx hb dX12_secret_66 (by decide) (fun _ => ?_) (fun c9 => absurd c9 (by decide +kernel))
              refine lv_iconst (v := 0) hx hb dX12_secret_94 (by decide) ?_
              refine lv_istore (lv' := [(4, .int 0), (0, .ref h0), (1, .int 2), (2, .int p2), (3, .int 2)]) hx hb dX12_secret_95 hl (by decide) rfl ?_
              clear hl
              clear ls
              intro ls hl
              refine lv_iconst (v := 0) hx hb dX12_secret_97 (by decide) ?_
              refine lv_istore (lv' := [(5, .int 0), (4, .int 0), (0, .ref h0), (1, .int 2), (2, .int p2), (3, .int 2)]) hx hb dX12_secret_98 hl (by decide) rfl ?_
              clear hl
              clear ls
              intro ls hl
              refine lv_iload hx hb dX12_secret_100 (lv_at hl 0 rfl) ?_
              refine lv_iconst (v := 3) hx hb dX12_secret_102 (by decide) ?_
              refine lv_icmp_ge (tgt := 132) hx hb dX12_secret_103 (by decide) (fun c9 => absurd c9 (by decide +kernel)) (fun _ => ?_)
              refine lv_iload hx hb dX12_secret_106 (lv_at hl 1 rfl) ?_
              refine lv_aload_n hx hb dX12_secret_108 rfl (lv_at hl 2 rfl) ?_
              refine gm_get (D := D) (ci := 12) (v := .ref h57) (C := RX12) (T := TX12) (N := 83) hx hb hg inlX12 hown hK.1 hP 0 rfl rfl 53 (by decide) tX12_53 (hg _ gw_207) rfl dX12_secret_109 ?_
              refine lv_iload hx hb dX12_secret_112 (lv_at hl 0 rfl) ?_
              refine va_iald hx hb hK.1 hP 1 0 rfl rfl (by unfold vp_in; decide +kernel) dX12_secret_114 ?_
              refine g_fi (v := 0) (by rfl) ?_
              refine lv_if_le (tgt := 122) hx hb dX12_secret_115 (by decide) (fun _ => ?_) (fun c9 => absurd c9 (by decide +kernel))
              refine lv_iconst (v := 0) hx hb dX12_secret_122 (by decide) ?_
              refine lv_iadd hx hb dX12_secret_123 ?_
              refine g_fi (v := 0) (by decide +kernel) ?_
              refine lv_istore (lv' := [(4, .int 0), (5, .int 0), (0, .ref h0), (1, .int 2), (2, .int p2), (3, .int 2)]) hx hb dX12_secret_124 hl (by decide) rfl ?_
              clear hl
              clear ls
              intro ls hl
              refine lv_iinc (v := 1) (lv' := [(5, .int 1), (4, .int 0), (0, .ref h0), (1, .int 2), (2, .int p2), (3, .int 2)]) hx hb dX12_secret_126 hl (k := 1) rfl (by decide +kernel) (by decide) rfl ?_
              clear hl
              clear ls
              intro ls hl
              refine lv_goto (tgt := 100) hx hb dX12_secret_129 (by decide) ?_
              refine lv_iload hx hb dX12_secret_100 (lv_at hl 0 rfl) ?_
              refine lv_iconst (v := 3) hx hb dX12_secret_102 (by decide) ?_
              refine lv_icmp_ge (tgt := 132) hx hb dX12_secret_103 (by decide) (fun c9 => absurd c9 (by decide +kernel)) (fun _ => ?_)
              refine lv_iload hx hb dX12_secret_106 (lv_at hl 1 rfl) ?_
              refine lv_aload_n hx hb dX12_secret_108 rfl (lv_at hl 2 rfl) ?_
              refine gm_get (D := D) (ci := 12) (v := .ref h57) (C := RX12) (T := TX12) (N := 83) hx hb hg inlX12 hown hK.1 hP 0 rfl rfl 53 (by decide) tX12_53 (hg _ gw_207) rfl dX12_secret_109 ?_
              refine lv_iload hx hb dX12_secret_112 (lv_at hl 0 rfl) ?_
              refine va_iald hx hb hK.1 hP 1 0 rfl rfl (by unfold vp_in; decide +kernel) dX12_secret_114 ?_
              refine g_fi (v := 0) (by rfl) ?_
              refine lv_if_le (tgt := 122) hx hb dX12_secret_115 (by decide) (fun _ => ?_) (fun c9 => absurd c9 (by decide +kernel))
              refine lv_iconst (v := 0) hx hb dX12_secret_122 (by decide) ?_
              refine lv_iadd hx hb dX12_secret_123 ?_
              refine g_fi (v := 0) (by decide +kernel) ?_
              refine lv_istore (lv' := [(4, .int 0), (5, .int 1), (0, .ref h0), (1, .int 2), (2, .int p2), (3, .int 2)]) hx hb dX12_secret_124 hl (by decide) rfl ?_
              clear hl
              clear ls
              intro ls hl
              refine lv_iinc (v := 2) (lv' := [(5, .int 2), (4, .int 0), (0, .ref h0), (1, .int 2), (2, .int p2), (3, .int 2)]) hx hb dX12_secret_126 hl (k := 1) rfl (by decide +kernel) (by decide) rfl ?_
              clear hl
              clear ls
              intro ls hl
              refine lv_goto (tgt := 100) hx hb dX12_secret_129 (by decide) ?_
              refine lv_iload hx hb dX12_secret_100 (lv_at hl 0 rfl) ?_
              refine lv_iconst (v := 3) hx hb dX12_secret_102 (by decide) ?_
              refine lv_icmp_ge (tgt := 132) hx hb dX12_secret_103 (by decide) (fun c9 => absurd c9 (by decide +kernel)) (fun _ => ?_)
              refine lv_iload hx hb dX12_secret_106 (lv_at hl 1 rfl) ?_
              refine lv_aload_n hx hb dX12_secret_108 rfl (lv_at hl 2 rfl) ?_
              refine gm_get (D := D) (ci := 12) (v := .ref h57) (C := RX12) (T := TX12) (N := 83) hx hb hg inlX12 hown hK.1 hP 0 rfl rfl 53 (by decide) tX12_53 (hg _ gw_207) rfl dX12_secret_109 ?_
              refine lv_iload hx hb dX12_secret_112 (lv_at hl 0 rfl) ?_
              refine va_iald hx hb hK.1 hP 1 0 rfl rfl (by unfold vp_in; decide +kernel) dX12_secret_114 ?_
              refine g_fi (v := 2) (by rfl) ?_
              refine lv_if_le (tgt := 122) hx hb dX12_secret_115 (by decide) (fun c9 => absurd c9 (by decide +kernel)) (fun _ => ?_)
              refine lv_iconst (v := 1) hx hb dX12_secret_118 (by decide) ?_
              refine lv_goto (tgt := 123) hx hb dX12_secret_119 (by decide) ?_
              refine lv_iadd hx hb dX12_secret_123 ?_
              refine g_fi (v := 1) (by decide +kernel) ?_
              refine lv_istore (lv' := [(4, .int 1), (5, .int 2), (0, .ref h0), (1, .int 2), (2, .int p2), (3, .int 2)]) hx hb dX12_secret_124 hl (by decide) rfl ?_
              clear hl
              clear ls
              intro ls hl
              refine lv_iinc (v := 3) (lv' := [(5, .int 3), (4, .int 1), (0, .ref h0), (1, .int 2), (2, .int p2), (3, .int 2)]) hx hb dX12_secret_126 hl (k := 1) rfl (by decide +kernel) (by decide) rfl ?_
              clear hl
              clear ls
              intro ls hl
              refine lv_goto (tgt := 100) hx hb dX12_secret_129 (by decide) ?_
              refine lv_iload hx hb dX12_secret_100 (lv_at hl 0 rfl) ?_
              refine lv_iconst (v := 3) hx hb dX12_secret_102 (by decide) ?_
              refine lv_icmp_ge (tgt := 132) hx hb dX12_secret_103 (by decide) (fun _ => ?_) (fun c9 => absurd c9 (by decide +kernel))
              refine lv_iload hx hb dX12_secret_132 (lv_at hl 1 rfl) ?_
              exact g_iret hx hb hr hlocks ⟨0, (upd (fun _ => 0) ((2 : Int32).toNatClampNeg) 2), fn22118⟩ hP hD hS rfl (Or.inr (Or.inr (Or.inr (Or.inr (Or.inr (Or.inr (Or.inr (Or.inl ⟨rfl, rfl, rfl, (by first | omega | (simp_all; done)), (by first | omega | (simp_all; done)), (by first | omega | (simp_all; done)), (by first | omega | (simp_all; done)), (by first | omega | (simp_all; done)), (by first | omega | (simp_all; done))⟩)))))))) (Nat.le_of_ble_eq_true rfl) (Nat.le_of_ble_eq_true rfl) dX12_secret_134
          · have z22106 := g_ltf z22106; rw [g_l100] at z22106
            refine lv_iconst (v := 2) hx hb dX12_secret_36 (by decide) ?_
            refine lv_goto (tgt := 41) hx hb dX12_secret_37 (by decide) ?_
            refine gm_put (D := D) (ci := 12) (v := .int 2) (ty := .int) (C := RX12) (T := TX12) (N := 83) hx hb hg inlX12 tyX12 tyX12_ok nmX12 hown hK.1 hP hD hS 0 rfl rfl 57 (by decide) tX12_57 (hg _ gw_276) (by decide +kernel) rfl rfl (Nat.le_of_ble_eq_true rfl) dX12_secret_41 ?_
            clear hP hD hS H locs
            refine fun H locs (hP : va_P D vwCl [(h0, .inr (12, (.ref h4 :: .int wp22065 :: .int wp22066 :: .ref h7 :: .ref h8 :: .ref h9 :: .ref h10 :: .ref h11 :: .ref h12 :: .ref h13 :: .ref h14 :: .ref h15 :: .int wp22067 :: .ref h17 :: .int wp22068 :: .ref h19 :: .int wp22069 :: .ref h21 :: .ref h22 :: .ref h23 :: .ref h24 :: .ref h25 :: .ref h26 :: .ref h27 :: .ref h28 :: .ref h29 :: .ref h30 :: .ref h31 :: .int wp22070 :: .ref h33 :: .ref h34 :: .ref h35 :: .int wp22071 :: [.ref h37, .ref h38, .ref h39, .ref h40, .ref h41, .ref h42, .ref h43, .ref h44, .ref h45, .ref h46, .ref h47, .ref h48, .ref h49, .ref h50, .ref h51, .int wp22072, .int wp22073, .int wp22074, .int wp22075, .int wp22076, .ref h57, .ref h58, .int wp22077, .ref h60, .int 2, .ref h61, .int wp22078, .ref h63, .ref h64, .int wp22079, .ref h66, .ref h67, .int wp22080, .ref h69, .ref h70, .ref h71, .ref h72, .int wp22081, .int wp22082, .int wp22083, .int wp22084, .ref h77, .ref h78, .ref h79, .ref h80, .ref h81, .ref h82, .ref h83, .ref h84, .ref h85]))), (h57, .inl (y 0, 3, .inl (fun _ => 0))), (h58, .inl (y 0, 18, .inl wf22085))] H) (hD : va_D A [(h0, .inr (12, (.ref h4 :: .int wp22065 :: .int wp22066 :: .ref h7 :: .ref h8 :: .ref h9 :: .ref h10 :: .ref h11 :: .ref h12 :: .ref h13 :: .ref h14 :: .ref h15 :: .int wp22067 :: .ref h17 :: .int wp22068 :: .ref h19 :: .int wp22069 :: .ref h21 :: .ref h22 :: .ref h23 :: .ref h24 :: .ref h25 :: .ref h26 :: .ref h27 :: .ref h28 :: .ref h29 :: .ref h30 :: .ref h31 :: .int wp22070 :: .ref h33 :: .ref h34 :: .ref h35 :: .int wp22071 :: [.ref h37, .ref h38, .ref h39, .ref h40, .ref h41, .ref h42, .ref h43, .ref h44, .ref h45, .ref h46, .ref h47, .ref h48, .ref h49, .ref h50, .ref h51, .int wp22072, .int wp22073, .int wp22074, .int wp22075, .int wp22076, .ref h57, .ref h58, .int wp22077, .ref h60, .int 2, .ref h61, .int wp22078, .ref h63, .ref h64, .int wp22079, .ref h66, .ref h67, .int wp22080, .ref h69, .ref h70, .ref h71, .ref h72, .int wp22081, .int wp22082, .int wp22083, .int wp22084, .ref h77, .ref h78, .ref h79, .ref h80, .ref h81, .ref h82, .ref h83, .ref h84, .ref h85]))), (h57, .inl (y 0, 3, .inl (fun _ => 0))), (h58, .inl (y 0, 18, .inl wf22085))]) hS => ?_
            refine lv_aload_n hx hb dX12_secret_44 rfl (lv_at hl 0 rfl) ?_
            refine gm_get (D := D) (ci := 12) (v := .int 2) (C := RX12) (T := TX12) (N := 83) hx hb hg inlX12 hown hK.1 hP 0 rfl rfl 57 (by decide) tX12_57 (hg _ gw_276) rfl dX12_secret_45 ?_
            refine lv_if_le (tgt := 53) hx hb dX12_secret_48 (by decide) (fun c9 => absurd c9 (by decide +kernel)) (fun _ => ?_)
            refine lv_iconst (v := 0) hx hb dX12_secret_51 (by decide) ?_
            exact g_iret hx hb hr hlocks ⟨2, (fun _ => 0), wf22085⟩ hP hD hS rfl (Or.inr (Or.inr (Or.inr (Or.inr (Or.inr (Or.inr (Or.inr (Or.inr (Or.inl ⟨rfl, rfl, rfl, rfl, (by first | omega | (simp_all; done)), (by first | omega | (simp_all; done)), (by first | omega | (simp_all; done)), (by first | omega | (simp_all; done)), (by first | omega | (simp_all; done))⟩))))))))) (Nat.le_of_ble_eq_true rfl) (Nat.le_of_ble_eq_true rfl) dX12_secret_52
        ·
          obtain rfl : p3 = 3 := Int32.toInt_inj.mp (by rw [g_l3]; omega)
          replace hP : va_P D vwCl [(h0, .inr (12, (.ref h4 :: .int wp22065 :: .int wp22066 :: .ref h7 :: .ref h8 :: .ref h9 :: .ref h10 :: .ref h11 :: .ref h12 :: .ref h13 :: .ref h14 :: .ref h15 :: .int wp22067 :: .ref h17 :: .int wp22068 :: .ref h19 :: .int wp22069 :: .ref h21 :: .ref h22 :: .ref h23 :: .ref h24 :: .ref h25 :: .ref h26 :: .ref h27 :: .ref h28 :: .ref h29 :: .ref h30 :: .ref h31 :: .int wp22070 :: .ref h33 :: .ref h34 :: .ref h35 :: .int wp22071 :: [.ref h37, .ref h38, .ref h39, .ref h40, .ref h41, .ref h42, .ref h43, .ref h44, .ref h45, .ref h46, .ref h47, .ref h48, .ref h49, .ref h50, .ref h51, .int wp22072, .int wp22073, .int wp22074, .int wp22075, .int wp22076, .ref h57, .ref h58, .int wp22077, .ref h60, .int 0, .ref h61, .int wp22078, .ref h63, .ref h64, .int wp22079, .ref h66, .ref h67, .int wp22080, .ref h69, .ref h70, .ref h71, .ref h72, .int wp22081, .int wp22082, .int wp22083, .int wp22084, .ref h77, .ref h78, .ref h79, .ref h80, .ref h81, .ref h82, .ref h83, .ref h84, .ref h85]))), (h57, .inl (y 0, 3, .inl (fun _ => 0))), (h58, .inl (y 0, 18, .inl wf22085))] H := hP
          replace hD : va_D A [(h0, .inr (12, (.ref h4 :: .int wp22065 :: .int wp22066 :: .ref h7 :: .ref h8 :: .ref h9 :: .ref h10 :: .ref h11 :: .ref h12 :: .ref h13 :: .ref h14 :: .ref h15 :: .int wp22067 :: .ref h17 :: .int wp22068 :: .ref h19 :: .int wp22069 :: .ref h21 :: .ref h22 :: .ref h23 :: .ref h24 :: .ref h25 :: .ref h26 :: .ref h27 :: .ref h28 :: .ref h29 :: .ref h30 :: .ref h31 :: .int wp22070 :: .ref h33 :: .ref h34 :: .ref h35 :: .int wp22071 :: [.ref h37, .ref h38, .ref h39, .ref h40, .ref h41, .ref h42, .ref h43, .ref h44, .ref h45, .ref h46, .ref h47, .ref h48, .ref h49, .ref h50, .ref h51, .int wp22072, .int wp22073, .int wp22074, .int wp22075, .int wp22076, .ref h57, .ref h58, .int wp22077, .ref h60, .int 0, .ref h61, .int wp22078, .ref h63, .ref h64, .int wp22079, .ref h66, .ref h67, .int wp22080, .ref h69, .ref h70, .ref h71, .ref h72, .int wp22081, .int wp22082, .int wp22083, .int wp22084, .ref h77, .ref h78, .ref h79, .ref h80, .ref h81, .ref h82, .ref h83, .ref h84, .ref h85]))), (h57, .inl (y 0, 3, .inl (fun _ => 0))), (h58, .inl (y 0, 18, .inl wf22085))] := hD
          refine lv_icmp_lt (tgt := 40) hx hb dX12_secret_33 (by decide) (fun z22119 => ?_) (fun z22119 => ?_)
          · have z22119 := g_ltt z22119; rw [g_l1000] at z22119
            refine lv_iconst (v := 0) hx hb dX12_secret_40 (by decide) ?_
            refine gm_put (D := D) (ci := 12) (v := .int 0) (ty := .int) (C := RX12) (T := TX12) (N := 83) hx hb hg inlX12 tyX12 tyX12_ok nmX12 hown hK.1 hP hD hS 0 rfl rfl 57 (by decide) tX12_57 (hg _ gw_276) (by decide +kernel) rfl rfl (Nat.le_of_ble_eq_true rfl) dX12_secret_41 ?_
            clear hP hD hS H locs
            refine fun H locs (hP : va_P D vwCl [(h0, .inr (12, (.ref h4 :: .int wp22065 :: .int wp22066 :: .ref h7 :: .ref h8 :: .ref h9 :: .ref h10 :: .ref h11 :: .ref h12 :: .ref h13 :: .ref h14 :: .ref h15 :: .int wp22067 :: .ref h17 :: .int wp22068 :: .ref h19 :: .int wp22069 :: .ref h21 :: .ref h22 :: .ref h23 :: .ref h24 :: .ref h25 :: .ref h26 :: .ref h27 :: .ref h28 :: .ref h29 :: .ref h30 :: .ref h31 :: .int wp22070 :: .ref h33 :: .ref h34 :: .ref h35 :: .int wp22071 :: [.ref h37, .ref h38, .ref h39, .ref h40, .ref h41, .ref h42, .ref h43, .ref h44, .ref h45, .ref h46, .ref h47, .ref h48, .ref h49, .ref h50, .ref h51, .int wp22072, .int wp22073, .int wp22074, .int wp22075, .int wp22076, .ref h57, .ref h58, .int wp22077, .ref h60, .int 0, .ref h61, .int wp22078, .ref h63, .ref h64, .int wp22079, .ref h66, .ref h67, .int wp22080, .ref h69, .ref h70, .ref h71, .ref h72, .int wp22081, .int wp22082, .int wp22083, .int wp22084, .ref h77, .ref h78, .ref h79, .ref h80, .ref h81, .ref h82, .ref h83, .ref h84, .ref h85]))), (h57, .inl (y 0, 3, .inl (fun _ => 0))), (h58, .inl (y 0, 18, .inl wf22085))] H) (hD : va_D A [(h0, .inr (12, (.ref h4 :: .int wp22065 :: .int wp22066 :: .ref h7 :: .ref h8 :: .ref h9 :: .ref h10 :: .ref h11 :: .ref h12 :: .ref h13 :: .ref h14 :: .ref h15 :: .int wp22067 :: .ref h17 :: .int wp22068 :: .ref h19 :: .int wp22069 :: .ref h21 :: .ref h22 :: .ref h23 :: .ref h24 :: .ref h25 :: .ref h26 :: .ref h27 :: .ref h28 :: .ref h29 :: .ref h30 :: .ref h31 :: .int wp22070 :: .ref h33 :: .ref h34 :: .ref h35 :: .int wp22071 :: [.ref h37, .ref h38, .ref h39, .ref h40, .ref h41, .ref h42, .ref h43, .ref h44, .ref h45, .ref h46, .ref h47, .ref h48, .ref h49, .ref h50, .ref h51, .int wp22072, .int wp22073, .int wp22074, .int wp22075, .int wp22076, .ref h57, .ref h58, .int wp22077, .ref h60, .int 0, .ref h61, .int wp22078, .ref h63, .ref h64, .int wp22079, .ref h66, .ref h67, .int wp22080, .ref h69, .ref h70, .ref h71, .ref h72, .int wp22081, .int wp22082, .int wp22083, .int wp22084, .ref h77, .ref h78, .ref h79, .ref h80, .ref h81, .ref h82, .ref h83, .ref h84, .ref h85]))), (h57, .inl (y 0, 3, .inl (fun _ => 0))), (h58, .inl (y 0, 18, .inl wf22085))]) hS => ?_
            refine lv_aload_n hx hb dX12_secret_44 rfl (lv_at hl 0 rfl) ?_
            refine gm_get (D := D) (ci := 12) (v := .int 0) (C := RX12) (T := TX12) (N := 83) hx hb hg inlX12 hown hK.1 hP 0 rfl rfl 57 (by decide) tX12_57 (hg _ gw_276) rfl dX12_secret_45 ?_
            refine lv_if_le (tgt := 53) hx hb dX12_secret_48 (by decide) (fun _ => ?_) (fun c9 => absurd c9 (by decide +kernel))
            have hsp : p1 = 0 ∨ p1 = 1 ∨ p1 = 2 := by
              simp only [← Int32.toInt_inj, g_l0, g_l1, g_l2]; omega
            rcases hsp with rfl | rfl | rfl
            ·
              refine lv_aload_n hx hb dX12_secret_53 rfl (lv_at hl 0 rfl) ?_
              refine gm_get (D := D) (ci := 12) (v := .ref h57) (C := RX12) (T := TX12) (N := 83) hx hb hg inlX12 hown hK.1 hP 0 rfl rfl 53 (by decide) tX12_53 (hg _ gw_207) rfl dX12_secret_54 ?_
              refine lv_iload_n hx hb dX12_secret_57 rfl (lv_at hl 1 rfl) ?_
              refine lv_iload_n hx hb dX12_secret_58 rfl (lv_at hl 3 rfl) ?_
              refine va_iast hx hb hK.1 hP hD hS 1 0 rfl rfl (by unfold vp_in; decide +kernel) dX12_secret_59 ?_
              clear hP hD hS H locs
              refine fun H locs (hP : va_P D vwCl [(h0, .inr (12, (.ref h4 :: .int wp22065 :: .int wp22066 :: .ref h7 :: .ref h8 :: .ref h9 :: .ref h10 :: .ref h11 :: .ref h12 :: .ref h13 :: .ref h14 :: .ref h15 :: .int wp22067 :: .ref h17 :: .int wp22068 :: .ref h19 :: .int wp22069 :: .ref h21 :: .ref h22 :: .ref h23 :: .ref h24 :: .ref h25 :: .ref h26 :: .ref h27 :: .ref h28 :: .ref h29 :: .ref h30 :: .ref h31 :: .int wp22070 :: .ref h33 :: .ref h34 :: .ref h35 :: .int wp22071 :: [.ref h37, .ref h38, .ref h39, .ref h40, .ref h41, .ref h42, .ref h43, .ref h44, .ref h45, .ref h46, .ref h47, .ref h48, .ref h49, .ref h50, .ref h51, .int wp22072, .int wp22073, .int wp22074, .int wp22075, .int wp22076, .ref h57, .ref h58, .int wp22077, .ref h60, .int 0, .ref h61, .int wp22078, .ref h63, .ref h64, .int wp22079, .ref h66, .ref h67, .int wp22080, .ref h69, .ref h70, .ref h71, .ref h72, .int wp22081, .int wp22082, .int wp22083, .int wp22084, .ref h77, .ref h78, .ref h79, .ref h80, .ref h81, .ref h82, .ref h83, .ref h84, .ref h85]))), (h57, .inl (y 0, 3, .inl (upd (fun _ => 0) ((0 : Int32).toNatClampNeg) 3))), (h58, .inl (y 0, 18, .inl wf22085))] H) (hD : va_D A [(h0, .inr (12, (.ref h4 :: .int wp22065 :: .int wp22066 :: .ref h7 :: .ref h8 :: .ref h9 :: .ref h10 :: .ref h11 :: .ref h12 :: .ref h13 :: .ref h14 :: .ref h15 :: .int wp22067 :: .ref h17 :: .int wp22068 :: .ref h19 :: .int wp22069 :: .ref h21 :: .ref h22 :: .ref h23 :: .ref h24 :: .ref h25 :: .ref h26 :: .ref h27 :: .ref h28 :: .ref h29 :: .ref h30 :: .ref h31 :: .int wp22070 :: .ref h33 :: .ref h34 :: .ref h35 :: .int wp22071 :: [.ref h37, .ref h38, .ref h39, .ref h40, .ref h41, .ref h42, .ref h43, .ref h44, .ref h45, .ref h46, .ref h47, .ref h48, .ref h49, .ref h50, .ref h51, .int wp22072, .int wp22073, .int wp22074, .int wp22075, .int wp22076, .ref h57, .ref h58, .int wp22077, .ref h60, .int 0, .ref h61, .int wp22078, .ref h63, .ref h64, .int wp22079, .ref h66, .ref h67, .int wp22080, .ref h69, .ref h70, .ref h71, .ref h72, .int wp22081, .int wp22082, .int wp22083, .int wp22084, .ref h77, .ref h78, .ref h79, .ref h80, .ref h81, .ref h82, .ref h83, .ref h84, .ref h85]))), (h57, .inl (y 0, 3, .inl (upd (fun _ => 0) ((0 : Int32).toNatClampNeg) 3))), (h58, .inl (y 0, 18, .inl wf22085))]) hS => ?_
              refine lv_iconst (v := 0) hx hb dX12_secret_60 (by decide) ?_
              refine lv_istore (lv' := [(4, .int 0), (0, .ref h0), (1, .int 0), (2, .int p2), (3, .int 3)]) hx hb dX12_secret_61 hl (by decide) rfl ?_
              clear hl
              clear ls
              intro ls hl
              refine lv_iload hx hb dX12_secret_63 (lv_at hl 0 rfl) ?_
              refine lv_iload_n hx hb dX12_secret_65 rfl (lv_at hl 4 rfl) ?_
              refine lv_icmp_ge (tgt := 94) hx hb dX12_secret_66 (by decide) (fun c9 => absurd c9 (by decide +kernel)) (fun _ => ?_)
              refine lv_aload_n hx hb dX12_secret_69 rfl (lv_at hl 1 rfl) ?_
              refine gm_get (D := D) (ci := 12) (v := .ref h58) (C := RX12) (T := TX12) (N := 83) hx hb hg inlX12 hown hK.1 hP 0 rfl rfl 54 (by decide) tX12_54 (hg _ gw_208) rfl dX12_secret_70 ?_
              refine lv_bipush (v := 6) hx hb dX12_secret_73 (by decide +kernel) ?_
              refine lv_iload_n hx hb dX12_secret_75 rfl (lv_at hl 2 rfl) ?_
              refine lv_imul hx hb dX12_secret_76 ?_
              refine g_fi (v := 0) (by decide +kernel) ?_
              refine lv_iload hx hb dX12_secret_77 (lv_at hl 0 rfl) ?_
              refine lv_iadd hx hb dX12_secret_79 ?_
              refine g_fi (v := 0) (by decide +kernel) ?_
              refine lv_iload_n hx hb dX12_secret_80 rfl (lv_at hl 3 rfl) ?_
              refine lv_iload_n hx hb dX12_secret_81 rfl (lv_at hl 4 rfl) ?_
              refine lv_iload hx hb dX12_secret_82 (lv_at hl 0 rfl) ?_
              refine g_ai (wr := [(h0, .inr (12, (.ref h4 :: .int wp22065 :: .int wp22066 :: .ref h7 :: .ref h8 :: .ref h9 :: .ref h10 :: .ref h11 :: .ref h12 :: .ref h13 :: .ref h14 :: .ref h15 :: .int wp22067 :: .ref h17 :: .int wp22068 :: .ref h19 :: .int wp22069 :: .ref h21 :: .ref h22 :: .ref h23 :: .ref h24 :: .ref h25 :: .ref h26 :: .ref h27 :: .ref h28 :: .ref h29 :: .ref h30 :: .ref h31 :: .int wp22070 :: .ref h33 :: .ref h34 :: .ref h35 :: .int wp22071 :: [.ref h37, .ref h38, .ref h39, .ref h40, .ref h41, .ref h42, .ref h43, .ref h44, .ref h45, .ref h46, .ref h47, .ref h48, .ref h49, .ref h50, .ref h51, .int wp22072, .int wp22073, .int wp22074, .int wp22075, .int wp22076, .ref h57, .ref h58, .int wp22077, .ref h60, .int 0, .ref h61, .int wp22078, .ref h63, .ref h64, .int wp22079, .ref h66, .ref h67, .int wp22080, .ref h69, .ref h70, .ref h71, .ref h72, .int wp22081, .int wp22082, .int wp22083, .int wp22084, .ref h77, .ref h78, .ref h79, .ref h80, .ref h81, .ref h82, .ref h83, .ref h84, .ref h85]))), (h57, .inl (y 0, 3, .inl (upd (fun _ => 0) ((0 : Int32).toNatClampNeg) 3))), (h58, .inl (y 0, 18, .inl wf22085))]) (va_runS (As := [.int p2, .int 3, .int 0]) (rest := [.int 0, .ref h58]) ⟨hx, hb, hml, hown, hg⟩ (k_X12_digitOf_2 l D y aS H.size p2) (va_cwS 3 hg ggS_RX12_484_X12_digitOf rfl rfl rfl (by decide +kernel) ⟨Nat.le_of_ble_eq_true rfl, Nat.le_of_ble_eq_true rfl⟩) (g_preS hK hP hD [] rfl (by decide)) rfl rfl hl.1 rfl (lv_room (Nat.le_of_ble_eq_true rfl)) dX12_secret_84 ⟨Nat.le_of_ble_eq_true rfl, Nat.le_of_ble_eq_true rfl⟩) hP hD hS hA [] [0, 1, 2] rfl rfl (by decide) (by decide) ?_
              clear hP hD hS H locs
              refine fun r22120 u H locs hq hP hD hS => ?_
              subst hq
              replace hP : va_P D vwCl [(h0, .inr (12, (.ref h4 :: .int wp22065 :: .int wp22066 :: .ref h7 :: .ref h8 :: .ref h9 :: .ref h10 :: .ref h11 :: .ref h12 :: .ref h13 :: .ref h14 :: .ref h15 :: .int wp22067 :: .ref h17 :: .int wp22068 :: .ref h19 :: .int wp22069 :: .ref h21 :: .ref h22 :: .ref h23 :: .ref h24 :: .ref h25 :: .ref h26 :: .ref h27 :: .ref h28 :: .ref h29 :: .ref h30 :: .ref h31 :: .int wp22070 :: .ref h33 :: .ref h34 :: .ref h35 :: .int wp22071 :: [.ref h37, .ref h38, .ref h39, .ref h40, .ref h41, .ref h42, .ref h43, .ref h44, .ref h45, .ref h46, .ref h47, .ref h48, .ref h49, .ref h50, .ref h51, .int wp22072, .int wp22073, .int wp22074, .int wp22075, .int wp22076, .ref h57, .ref h58, .int wp22077, .ref h60, .int 0, .ref h61, .int wp22078, .ref h63, .ref h64, .int wp22079, .ref h66, .ref h67, .int wp22080, .ref h69, .ref h70, .ref h71, .ref h72, .int wp22081, .int wp22082, .int wp22083, .int wp22084, .ref h77, .ref h78, .ref h79, .ref h80, .ref h81, .ref h82, .ref h83, .ref h84, .ref h85]))), (h57, .inl (y 0, 3, .inl (upd (fun _ => 0) ((0 : Int32).toNatClampNeg) 3))), (h58, .inl (y 0, 18, .inl wf22085))] H := hP
              replace hD : va_D A [(h0, .inr (12, (.ref h4 :: .int wp22065 :: .int wp22066 :: .ref h7 :: .ref h8 :: .ref h9 :: .ref h10 :: .ref h11 :: .ref h12 :: .ref h13 :: .ref h14 :: .ref h15 :: .int wp22067 :: .ref h17 :: .int wp22068 :: .ref h19 :: .int wp22069 :: .ref h21 :: .ref h22 :: .ref h23 :: .ref h24 :: .ref h25 :: .ref h26 :: .ref h27 :: .ref h28 :: .ref h29 :: .ref h30 :: .ref h31 :: .int wp22070 :: .ref h33 :: .ref h34 :: .ref h35 :: .int wp22071 :: [.ref h37, .ref h38, .ref h39, .ref h40, .ref h41, .ref h42, .ref h43, .ref h44, .ref h45, .ref h46, .ref h47, .ref h48, .ref h49, .ref h50, .ref h51, .int wp22072, .int wp22073, .int wp22074, .int wp22075, .int wp22076, .ref h57, .ref h58, .int wp22077, .ref h60, .int 0, .ref h61, .int wp22078, .ref h63, .ref h64, .int wp22079, .ref h66, .ref h67, .int wp22080, .ref h69, .ref h70, .ref h71, .ref h72, .int wp22081, .int wp22082, .int wp22083, .int wp22084, .ref h77, .ref h78, .ref h79, .ref h80, .ref h81, .ref h82, .ref h83, .ref h84, .ref h85]))), (h57, .inl (y 0, 3, .inl (upd (fun _ => 0) ((0 : Int32).toNatClampNeg) 3))), (h58, .inl (y 0, 18, .inl wf22085))] := hD
              refine va_iast hx hb hK.1 hP hD hS 2 0 rfl rfl (by unfold vp_in; decide +kernel) dX12_secret_87 ?_
              clear hP hD hS H locs
              refine fun H locs (hP : va_P D vwCl [(h0, .inr (12, (.ref h4 :: .int wp22065 :: .int wp22066 :: .ref h7 :: .ref h8 :: .ref h9 :: .ref h10 :: .ref h11 :: .ref h12 :: .ref h13 :: .ref h14 :: .ref h15 :: .int wp22067 :: .ref h17 :: .int wp22068 :: .ref h19 :: .int wp22069 :: .ref h21 :: .ref h22 :: .ref h23 :: .ref h24 :: .ref h25 :: .ref h26 :: .ref h27 :: .ref h28 :: .ref h29 :: .ref h30 :: .ref h31 :: .int wp22070 :: .ref h33 :: .ref h34 :: .ref h35 :: .int wp22071 :: [.ref h37, .ref h38, .ref h39, .ref h40, .ref h41, .ref h42, .ref h43, .ref h44, .ref h45, .ref h46, .ref h47, .ref h48, .ref h49, .ref h50, .ref h51, .int wp22072, .int wp22073, .int wp22074, .int wp22075, .int wp22076, .ref h57, .ref h58, .int wp22077, .ref h60, .int 0, .ref h61, .int wp22078, .ref h63, .ref h64, .int wp22079, .ref h66, .ref h67, .int wp22080, .ref h69, .ref h70, .ref h71, .ref h72, .int wp22081, .int wp22082, .int wp22083, .int wp22084, .ref h77, .ref h78, .ref h79, .ref h80, .ref h81, .ref h82, .ref h83, .ref h84, .ref h85]))), (h57, .inl (y 0, 3, .inl (upd (fun _ => 0) ((0 : Int32).toNatClampNeg) 3))), (h58, .inl (y 0, 18, .inl (upd wf22085 ((0 : Int32).toNatClampNeg) ((p2 / 100) - (p2 / 100) / 10 * 10))))] H) (hD : va_D A [(h0, .inr (12, (.ref h4 :: .int wp22065 :: .int wp22066 :: .ref h7 :: .ref h8 :: .ref h9 :: .ref h10 :: .ref h11 :: .ref h12 :: .ref h13 :: .ref h14 :: .ref h15 :: .int wp22067 :: .ref h17 :: .int wp22068 :: .ref h19 :: .int wp22069 :: .ref h21 :: .ref h22 :: .ref h23 :: .ref h24 :: .ref h25 :: .ref h26 :: .ref h27 :: .ref h28 :: .ref h29 :: .ref h30 :: .ref h31 :: .int wp22070 :: .ref h33 :: .ref h34 :: .ref h35 :: .int wp22071 :: [.ref h37, .ref h38, .ref h39, .ref h40, .ref h41, .ref h42, .ref h43, .ref h44, .ref h45, .ref h46, .ref h47, .ref h48, .ref h49, .ref h50, .ref h51, .int wp22072, .int wp22073, .int wp22074, .int wp22075, .int wp22076, .ref h57, .ref h58, .int wp22077, .ref h60, .int 0, .ref h61, .int wp22078, .ref h63, .ref h64, .int wp22079, .ref h66, .ref h67, .int wp22080, .ref h69, .ref h70, .ref h71, .ref h72, .int wp22081, .int wp22082, .int wp22083, .int wp22084, .ref h77, .ref h78, .ref h79, .ref h80, .ref h81, .ref h82, .ref h83, .ref h84, .ref h85]))), (h57, .inl (y 0, 3, .inl (upd (fun _ => 0) ((0 : Int32).toNatClampNeg) 3))), (h58, .inl (y 0, 18, .inl (upd wf22085 ((0 : Int32).toNatClampNeg) ((p2 / 100) - (p2 / 100) / 10 * 10))))]) hS => ?_
              obtain ⟨fn22121, hfn22121⟩ : ∃ f9 : Nat → Int32, f9 = (upd wf22085 ((0 : Int32).toNatClampNeg) ((p2 / 100) - (p2 / 100) / 10 * 10)) := ⟨_, rfl⟩
              rw [← hfn22121] at hP hD
              clear hfn22121
              refine lv_iinc (v := 1) (lv' := [(4, .int 1), (0, .ref h0), (1, .int 0), (2, .int p2), (3, .int 3)]) hx hb dX12_secret_88 hl (k := 0) rfl (by decide +kernel) (by decide) rfl ?_
              clear hl
              clear ls
              intro ls hl
              refine lv_goto (tgt := 63) hx hb dX12_secret_91 (by decide) ?_
              refine lv_iload hx hb dX12_secret_63 (lv_at hl 0 rfl) ?_
              refine lv_iload_n hx hb dX12_secret_65 rfl (lv_at hl 4 rfl) ?_
              refine lv_icmp_ge (tgt := 94) hx hb dX12_secret_66 (by decide) (fun c9 => absurd c9 (by decide +kernel)) (fun _ => ?_)
              refine lv_aload_n hx hb dX12_secret_69 rfl (lv_at hl 1 rfl) ?_
              refine gm_get (D := D) (ci := 12) (v := .ref h58) (C := RX12) (T := TX12) (N := 83) hx hb hg inlX12 hown hK.1 hP 0 rfl rfl 54 (by decide) tX12_54 (hg _ gw_208) rfl dX12_secret_70 ?_
              refine lv_bipush (v := 6) hx hb dX12_secret_73 (by decide +kernel) ?_
              refine lv_iload_n hx hb dX12_secret_75 rfl (lv_at hl 2 rfl) ?_
              refine lv_imul hx hb dX12_secret_76 ?_
              refine g_fi (v := 0) (by decide +kernel) ?_
              refine lv_iload hx hb dX12_secret_77 (lv_at hl 0 rfl) ?_
              refine lv_iadd hx hb dX12_secret_79 ?_
              refine g_fi (v := 1) (by decide +kernel) ?_
              refine lv_iload_n hx hb dX12_secret_80 rfl (lv_at hl 3 rfl) ?_
              refine lv_iload_n hx hb dX12_secret_81 rfl (lv_at hl 4 rfl) ?_
              refine lv_iload hx hb dX12_secret_82 (lv_at hl 0 rfl) ?_
              refine g_ai (wr := [(h0, .inr (12, (.ref h4 :: .int wp22065 :: .int wp22066 :: .ref h7 :: .ref h8 :: .ref h9 :: .ref h10 :: .ref h11 :: .ref h12 :: .ref h13 :: .ref h14 :: .ref h15 :: .int wp22067 :: .ref h17 :: .int wp22068 :: .ref h19 :: .int wp22069 :: .ref h21 :: .ref h22 :: .ref h23 :: .ref h24 :: .ref h25 :: .ref h26 :: .ref h27 :: .ref h28 :: .ref h29 :: .ref h30 :: .ref h31 :: .int wp22070 :: .ref h33 :: .ref h34 :: .ref h35 :: .int wp22071 :: [.ref h37, .ref h38, .ref h39, .ref h40, .ref h41, .ref h42, .ref h43, .ref h44, .ref h45, .ref h46, .ref h47, .ref h48, .ref h49, .ref h50, .ref h51, .int wp22072, .int wp22073, .int wp22074, .int wp22075, .int wp22076, .ref h57, .ref h58, .int wp22077, .ref h60, .int 0, .ref h61, .int wp22078, .ref h63, .ref h64, .int wp22079, .ref h66, .ref h67, .int wp22080, .ref h69, .ref h70, .ref h71, .ref h72, .int wp22081, .int wp22082, .int wp22083, .int wp22084, .ref h77, .ref h78, .ref h79, .ref h80, .ref h81, .ref h82, .ref h83, .ref h84, .ref h85]))), (h57, .inl (y 0, 3, .inl (upd (fun _ => 0) ((0 : Int32).toNatClampNeg) 3))), (h58, .inl (y 0, 18, .inl fn22121))]) (va_runS (As := [.int p2, .int 3, .int 1]) (rest := [.int 1, .ref h58]) ⟨hx, hb, hml, hown, hg⟩ (k_X12_digitOf_3 l D y aS H.size p2) (va_cwS 3 hg ggS_RX12_484_X12_digitOf rfl rfl rfl (by decide +kernel) ⟨Nat.le_of_ble_eq_true rfl, Nat.le_of_ble_eq_true rfl⟩) (g_preS hK hP hD [] rfl (by decide)) rfl rfl hl.1 rfl (lv_room (Nat.le_of_ble_eq_true rfl)) dX12_secret_84 ⟨Nat.le_of_ble_eq_true rfl, Nat.le_of_ble_eq_true rfl⟩) hP hD hS hA [] [0, 1, 2] rfl rfl (by decide) (by decide) ?_
              clear hP hD hS H locs
              refine fun r22122 u H locs hq hP hD hS => ?_
              subst hq
              replace hP : va_P D vwCl [(h0, .inr (12, (.ref h4 :: .int wp22065 :: .int wp22066 :: .ref h7 :: .ref h8 :: .ref h9 :: .ref h10 :: .ref h11 :: .ref h12 :: .ref h13 :: .ref h14 :: .ref h15 :: .int wp22067 :: .ref h17 :: .int wp22068 :: .ref h19 :: .int wp22069 :: .ref h21 :: .ref h22 :: .ref h23 :: .ref h24 :: .ref h25 :: .ref h26 :: .ref h27 :: .ref h28 :: .ref h29 :: .ref h30 :: .ref h31 :: .int wp22070 :: .ref h33 :: .ref h34 :: .ref h35 :: .int wp22071 :: [.ref h37, .ref h38, .ref h39, .ref h40, .ref h41, .ref h42, .ref h43, .ref h44, .ref h45, .ref h46, .ref h47, .ref h48, .ref h49, .ref h50, .ref h51, .int wp22072, .int wp22073, .int wp22074, .int wp22075, .int wp22076, .ref h57, .ref h58, .int wp22077, .ref h60, .int 0, .ref h61, .int wp22078, .ref h63, .ref h64, .int wp22079, .ref h66, .ref h67, .int wp22080, .ref h69, .ref h70, .ref h71, .ref h72, .int wp22081, .int wp22082, .int wp22083, .int wp22084, .ref h77, .ref h78, .ref h79, .ref h80, .ref h81, .ref h82, .ref h83, .ref h84, .ref h85]))), (h57, .inl (y 0, 3, .inl (upd (fun _ => 0) ((0 : Int32).toNatClampNeg) 3))), (h58, .inl (y 0, 18, .inl fn22121))] H := hP
              replace hD : va_D A [(h0, .inr (12, (.ref h4 :: .int wp22065 :: .int wp22066 :: .ref h7 :: .ref h8 :: .ref h9 :: .ref h10 :: .ref h11 :: .ref h12 :: .ref h13 :: .ref h14 :: .ref h15 :: .int wp22067 :: .ref h17 :: .int wp22068 :: .ref h19 :: .int wp22069 :: .ref h21 :: .ref h22 :: .ref h23 :: .ref h24 :: .ref h25 :: .ref h26 :: .ref h27 :: .ref h28 :: .ref h29 :: .ref h30 :: .ref h31 :: .int wp22070 :: .ref h33 :: .ref h34 :: .ref h35 :: .int wp22071 :: [.ref h37, .ref h38, .ref h39, .ref h40, .ref h41, .ref h42, .ref h43, .ref h44, .ref h45, .ref h46, .ref h47, .ref h48, .ref h49, .ref h50, .ref h51, .int wp22072, .int wp22073, .int wp22074, .int wp22075, .int wp22076, .ref h57, .ref h58, .int wp22077, .ref h60, .int 0, .ref h61, .int wp22078, .ref h63, .ref h64, .int wp22079, .ref h66, .ref h67, .int wp22080, .ref h69, .ref h70, .ref h71, .ref h72, .int wp22081, .int wp22082, .int wp22083, .int wp22084, .ref h77, .ref h78, .ref h79, .ref h80, .ref h81, .ref h82, .ref h83, .ref h84, .ref h85]))), (h57, .inl (y 0, 3, .inl (upd (fun _ => 0) ((0 : Int32).toNatClampNeg) 3))), (h58, .inl (y 0, 18, .inl fn22121))] := hD
              refine va_iast hx hb hK.1 hP hD hS 2 0 rfl rfl (by unfold vp_in; decide +kernel) dX12_secret_87 ?_
              clear hP hD hS H locs
              refine fun H locs (hP : va_P D vwCl [(h0, .inr (12, (.ref h4 :: .int wp22065 :: .int wp22066 :: .ref h7 :: .ref h8 :: .ref h9 :: .ref h10 :: .ref h11 :: .ref h12 :: .ref h13 :: .ref h14 :: .ref h15 :: .int wp22067 :: .ref h17 :: .int wp22068 :: .ref h19 :: .int wp22069 :: .ref h21 :: .ref h22 :: .ref h23 :: .ref h24 :: .ref h25 :: .ref h26 :: .ref h27 :: .ref h28 :: .ref h29 :: .ref h30 :: .ref h31 :: .int wp22070 :: .ref h33 :: .ref h34 :: .ref h35 :: .int wp22071 :: [.ref h37, .ref h38, .ref h39, .ref h40, .ref h41, .ref h42, .ref h43, .ref h44, .ref h45, .ref h46, .ref h47, .ref h48, .ref h49, .ref h50, .ref h51, .int wp22072, .int wp22073, .int wp22074, .int wp22075, .int wp22076, .ref h57, .ref h58, .int wp22077, .ref h60, .int 0, .ref h61, .int wp22078, .ref h63, .ref h64, .int wp22079, .ref h66, .ref h67, .int wp22080, .ref h69, .ref h70, .ref h71, .ref h72, .int wp22081, .int wp22082, .int wp22083, .int wp22084, .ref h77, .ref h78, .ref h79, .ref h80, .ref h81, .ref h82, .ref h83, .ref h84, .ref h85]))), (h57, .inl (y 0, 3, .inl (upd (fun _ => 0) ((0 : Int32).toNatClampNeg) 3))), (h58, .inl (y 0, 18, .inl (upd fn22121 ((1 : Int32).toNatClampNeg) ((p2 / 10) - (p2 / 10) / 10 * 10))))] H) (hD : va_D A [(h0, .inr (12, (.ref h4 :: .int wp22065 :: .int wp22066 :: .ref h7 :: .ref h8 :: .ref h9 :: .ref h10 :: .ref h11 :: .ref h12 :: .ref h13 :: .ref h14 :: .ref h15 :: .int wp22067 :: .ref h17 :: .int wp22068 :: .ref h19 :: .int wp22069 :: .ref h21 :: .ref h22 :: .ref h23 :: .ref h24 :: .ref h25 :: .ref h26 :: .ref h27 :: .ref h28 :: .ref h29 :: .ref h30 :: .ref h31 :: .int wp22070 :: .ref h33 :: .ref h34 :: .ref h35 :: .int wp22071 :: [.ref h37, .ref h38, .ref h39, .ref h40, .ref h41, .ref h42, .ref h43, .ref h44, .ref h45, .ref h46, .ref h47, .ref h48, .ref h49, .ref h50, .ref h51, .int wp22072, .int wp22073, .int wp22074, .int wp22075, .int wp22076, .ref h57, .ref h58, .int wp22077, .ref h60, .int 0, .ref h61, .int wp22078, .ref h63, .ref h64, .int wp22079, .ref h66, .ref h67, .int wp22080, .ref h69, .ref h70, .ref h71, .ref h72, .int wp22081, .int wp22082, .int wp22083, .int wp22084, .ref h77, .ref h78, .ref h79, .ref h80, .ref h81, .ref h82, .ref h83, .ref h84, .ref h85]))), (h57, .inl (y 0, 3, .inl (upd (fun _ => 0) ((0 : Int32).toNatClampNeg) 3))), (h58, .inl (y 0, 18, .inl (upd fn22121 ((1 : Int32).toNatClampNeg) ((p2 / 10) - (p2 / 10) / 10 * 10))))]) hS => ?_
              obtain ⟨fn22123, hfn22123⟩ : ∃ f9 : Nat → Int32, f9 = (upd fn22121 ((1 : Int32).toNatClampNeg) ((p2 / 10) - (p2 / 10) / 10 * 10)) := ⟨_, rfl⟩
              rw [← hfn22123] at hP hD
              clear hfn22123
              refine lv_iinc (v := 2) (lv' := [(4, .int 2), (0, .ref h0), (1, .int 0), (2, .int p2), (3, .int 3)]) hx hb dX12_secret_88 hl (k := 0) rfl (by decide +kernel) (by decide) rfl ?_
              clear hl
              clear ls
              intro ls hl
              refine lv_goto (tgt := 63) hx hb dX12_secret_91 (by decide) ?_
              refine lv_iload hx hb dX12_secret_63 (lv_at hl 0 rfl) ?_
              refine lv_iload_n hx hb dX12_secret_65 rfl (lv_at hl 4 rfl) ?_
              refine lv_icmp_ge (tgt := 94) hx hb dX12_secret_66 (by decide) (fun c9 => absurd c9 (by decide +kernel)) (fun _ => ?_)
              refine lv_aload_n hx hb dX12_secret_69 rfl (lv_at hl 1 rfl) ?_
              refine gm_get (D := D) (ci := 12) (v := .ref h58) (C := RX12) (T := TX12) (N := 83) hx hb hg inlX12 hown hK.1 hP 0 rfl rfl 54 (by decide) tX12_54 (hg _ gw_208) rfl dX12_secret_70 ?_
              refine lv_bipush (v := 6) hx hb dX12_secret_73 (by decide +kernel) ?_
              refine lv_iload_n hx hb dX12_secret_75 rfl (lv_at hl 2 rfl) ?_
              refine lv_imul hx hb dX12_secret_76 ?_
              refine g_fi (v := 0) (by decide +kernel) ?_
              refine lv_iload hx hb dX12_secret_77 (lv_at hl 0 rfl) ?_
              refine lv_iadd hx hb dX12_secret_79 ?_
              refine g_fi (v := 2) (by decide +kernel) ?_
              refine lv_iload_n hx hb dX12_secret_80 rfl (lv_at hl 3 rfl) ?_
              refine lv_iload_n hx hb dX12_secret_81 rfl (lv_at hl 4 rfl) ?_
              refine lv_iload hx hb dX12_secret_82 (lv_at hl 0 rfl) ?_
              refine g_ai (wr := [(h0, .inr (12, (.ref h4 :: .int wp22065 :: .int wp22066 :: .ref h7 :: .ref h8 :: .ref h9 :: .ref h10 :: .ref h11 :: .ref h12 :: .ref h13 :: .ref h14 :: .ref h15 :: .int wp22067 :: .ref h17 :: .int wp22068 :: .ref h19 :: .int wp22069 :: .ref h21 :: .ref h22 :: .ref h23 :: .ref h24 :: .ref h25 :: .ref h26 :: .ref h27 :: .ref h28 :: .ref h29 :: .ref h30 :: .ref h31 :: .int wp22070 :: .ref h33 :: .ref h34 :: .ref h35 :: .int wp22071 :: [.ref h37, .ref h38, .ref h39, .ref h40, .ref h41, .ref h42, .ref h43, .ref h44, .ref h45, .ref h46, .ref h47, .ref h48, .ref h49, .ref h50, .ref h51, .int wp22072, .int wp22073, .int wp22074, .int wp22075, .int wp22076, .ref h57, .ref h58, .int wp22077, .ref h60, .int 0, .ref h61, .int wp22078, .ref h63, .ref h64, .int wp22079, .ref h66, .ref h67, .int wp22080, .ref h69, .ref h70, .ref h71, .ref h72, .int wp22081, .int wp22082, .int wp22083, .int wp22084, .ref h77, .ref h78, .ref h79, .ref h80, .ref h81, .ref h82, .ref h83, .ref h84, .ref h85]))), (h57, .inl (y 0, 3, .inl (upd (fun _ => 0) ((0 : Int32).toNatClampNeg) 3))), (h58, .inl (y 0, 18, .inl fn22123))]) (va_runS (As := [.int p2, .int 3, .int 2]) (rest := [.int 2, .ref h58]) ⟨hx, hb, hml, hown, hg⟩ (k_X12_digitOf_4 l D y aS H.size p2) (va_cwS 3 hg ggS_RX12_484_X12_digitOf rfl rfl rfl (by decide +kernel) ⟨Nat.le_of_ble_eq_true rfl, Nat.le_of_ble_eq_true rfl⟩) (g_preS hK hP hD [] rfl (by decide)) rfl rfl hl.1 rfl (lv_room (Nat.le_of_ble_eq_true rfl)) dX12_secret_84 ⟨Nat.le_of_ble_eq_true rfl, Nat.le_of_ble_eq_true rfl⟩) hP hD hS hA [] [0, 1, 2] rfl rfl (by decide) (by decide) ?_
              clear hP hD hS H locs
              refine fun r22124 u H locs hq hP hD hS => ?_
              subst hq
              replace hP : va_P D vwCl [(h0, .inr (12, (.ref h4 :: .int wp22065 :: .int wp22066 :: .ref h7 :: .ref h8 :: .ref h9 :: .ref h10 :: .ref h11 :: .ref h12 :: .ref h13 :: .ref h14 :: .ref h15 :: .int wp22067 :: .ref h17 :: .int wp22068 :: .ref h19 :: .int wp22069 :: .ref h21 :: .ref h22 :: .ref h23 :: .ref h24 :: .ref h25 :: .ref h26 :: .ref h27 :: .ref h28 :: .ref h29 :: .ref h30 :: .ref h31 :: .int wp22070 :: .ref h33 :: .ref h34 :: .ref h35 :: .int wp22071 :: [.ref h37, .ref h38, .ref h39, .ref h40, .ref h41, .ref h42, .ref h43, .ref h44, .ref h45, .ref h46, .ref h47, .ref h48, .ref h49, .ref h50, .ref h51, .int wp22072, .int wp22073, .int wp22074, .int wp22075, .int wp22076, .ref h57, .ref h58, .int wp22077, .ref h60, .int 0, .ref h61, .int wp22078, .ref h63, .ref h64, .int wp22079, .ref h66, .ref h67, .int wp22080, .ref h69, .ref h70, .ref h71, .ref h72, .int wp22081, .int wp22082, .int wp22083, .int wp22084, .ref h77, .ref h78, .ref h79, .ref h80, .ref h81, .ref h82, .ref h83, .ref h84, .ref h85]))), (h57, .inl (y 0, 3, .inl (upd (fun _ => 0) ((0 : Int32).toNatClampNeg) 3))), (h58, .inl (y 0, 18, .inl fn22123))] H := hP
              replace hD : va_D A [(h0, .inr (12, (.ref h4 :: .int wp22065 :: .int wp22066 :: .ref h7 :: .ref h8 :: .ref h9 :: .ref h10 :: .ref h11 :: .ref h12 :: .ref h13 :: .ref h14 :: .ref h15 :: .int wp22067 :: .ref h17 :: .int wp22068 :: .ref h19 :: .int wp22069 :: .ref h21 :: .ref h22 :: .ref h23 :: .ref h24 :: .ref h25 :: .ref h26 :: .ref h27 :: .ref h28 :: .ref h29 :: .ref h30 :: .ref h31 :: .int wp22070 :: .ref h33 :: .ref h34 :: .ref h35 :: .int wp22071 :: [.ref h37, .ref h38, .ref h39, .ref h40, .ref h41, .ref h42, .ref h43, .ref h44, .ref h45, .ref h46, .ref h47, .ref h48, .ref h49, .ref h50, .ref h51, .int wp22072, .int wp22073, .int wp22074, .int wp22075, .int wp22076, .ref h57, .ref h58, .int wp22077, .ref h60, .int 0, .ref h61, .int wp22078, .ref h63, .ref h64, .int wp22079, .ref h66, .ref h67, .int wp22080, .ref h69, .ref h70, .ref h71, .ref h72, .int wp22081, .int wp22082, .int wp22083, .int wp22084, .ref h77, .ref h78, .ref h79, .ref h80, .ref h81, .ref h82, .ref h83, .ref h84, .ref h85]))), (h57, .inl (y 0, 3, .inl (upd (fun _ => 0) ((0 : Int32).toNatClampNeg) 3))), (h58, .inl (y 0, 18, .inl fn22123))] := hD
              refine va_iast hx hb hK.1 hP hD hS 2 0 rfl rfl (by unfold vp_in; decide +kernel) dX12_secret_87 ?_
              clear hP hD hS H locs
              refine fun H locs (hP : va_P D vwCl [(h0, .inr (12, (.ref h4 :: .int wp22065 :: .int wp22066 :: .ref h7 :: .ref h8 :: .ref h9 :: .ref h10 :: .ref h11 :: .ref h12 :: .ref h13 :: .ref h14 :: .ref h15 :: .int wp22067 :: .ref h17 :: .int wp22068 :: .ref h19 :: .int wp22069 :: .ref h21 :: .ref h22 :: .ref h23 :: .ref h24 :: .ref h25 :: .ref h26 :: .ref h27 :: .ref h28 :: .ref h29 :: .ref h30 :: .ref h31 :: .int wp22070 :: .ref h33 :: .ref h34 :: .ref h35 :: .int wp22071 :: [.ref h37, .ref h38, .ref h39, .ref h40, .ref h41, .ref h42, .ref h43, .ref h44, .ref h45, .ref h46, .ref h47, .ref h48, .ref h49, .ref h50, .ref h51, .int wp22072, .int wp22073, .int wp22074, .int wp22075, .int wp22076, .ref h57, .ref h58, .int wp22077, .ref h60, .int 0, .ref h61, .int wp22078, .ref h63, .ref h64, .int wp22079, .ref h66, .ref h67, .int wp22080, .ref h69, .ref h70, .ref h71, .ref h72, .int wp22081, .int wp22082, .int wp22083, .int wp22084, .ref h77, .ref h78, .ref h79, .ref h80, .ref h81, .ref h82, .ref h83, .ref h84, .ref h85]))), (h57, .inl (y 0, 3, .inl (upd (fun _ => 0) ((0 : Int32).toNatClampNeg) 3))), (h58, .inl (y 0, 18, .inl (upd fn22123 ((2 : Int32).toNatClampNeg) ((p2 / 1) - (p2 / 1) / 10 * 10))))] H) (hD : va_D A [(h0, .inr (12, (.ref h4 :: .int wp22065 :: .int wp22066 :: .ref h7 :: .ref h8 :: .ref h9 :: .ref h10 :: .ref h11 :: .ref h12 :: .ref h13 :: .ref h14 :: .ref h15 :: .int wp22067 :: .ref h17 :: .int wp22068 :: .ref h19 :: .int wp22069 :: .ref h21 :: .ref h22 :: .ref h23 :: .ref h24 :: .ref h25 :: .ref h26 :: .ref h27 :: .ref h28 :: .ref h29 :: .ref h30 :: .ref h31 :: .int wp22070 :: .ref h33 :: .ref h34 :: .ref h35 :: .int wp22071 :: [.ref h37, .ref h38, .ref h39, .ref h40, .ref h41, .ref h42, .ref h43, .ref h44, .ref h45, .ref h46, .ref h47, .ref h48, .ref h49, .ref h50, .ref h51, .int wp22072, .int wp22073, .int wp22074, .int wp22075, .int wp22076, .ref h57, .ref h58, .int wp22077, .ref h60, .int 0, .ref h61, .int wp22078, .ref h63, .ref h64, .int wp22079, .ref h66, .ref h67, .int wp22080, .ref h69, .ref h70, .ref h71, .ref h72, .int wp22081, .int wp22082, .int wp22083, .int wp22084, .ref h77, .ref h78, .ref h79, .ref h80, .ref h81, .ref h82, .ref h83, .ref h84, .ref h85]))), (h57, .inl (y 0, 3, .inl (upd (fun _ => 0) ((0 : Int32).toNatClampNeg) 3))), (h58, .inl (y 0, 18, .inl (upd fn22123 ((2 : Int32).toNatClampNeg) ((p2 / 1) - (p2 / 1) / 10 * 10))))]) hS => ?_
              obtain ⟨fn22125, hfn22125⟩ : ∃ f9 : Nat → Int32, f9 = (upd fn22123 ((2 : Int32).toNatClampNeg) ((p2 / 1) - (p2 / 1) / 10 * 10)) := ⟨_, rfl⟩
              rw [← hfn22125] at hP hD
              clear hfn22125
              refine lv_iinc (v := 3) (lv' := [(4, .int 3), (0, .ref h0), (1, .int 0), (2, .int p2), (3, .int 3)]) hx hb dX12_secret_88 hl (k := 0) rfl (by decide +kernel) (by decide) rfl ?_
              clear hl
              clear ls
              intro ls hl
              refine lv_goto (tgt := 63) hx hb dX12_secret_91 (by decide) ?_
              refine lv_iload hx hb dX12_secret_63 (lv_at hl 0 rfl) ?_
              refine lv_iload_n hx hb dX12_secret_65 rfl (lv_at hl 4 rfl) ?_
              refine lv_icmp_ge (tgt := 94) hx hb dX12_secret_66 (by decide) (fun _ => ?_) (fun c9 => absurd c9 (by decide +kernel))
              refine lv_iconst (v := 0) hx hb dX12_secret_94 (by decide) ?_
              refine lv_istore (lv' := [(4, .int 0), (0, .ref h0), (1, .int 0), (2, .int p2), (3, .int 3)]) hx hb dX12_secret_95 hl (by decide) rfl ?_
              clear hl
              clear ls
              intro ls hl
              refine lv_iconst (v := 0) hx hb dX12_secret_97 (by decide) ?_
              refine lv_istore (lv' := [(5, .int 0), (4, .int 0), (0, .ref h0), (1, .int 0), (2, .int p2), (3, .int 3)]) hx hb dX12_secret_98 hl (by decide) rfl ?_
              clear hl
              clear ls
              intro ls hl
              refine lv_iload hx hb dX12_secret_100 (lv_at hl 0 rfl) ?_
              refine lv_iconst (v := 3) hx hb dX12_secret_102 (by decide) ?_
              refine lv_icmp_ge (tgt := 132) hx hb dX12_secret_103 (by decide) (fun c9 => absurd c9 (by decide +kernel)) (fun _ => ?_)
              refine lv_iload hx hb dX12_secret_106 (lv_at hl 1 rfl) ?_
              refine lv_aload_n hx hb dX12_secret_108 rfl (lv_at hl 2 rfl) ?_
              refine gm_get (D := D) (ci := 12) (v := .ref h57) (C := RX12) (T := TX12) (N := 83) hx hb hg inlX12 hown hK.1 hP 0 rfl rfl 53 (by decide) tX12_53 (hg _ gw_207) rfl dX12_secret_109 ?_
              refine lv_iload hx hb dX12_secret_112 (lv_at hl 0 rfl) ?_
              refine va_iald hx hb hK.1 hP 1 0 rfl rfl (by unfold vp_in; decide +kernel) dX12_secret_114 ?_
              refine g_fi (v := 3) (by rfl) ?_
              refine lv_if_le (tgt := 122) hx hb dX12_secret_115 (by decide) (fun c9 => absurd c9 (by decide +kernel)) (fun _ => ?_)
              refine lv_iconst (v := 1) hx hb dX12_secret_118 (by decide) ?_
              refine lv_goto (tgt := 123) hx hb dX12_secret_119 (by decide) ?_
              refine lv_iadd hx hb dX12_secret_123 ?_
              refine g_fi (v := 1) (by decide +kernel) ?_
              refine lv_istore (lv' := [(4, .int 1), (5, .int 0), (0, .ref h0), (1, .int 0), (2, .int p2), (3, .int 3)]) hx hb dX12_secret_124 hl (by decide) rfl ?_
              clear hl
              clear ls
              intro ls hl
              refine lv_iinc (v := 1) (lv' := [(5, .int 1), (4, .int 1), (0, .ref h0), (1, .int 0), (2, .int p2), (3, .int 3)]) hx hb dX12_secret_126 hl (k := 1) rfl (by decide +kernel) (by decide) rfl ?_
              clear hl
              clear ls
              intro ls hl
              refine lv_goto (tgt := 100) hx hb dX12_secret_129 (by decide) ?_
              refine lv_iload hx hb dX12_secret_100 (lv_at hl 0 rfl) ?_
              refine lv_iconst (v := 3) hx hb dX12_secret_102 (by decide) ?_
              refine lv_icmp_ge (tgt := 132) hx hb dX12_secret_103 (by decide) (fun c9 => absurd c9 (by decide +kernel)) (fun _ => ?_)
              refine lv_iload hx hb dX12_secret_106 (lv_at hl 1 rfl) ?_
              refine lv_aload_n hx hb dX12_secret_108 rfl (lv_at hl 2 rfl) ?_
              refine gm_get (D := D) (ci := 12) (v := .ref h57) (C := RX12) (T := TX12) (N := 83) hx hb hg inlX12 hown hK.1 hP 0 rfl rfl 53 (by decide) tX12_53 (hg _ gw_207) rfl dX12_secret_109 ?_
              refine lv_iload hx hb dX12_secret_112 (lv_at hl 0 rfl) ?_
              refine va_iald hx hb hK.1 hP 1 0 rfl rfl (by unfold vp_in; decide +kernel) dX12_secret_114 ?_
              refine g_fi (v := 0) (by rfl) ?_
              refine lv_if_le (tgt := 122) hx hb dX12_secret_115 (by decide) (fun _ => ?_) (fun c9 => absurd c9 (by decide +kernel))
              refine lv_iconst (v := 0) hx hb dX12_secret_122 (by decide) ?_
              refine lv_iadd hx hb dX12_secret_123 ?_
              refine g_fi (v := 1) (by decide +kernel) ?_
              refine lv_istore (lv' := [(4, .int 1), (5, .int 1), (0, .ref h0), (1, .int 0), (2, .int p2), (3, .int 3)]) hx hb dX12_secret_124 hl (by decide) rfl ?_
              clear hl
              clear ls
              intro ls hl
              refine lv_iinc (v := 2) (lv' := [(5, .int 2), (4, .int 1), (0, .ref h0), (1, .int 0), (2, .int p2), (3, .int 3)]) hx hb dX12_secret_126 hl (k := 1) rfl (by decide +kernel) (by decide) rfl ?_
              clear hl
              clear ls
              intro ls hl
              refine lv_goto (tgt := 100) hx hb dX12_secret_129 (by decide) ?_
              refine lv_iload hx hb dX12_secret_100 (lv_at hl 0 rfl) ?_
              refine lv_iconst (v := 3) hx hb dX12_secret_102 (by decide) ?_
              refine lv_icmp_ge (tgt := 132) hx hb dX12_secret_103 (by decide) (fun c9 => absurd c9 (by decide +kernel)) (fun _ => ?_)
              refine lv_iload hx hb dX12_secret_106 (lv_at hl 1 rfl) ?_
              refine lv_aload_n hx hb dX12_secret_108 rfl (lv_at hl 2 rfl) ?_
              refine gm_get (D := D) (ci := 12) (v := .ref h57) (C := RX12) (T := TX12) (N := 83) hx hb hg inlX12 hown hK.1 hP 0 rfl rfl 53 (by decide) tX12_53 (hg _ gw_207) rfl dX12_secret_109 ?_
              refine lv_iload hx hb dX12_secret_112 (lv_at hl 0 rfl) ?_
              refine va_iald hx hb hK.1 hP 1 0 rfl rfl (by unfold vp_in; decide +kernel) dX12_secret_114 ?_
              refine g_fi (v := 0) (by rfl) ?_
              refine lv_if_le (tgt := 122) hx hb dX12_secret_115 (by decide) (fun _ => ?_) (fun c9 => absurd c9 (by decide +kernel))
              refine lv_iconst (v := 0) hx hb dX12_secret_122 (by decide) ?_
              refine lv_iadd hx hb dX12_secret_123 ?_
              refine g_fi (v := 1) (by decide +kernel) ?_
              refine lv_istore (lv' := [(4, .int 1), (5, .int 2), (0, .ref h0), (1, .int 0), (2, .int p2), (3, .int 3)]) hx hb dX12_secret_124 hl (by decide) rfl ?_
              clear hl
              clear ls
              intro ls hl
              refine lv_iinc (v := 3) (lv' := [(5, .int 3), (4, .int 1), (0, .ref h0), (1, .int 0), (2, .int p2), (3, .int 3)]) hx hb dX12_secret_126 hl (k := 1) rfl (by decide +kernel) (by decide) rfl ?_
              clear hl
              clear ls
              intro ls hl
              refine lv_goto (tgt := 100) hx hb dX12_secret_129 (by decide) ?_
              refine lv_iload hx hb dX12_secret_100 (lv_at hl 0 rfl) ?_
              refine lv_iconst (v := 3) hx hb dX12_secret_102 (by decide) ?_
              refine lv_icmp_ge (tgt := 132) hx hb dX12_secret_103 (by decide) (fun _ => ?_) (fun c9 => absurd c9 (by decide +kernel))
              refine lv_iload hx hb dX12_secret_132 (lv_at hl 1 rfl) ?_
              exact g_iret hx hb hr hlocks ⟨0, (upd (fun _ => 0) ((0 : Int32).toNatClampNeg) 3), fn22125⟩ hP hD hS rfl (Or.inr (Or.inr (Or.inr (Or.inr (Or.inr (Or.inr (Or.inr (Or.inr (Or.inr (Or.inl ⟨rfl, rfl, rfl, (by first | omega | (simp_all; done)), (by first | omega | (simp_all; done)), (by first | omega | (simp_all; done)), (by first | omega | (simp_all; done)), (by first | omega | (simp_all; done)), (by first | omega | (simp_all; done))⟩)))))))))) (Nat.le_of_ble_eq_true rfl) (Nat.le_of_ble_eq_true rfl) dX12_secret_134
            ·
              refine lv_aload_n hx hb dX12_secret_53 rfl (lv_at hl 0 rfl) ?_
              refine gm_get (D := D) (ci := 12) (v := .ref h57) (C := RX12) (T := TX12) (N := 83) hx hb hg inlX12 hown hK.1 hP 0 rfl rfl 53 (by decide) tX12_53 (hg _ gw_207) rfl dX12_secret_54 ?_
              refine lv_iload_n hx hb dX12_secret_57 rfl (lv_at hl 1 rfl) ?_
              refine lv_iload_n hx hb dX12_secret_58 rfl (lv_at hl 3 rfl) ?_
              refine va_iast hx hb hK.1 hP hD hS 1 0 rfl rfl (by unfold vp_in; decide +kernel) dX12_secret_59 ?_
              clear hP hD hS H locs
              refine fun H locs (hP : va_P D vwCl [(h0, .inr (12, (.ref h4 :: .int wp22065 :: .int wp22066 :: .ref h7 :: .ref h8 :: .ref h9 :: .ref h10 :: .ref h11 :: .ref h12 :: .ref h13 :: .ref h14 :: .ref h15 :: .int wp22067 :: .ref h17 :: .int wp22068 :: .ref h19 :: .int wp22069 :: .ref h21 :: .ref h22 :: .ref h23 :: .ref h24 :: .ref h25 :: .ref h26 :: .ref h27 :: .ref h28 :: .ref h29 :: .ref h30 :: .ref h31 :: .int wp22070 :: .ref h33 :: .ref h34 :: .ref h35 :: .int wp22071 :: [.ref h37, .ref h38, .ref h39, .ref h40, .ref h41, .ref h42, .ref h43, .ref h44, .ref h45, .ref h46, .ref h47, .ref h48, .ref h49, .ref h50, .ref h51, .int wp22072, .int wp22073, .int wp22074, .int wp22075, .int wp22076, .ref h57, .ref h58, .int wp22077, .ref h60, .int 0, .ref h61, .int wp22078, .ref h63, .ref h64, .int wp22079, .ref h66, .ref h67, .int wp22080, .ref h69, .ref h70, .ref h71, .ref h72, .int wp22081, .int wp22082, .int wp22083, .int wp22084, .ref h77, .ref h78, .ref h79, .ref h80, .ref h81, .ref h82, .ref h83, .ref h84, .ref h85]))), (h57, .inl (y 0, 3, .inl (upd (fun _ => 0) ((1 : Int32).toNatClampNeg) 3))), (h58, .inl (y 0, 18, .inl wf22085))] H) (hD : va_D A [(h0, .inr (12, (.ref h4 :: .int wp22065 :: .int wp22066 :: .ref h7 :: .ref h8 :: .ref h9 :: .ref h10 :: .ref h11 :: .ref h12 :: .ref h13 :: .ref h14 :: .ref h15 :: .int wp22067 :: .ref h17 :: .int wp22068 :: .ref h19 :: .int wp22069 :: .ref h21 :: .ref h22 :: .ref h23 :: .ref h24 :: .ref h25 :: .ref h26 :: .ref h27 :: .ref h28 :: .ref h29 :: .ref h30 :: .ref h31 :: .int wp22070 :: .ref h33 :: .ref h34 :: .ref h35 :: .int wp22071 :: [.ref h37, .ref h38, .ref h39, .ref h40, .ref h41, .ref h42, .ref h43, .ref h44, .ref h45, .ref h46, .ref h47, .ref h48, .ref h49, .ref h50, .ref h51, .int wp22072, .int wp22073, .int wp22074, .int wp22075, .int wp22076, .ref h57, .ref h58, .int wp22077, .ref h60, .int 0, .ref h61, .int wp22078, .ref h63, .ref h64, .int wp22079, .ref h66, .ref h67, .int wp22080, .ref h69, .ref h70, .ref h71, .ref h72, .int wp22081, .int wp22082, .int wp22083, .int wp22084, .ref h77, .ref h78, .ref h79, .ref h80, .ref h81, .ref h82, .ref h83, .ref h84, .ref h85]))), (h57, .inl (y 0, 3, .inl (upd (fun _ => 0) ((1 : Int32).toNatClampNeg) 3))), (h58, .inl (y 0, 18, .inl wf22085))]) hS => ?_
              refine lv_iconst (v := 0) hx hb dX12_secret_60 (by decide) ?_
              refine lv_istore (lv' := [(4, .int 0), (0, .ref h0), (1, .int 1), (2, .int p2), (3, .int 3)]) hx hb dX12_secret_61 hl (by decide) rfl ?_
              clear hl
              clear ls
              intro ls hl
              refine lv_iload hx hb dX12_secret_63 (lv_at hl 0 rfl) ?_
              refine lv_iload_n hx hb dX12_secret_65 rfl (lv_at hl 4 rfl) ?_
              refine lv_icmp_ge (tgt := 94) hx hb dX12_secret_66 (by decide) (fun c9 => absurd c9 (by decide +kernel)) (fun _ => ?_)
              refine lv_aload_n hx hb dX12_secret_69 rfl (lv_at hl 1 rfl) ?_
              refine gm_get (D := D) (ci := 12) (v := .ref h58) (C := RX12) (T := TX12) (N := 83) hx hb hg inlX12 hown hK.1 hP 0 rfl rfl 54 (by decide) tX12_54 (hg _ gw_208) rfl dX12_secret_70 ?_
              refine lv_bipush (v := 6) hx hb dX12_secret_73 (by decide +kernel) ?_
              refine lv_iload_n hx hb dX12_secret_75 rfl (lv_at hl 2 rfl) ?_
              refine lv_imul hx hb dX12_secret_76 ?_
              refine g_fi (v := 6) (by decide +kernel) ?_
              refine lv_iload hx hb dX12_secret_77 (lv_at hl 0 rfl) ?_
              refine lv_iadd hx hb dX12_secret_79 ?_
              refine g_fi (v := 6) (by decide +kernel) ?_
              refine lv_iload_n hx hb dX12_secret_80 rfl (lv_at hl 3 rfl) ?_
              refine lv_iload_n hx hb dX12_secret_81 rfl (lv_at hl 4 rfl) ?_
              refine lv_iload hx hb dX12_secret_82 (lv_at hl 0 rfl) ?_
              refine g_ai (wr := [(h0, .inr (12, (.ref h4 :: .int wp22065 :: .int wp22066 :: .ref h7 :: .ref h8 :: .ref h9 :: .ref h10 :: .ref h11 :: .ref h12 :: .ref h13 :: .ref h14 :: .ref h15 :: .int wp22067 :: .ref h17 :: .int wp22068 :: .ref h19 :: .int wp22069 :: .ref h21 :: .ref h22 :: .ref h23 :: .ref h24 :: .ref h25 :: .ref h26 :: .ref h27 :: .ref h28 :: .ref h29 :: .ref h30 :: .ref h31 :: .int wp22070 :: .ref h33 :: .ref h34 :: .ref h35 :: .int wp22071 :: [.ref h37, .ref h38, .ref h39, .ref h40, .ref h41, .ref h42, .ref h43, .ref h44, .ref h45, .ref h46, .ref h47, .ref h48, .ref h49, .ref h50, .ref h51, .int wp22072, .int wp22073, .int wp22074, .int wp22075, .int wp22076, .ref h57, .ref h58, .int wp22077, .ref h60, .int 0, .ref h61, .int wp22078, .ref h63, .ref h64, .int wp22079, .ref h66, .ref h67, .int wp22080, .ref h69, .ref h70, .ref h71, .ref h72, .int wp22081, .int wp22082, .int wp22083, .int wp22084, .ref h77, .ref h78, .ref h79, .ref h80, .ref h81, .ref h82, .ref h83, .ref h84, .ref h85]))), (h57, .inl (y 0, 3, .inl (upd (fun _ => 0) ((1 : Int32).toNatClampNeg) 3))), (h58, .inl (y 0, 18, .inl wf22085))]) (va_runS (As := [.int p2, .int 3, .int 0]) (rest := [.int 6, .ref h58]) ⟨hx, hb, hml, hown, hg⟩ (k_X12_digitOf_2 l D y aS H.size p2) (va_cwS 3 hg ggS_RX12_484_X12_digitOf rfl rfl rfl (by decide +kernel) ⟨Nat.le_of_ble_eq_true rfl, Nat.le_of_ble_eq_true rfl⟩) (g_preS hK hP hD [] rfl (by decide)) rfl rfl hl.1 rfl (lv_room (Nat.le_of_ble_eq_true rfl)) dX12_secret_84 ⟨Nat.le_of_ble_eq_true rfl, Nat.le_of_ble_eq_true rfl⟩) hP hD hS hA [] [0, 1, 2] rfl rfl (by decide) (by decide) ?_
              clear hP hD hS H locs
              refine fun r22126 u H locs hq hP hD hS => ?_
              subst hq
              replace hP : va_P D vwCl [(h0, .inr (12, (.ref h4 :: .int wp22065 :: .int wp22066 :: .ref h7 :: .ref h8 :: .ref h9 :: .ref h10 :: .ref h11 :: .ref h12 :: .ref h13 :: .ref h14 :: .ref h15 :: .int wp22067 :: .ref h17 :: .int wp22068 :: .ref h19 :: .int wp22069 :: .ref h21 :: .ref h22 :: .ref h23 :: .ref h24 :: .ref h25 :: .ref h26 :: .ref h27 :: .ref h28 :: .ref h29 :: .ref h30 :: .ref h31 :: .int wp22070 :: .ref h33 :: .ref h34 :: .ref h35 :: .int wp22071 :: [.ref h37, .ref h38, .ref h39, .ref h40, .ref h41, .ref h42, .ref h43, .ref h44, .ref h45, .ref h46, .ref h47, .ref h48, .ref h49, .ref h50, .ref h51, .int wp22072, .int wp22073, .int wp22074, .int wp22075, .int wp22076, .ref h57, .ref h58, .int wp22077, .ref h60, .int 0, .ref h61, .int wp22078, .ref h63, .ref h64, .int wp22079, .ref h66, .ref h67, .int wp22080, .ref h69, .ref h70, .ref h71, .ref h72, .int wp22081, .int wp22082, .int wp22083, .int wp22084, .ref h77, .ref h78, .ref h79, .ref h80, .ref h81, .ref h82, .ref h83, .ref h84, .ref h85]))), (h57, .inl (y 0, 3, .inl (upd (fun _ => 0) ((1 : Int32).toNatClampNeg) 3))), (h58, .inl (y 0, 18, .inl wf22085))] H := hP
              replace hD : va_D A [(h0, .inr (12, (.ref h4 :: .int wp22065 :: .int wp22066 :: .ref h7 :: .ref h8 :: .ref h9 :: .ref h10 :: .ref h11 :: .ref h12 :: .ref h13 :: .ref h14 :: .ref h15 :: .int wp22067 :: .ref h17 :: .int wp22068 :: .ref h19 :: .int wp22069 :: .ref h21 :: .ref h22 :: .ref h23 :: .ref h24 :: .ref h25 :: .ref h26 :: .ref h27 :: .ref h28 :: .ref h29 :: .ref h30 :: .ref h31 :: .int wp22070 :: .ref h33 :: .ref h34 :: .ref h35 :: .int wp22071 :: [.ref h37, .ref h38, .ref h39, .ref h40, .ref h41, .ref h42, .ref h43, .ref h44, .ref h45, .ref h46, .ref h47, .ref h48, .ref h49, .ref h50, .ref h51, .int wp22072, .int wp22073, .int wp22074, .int wp22075, .int wp22076, .ref h57, .ref h58, .int wp22077, .ref h60, .int 0, .ref h61, .int wp22078, .ref h63, .ref h64, .int wp22079, .ref h66, .ref h67, .int wp22080, .ref h69, .ref h70, .ref h71, .ref h72, .int wp22081, .int wp22082, .int wp22083, .int wp22084, .ref h77, .ref h78, .ref h79, .ref h80, .ref h81, .ref h82, .ref h83, .ref h84, .ref h85]))), (h57, .inl (y 0, 3, .inl (upd (fun _ => 0) ((1 : Int32).toNatClampNeg) 3))), (h58, .inl (y 0, 18, .inl wf22085))] := hD
              refine va_iast hx hb hK.1 hP hD hS 2 0 rfl rfl (by unfold vp_in; decide +kernel) dX12_secret_87 ?_
              clear hP hD hS H locs
              refine fun H locs (hP : va_P D vwCl [(h0, .inr (12, (.ref h4 :: .int wp22065 :: .int wp22066 :: .ref h7 :: .ref h8 :: .ref h9 :: .ref h10 :: .ref h11 :: .ref h12 :: .ref h13 :: .ref h14 :: .ref h15 :: .int wp22067 :: .ref h17 :: .int wp22068 :: .ref h19 :: .int wp22069 :: .ref h21 :: .ref h22 :: .ref h23 :: .ref h24 :: .ref h25 :: .ref h26 :: .ref h27 :: .ref h28 :: .ref h29 :: .ref h30 :: .ref h31 :: .int wp22070 :: .ref h33 :: .ref h34 :: .ref h35 :: .int wp22071 :: [.ref h37, .ref h38, .ref h39, .ref h40, .ref h41, .ref h42, .ref h43, .ref h44, .ref h45, .ref h46, .ref h47, .ref h48, .ref h49, .ref h50, .ref h51, .int wp22072, .int wp22073, .int wp22074, .int wp22075, .int wp22076, .ref h57, .ref h58, .int wp22077, .ref h60, .int 0, .ref h61, .int wp22078, .ref h63, .ref h64, .int wp22079, .ref h66, .ref h67, .int wp22080, .ref h69, .ref h70, .ref h71, .ref h72, .int wp22081, .int wp22082, .int wp22083, .int wp22084, .ref h77, .ref h78, .ref h79, .ref h80, .ref h81, .ref h82, .ref h83, .ref h84, .ref h85]))), (h57, .inl (y 0, 3, .inl (upd (fun _ => 0) ((1 : Int32).toNatClampNeg) 3))), (h58, .inl (y 0, 18, .inl (upd wf22085 ((6 : Int32).toNatClampNeg) ((p2 / 100) - (p2 / 100) / 10 * 10))))] H) (hD : va_D A [(h0, .inr (12, (.ref h4 :: .int wp22065 :: .int wp22066 :: .ref h7 :: .ref h8 :: .ref h9 :: .ref h10 :: .ref h11 :: .ref h12 :: .ref h13 :: .ref h14 :: .ref h15 :: .int wp22067 :: .ref h17 :: .int wp22068 :: .ref h19 :: .int wp22069 :: .ref h21 :: .ref h22 :: .ref h23 :: .ref h24 :: .ref h25 :: .ref h26 :: .ref h27 :: .ref h28 :: .ref h29 :: .ref h30 :: .ref h31 :: .int wp22070 :: .ref h33 :: .ref h34 :: .ref h35 :: .int wp22071 :: [.ref h37, .ref h38, .ref h39, .ref h40, .ref h41, .ref h42, .ref h43, .ref h44, .ref h45, .ref h46, .ref h47, .ref h48, .ref h49, .ref h50, .ref h51, .int wp22072, .int wp22073, .int wp22074, .int wp22075, .int wp22076, .ref h57, .ref h58, .int wp22077, .ref h60, .int 0, .ref h61, .int wp22078, .ref h63, .ref h64, .int wp22079, .ref h66, .ref h67, .int wp22080, .ref h69, .ref h70, .ref h71, .ref h72, .int wp22081, .int wp22082, .int wp22083, .int wp22084, .ref h77, .ref h78, .ref h79, .ref h80, .ref h81, .ref h82, .ref h83, .ref h84, .ref h85]))), (h57, .inl (y 0, 3, .inl (upd (fun _ => 0) ((1 : Int32).toNatClampNeg) 3))), (h58, .inl (y 0, 18, .inl (upd wf22085 ((6 : Int32).toNatClampNeg) ((p2 / 100) - (p2 / 100) / 10 * 10))))]) hS => ?_
              obtain ⟨fn22127, hfn22127⟩ : ∃ f9 : Nat → Int32, f9 = (upd wf22085 ((6 : Int32).toNatClampNeg) ((p2 / 100) - (p2 / 100) / 10 * 10)) := ⟨_, rfl⟩
              rw [← hfn22127] at hP hD
              clear hfn22127
              refine lv_iinc (v := 1) (lv' := [(4, .int 1), (0, .ref h0), (1, .int 1), (2, .int p2), (3, .int 3)]) hx hb dX12_secret_88 hl (k := 0) rfl (by decide +kernel) (by decide) rfl ?_
              clear hl
              clear ls
              intro ls hl
              refine lv_goto (tgt := 63) hx hb dX12_secret_91 (by decide) ?_
              refine lv_iload hx hb dX12_secret_63 (lv_at hl 0 rfl) ?_
              refine lv_iload_n hx hb dX12_secret_65 rfl (lv_at hl 4 rfl) ?_
              refine lv_icmp_ge (tgt := 94) hx hb dX12_secret_66 (by decide) (fun c9 => absurd c9 (by decide +kernel)) (fun _ => ?_)
              refine lv_aload_n hx hb dX12_secret_69 rfl (lv_at hl 1 rfl) ?_
              refine gm_get (D := D) (ci := 12) (v := .ref h58) (C := RX12) (T := TX12) (N := 83) hx hb hg inlX12 hown hK.1 hP 0 rfl rfl 54 (by decide) tX12_54 (hg _ gw_208) rfl dX12_secret_70 ?_
              refine lv_bipush (v := 6) hx hb dX12_secret_73 (by decide +kernel) ?_
              refine lv_iload_n hx hb dX12_secret_75 rfl (lv_at hl 2 rfl) ?_
              refine lv_imul hx hb dX12_secret_76 ?_
              refine g_fi (v := 6) (by decide +kernel) ?_
              refine lv_iload hx hb dX12_secret_77 (lv_at hl 0 rfl) ?_
              refine lv_iadd hx hb dX12_secret_79 ?_
              refine g_fi (v := 7) (by decide +kernel) ?_
              refine lv_iload_n hx hb dX12_secret_80 rfl (lv_at hl 3 rfl) ?_
              refine lv_iload_n hx hb dX12_secret_81 rfl (lv_at hl 4 rfl) ?_
              refine lv_iload hx hb dX12_secret_82 (lv_at hl 0 rfl) ?_
              refine g_ai (wr := [(h0, .inr (12, (.ref h4 :: .int wp22065 :: .int wp22066 :: .ref h7 :: .ref h8 :: .ref h9 :: .ref h10 :: .ref h11 :: .ref h12 :: .ref h13 :: .ref h14 :: .ref h15 :: .int wp22067 :: .ref h17 :: .int wp22068 :: .ref h19 :: .int wp22069 :: .ref h21 :: .ref h22 :: .ref h23 :: .ref h24 :: .ref h25 :: .ref h26 :: .ref h27 :: .ref h28 :: .ref h29 :: .ref h30 :: .ref h31 :: .int wp22070 :: .ref h33 :: .ref h34 :: .ref h35 :: .int wp22071 :: [.ref h37, .ref h38, .ref h39, .ref h40, .ref h41, .ref h42, .ref h43, .ref h44, .ref h45, .ref h46, .ref h47, .ref h48, .ref h49, .ref h50, .ref h51, .int wp22072, .int wp22073, .int wp22074, .int wp22075, .int wp22076, .ref h57, .ref h58, .int wp22077, .ref h60, .int 0, .ref h61, .int wp22078, .ref h63, .ref h64, .int wp22079, .ref h66, .ref h67, .int wp22080, .ref h69, .ref h70, .ref h71, .ref h72, .int wp22081, .int wp22082, .int wp22083, .int wp22084, .ref h77, .ref h78, .ref h79, .ref h80, .ref h81, .ref h82, .ref h83, .ref h84, .ref h85]))), (h57, .inl (y 0, 3, .inl (upd (fun _ => 0) ((1 : Int32).toNatClampNeg) 3))), (h58, .inl (y 0, 18, .inl fn22127))]) (va_runS (As := [.int p2, .int 3, .int 1]) (rest := [.int 7, .ref h58]) ⟨hx, hb, hml, hown, hg⟩ (k_X12_digitOf_3 l D y aS H.size p2) (va_cwS 3 hg ggS_RX12_484_X12_digitOf rfl rfl rfl (by decide +kernel) ⟨Nat.le_of_ble_eq_true rfl, Nat.le_of_ble_eq_true rfl⟩) (g_preS hK hP hD [] rfl (by decide)) rfl rfl hl.1 rfl (lv_room (Nat.le_of_ble_eq_true rfl)) dX12_secret_84 ⟨Nat.le_of_ble_eq_true rfl, Nat.le_of_ble_eq_true rfl⟩) hP hD hS hA [] [0, 1, 2] rfl rfl (by decide) (by decide) ?_
              clear hP hD hS H locs
              refine fun r22128 u H locs hq hP hD hS => ?_
              subst hq
              replace hP : va_P D vwCl [(h0, .inr (12, (.ref h4 :: .int wp22065 :: .int wp22066 :: .ref h7 :: .ref h8 :: .ref h9 :: .ref h10 :: .ref h11 :: .ref h12 :: .ref h13 :: .ref h14 :: .ref h15 :: .int wp22067 :: .ref h17 :: .int wp22068 :: .ref h19 :: .int wp22069 :: .ref h21 :: .ref h22 :: .ref h23 :: .ref h24 :: .ref h25 :: .ref h26 :: .ref h27 :: .ref h28 :: .ref h29 :: .ref h30 :: .ref h31 :: .int wp22070 :: .ref h33 :: .ref h34 :: .ref h35 :: .int wp22071 :: [.ref h37, .ref h38, .ref h39, .ref h40, .ref h41, .ref h42, .ref h43, .ref h44, .ref h45, .ref h46, .ref h47, .ref h48, .ref h49, .ref h50, .ref h51, .int wp22072, .int wp22073, .int wp22074, .int wp22075, .int wp22076, .ref h57, .ref h58, .int wp22077, .ref h60, .int 0, .ref h61, .int wp22078, .ref h63, .ref h64, .int wp22079, .ref h66, .ref h67, .int wp22080, .ref h69, .ref h70, .ref h71, .ref h72, .int wp22081, .int wp22082, .int wp22083, .int wp22084, .ref h77, .ref h78, .ref h79, .ref h80, .ref h81, .ref h82, .ref h83, .ref h84, .ref h85]))), (h57, .inl (y 0, 3, .inl (upd (fun _ => 0) ((1 : Int32).toNatClampNeg) 3))), (h58, .inl (y 0, 18, .inl fn22127))] H := hP
              replace hD : va_D A [(h0, .inr (12, (.ref h4 :: .int wp22065 :: .int wp22066 :: .ref h7 :: .ref h8 :: .ref h9 :: .ref h10 :: .ref h11 :: .ref h12 :: .ref h13 :: .ref h14 :: .ref h15 :: .int wp22067 :: .ref h17 :: .int wp22068 :: .ref h19 :: .int wp22069 :: .ref h21 :: .ref h22 :: .ref h23 :: .ref h24 :: .ref h25 :: .ref h26 :: .ref h27 :: .ref h28 :: .ref h29 :: .ref h30 :: .ref h31 :: .int wp22070 :: .ref h33 :: .ref h34 :: .ref h35 :: .int wp22071 :: [.ref h37, .ref h38, .ref h39, .ref h40, .ref h41, .ref h42, .ref h43, .ref h44, .ref h45, .ref h46, .ref h47, .ref h48, .ref h49, .ref h50, .ref h51, .int wp22072, .int wp22073, .int wp22074, .int wp22075, .int wp22076, .ref h57, .ref h58, .int wp22077, .ref h60, .int 0, .ref h61, .int wp22078, .ref h63, .ref h64, .int wp22079, .ref h66, .ref h67, .int wp22080, .ref h69, .ref h70, .ref h71, .ref h72, .int wp22081, .int wp22082, .int wp22083, .int wp22084, .ref h77, .ref h78, .ref h79, .ref h80, .ref h81, .ref h82, .ref h83, .ref h84, .ref h85]))), (h57, .inl (y 0, 3, .inl (upd (fun _ => 0) ((1 : Int32).toNatClampNeg) 3))), (h58, .inl (y 0, 18, .inl fn22127))] := hD
              refine va_iast hx hb hK.1 hP hD hS 2 0 rfl rfl (by unfold vp_in; decide +kernel) dX12_secret_87 ?_
              clear hP hD hS H locs
              refine fun H locs (hP : va_P D vwCl [(h0, .inr (12, (.ref h4 :: .int wp22065 :: .int wp22066 :: .ref h7 :: .ref h8 :: .ref h9 :: .ref h10 :: .ref h11 :: .ref h12 :: .ref h13 :: .ref h14 :: .ref h15 :: .int wp22067 :: .ref h17 :: .int wp22068 :: .ref h19 :: .int wp22069 :: .ref h21 :: .ref h22 :: .ref h23 :: .ref h24 :: .ref h25 :: .ref h26 :: .ref h27 :: .ref h28 :: .ref h29 :: .ref h30 :: .ref h31 :: .int wp22070 :: .ref h33 :: .ref h34 :: .ref h35 :: .int wp22071 :: [.ref h37, .ref h38, .ref h39, .ref h40, .ref h41, .ref h42, .ref h43, .ref h44, .ref h45, .ref h46, .ref h47, .ref h48, .ref h49, .ref h50, .ref h51, .int wp22072, .int wp22073, .int wp22074, .int wp22075, .int wp22076, .ref h57, .ref h58, .int wp22077, .ref h60, .int 0, .ref h61, .int wp22078, .ref h63, .ref h64, .int wp22079, .ref h66, .ref h67, .int wp22080, .ref h69, .ref h70, .ref h71, .ref h72, .int wp22081, .int wp22082, .int wp22083, .int wp22084, .ref h77, .ref h78, .ref h79, .ref h80, .ref h81, .ref h82, .ref h83, .ref h84, .ref h85]))), (h57, .inl (y 0, 3, .inl (upd (fun _ => 0) ((1 : Int32).toNatClampNeg) 3))), (h58, .inl (y 0, 18, .inl (upd fn22127 ((7 : Int32).toNatClampNeg) ((p2 / 10) - (p2 / 10) / 10 * 10))))] H) (hD : va_D A [(h0, .inr (12, (.ref h4 :: .int wp22065 :: .int wp22066 :: .ref h7 :: .ref h8 :: .ref h9 :: .ref h10 :: .ref h11 :: .ref h12 :: .ref h13 :: .ref h14 :: .ref h15 :: .int wp22067 :: .ref h17 :: .int wp22068 :: .ref h19 :: .int wp22069 :: .ref h21 :: .ref h22 :: .ref h23 :: .ref h24 :: .ref h25 :: .ref h26 :: .ref h27 :: .ref h28 :: .ref h29 :: .ref h30 :: .ref h31 :: .int wp22070 :: .ref h33 :: .ref h34 :: .ref h35 :: .int wp22071 :: [.ref h37, .ref h38, .ref h39, .ref h40, .ref h41, .ref h42, .ref h43, .ref h44, .ref h45, .ref h46, .ref h47, .ref h48, .ref h49, .ref h50, .ref h51, .int wp22072, .int wp22073, .int wp22074, .int wp22075, .int wp22076, .ref h57, .ref h58, .int wp22077, .ref h60, .int 0, .ref h61, .int wp22078, .ref h63, .ref h64, .int wp22079, .ref h66, .ref h67, .int wp22080, .ref h69, .ref h70, .ref h71, .ref h72, .int wp22081, .int wp22082, .int wp22083, .int wp22084, .ref h77, .ref h78, .ref h79, .ref h80, .ref h81, .ref h82, .ref h83, .ref h84, .ref h85]))), (h57, .inl (y 0, 3, .inl (upd (fun _ => 0) ((1 : Int32).toNatClampNeg) 3))), (h58, .inl (y 0, 18, .inl (upd fn22127 ((7 : Int32).toNatClampNeg) ((p2 / 10) - (p2 / 10) / 10 * 10))))]) hS => ?_
              obtain ⟨fn22129, hfn22129⟩ : ∃ f9 : Nat → Int32, f9 = (upd fn22127 ((7 : Int32).toNatClampNeg) ((p2 / 10) - (p2 / 10) / 10 * 10)) := ⟨_, rfl⟩
              rw [← hfn22129] at hP hD
              clear hfn22129
              refine lv_iinc (v := 2) (lv' := [(4, .int 2), (0, .ref h0), (1, .int 1), (2, .int p2), (3, .int 3)]) hx hb dX12_secret_88 hl (k := 0) rfl (by decide +kernel) (by decide) rfl ?_
              clear hl
              clear ls
              intro ls hl
              refine lv_goto (tgt := 63) hx hb dX12_secret_91 (by decide) ?_
              refine lv_iload hx hb dX12_secret_63 (lv_at hl 0 rfl) ?_
              refine lv_iload_n hx hb dX12_secret_65 rfl (lv_at hl 4 rfl) ?_
              refine lv_icmp_ge (tgt := 94) hx hb dX12_secret_66 (by decide) (fun c9 => absurd c9 (by decide +kernel)) (fun _ => ?_)
              refine lv_aload_n hx hb dX12_secret_69 rfl (lv_at hl 1 rfl) ?_
              refine gm_get (D := D) (ci := 12) (v := .ref h58) (C := RX12) (T := TX12) (N := 83) hx hb hg inlX12 hown hK.1 hP 0 rfl rfl 54 (by decide) tX12_54 (hg _ gw_208) rfl dX12_secret_70 ?_
              refine lv_bipush (v := 6) hx hb dX12_secret_73 (by decide +kernel) ?_
              refine lv_iload_n hx hb dX12_secret_75 rfl (lv_at hl 2 rfl) ?_
              refine lv_imul hx hb dX12_secret_76 ?_
              refine g_fi (v := 6) (by decide +kernel) ?_
              refine lv_iload hx hb dX12_secret_77 (lv_at hl 0 rfl) ?_
              refine lv_iadd hx hb dX12_secret_79 ?_
              refine g_fi (v := 8) (by decide +kernel) ?_
              refine lv_iload_n hx hb dX12_secret_80 rfl (lv_at hl 3 rfl) ?_
              refine lv_iload_n hx hb dX12_secret_81 rfl (lv_at hl 4 rfl) ?_
              refine lv_iload hx hb dX12_secret_82 (lv_at hl 0 rfl) ?_
              refine g_ai (wr := [(h0, .inr (12, (.ref h4 :: .int wp22065 :: .int wp22066 :: .ref h7 :: .ref h8 :: .ref h9 :: .ref h10 :: .ref h11 :: .ref h12 :: .ref h13 :: .ref h14 :: .ref h15 :: .int wp22067 :: .ref h17 :: .int wp22068 :: .ref h19 :: .int wp22069 :: .ref h21 :: .ref h22 :: .ref h23 :: .ref h24 :: .ref h25 :: .ref h26 :: .ref h27 :: .ref h28 :: .ref h29 :: .ref h30 :: .ref h31 :: .int wp22070 :: .ref h33 :: .ref h34 :: .ref h35 :: .int wp22071 :: [.ref h37, .ref h38, .ref h39, .ref h40, .ref h41, .ref h42, .ref h43, .ref h44, .ref h45, .ref h46, .ref h47, .ref h48, .ref h49, .ref h50, .ref h51, .int wp22072, .int wp22073, .int wp22074, .int wp22075, .int wp22076, .ref h57, .ref h58, .int wp22077, .ref h60, .int 0, .ref h61, .int wp22078, .ref h63, .ref h64, .int wp22079, .ref h66, .ref h67, .int wp22080, .ref h69, .ref h70, .ref h71, .ref h72, .int wp22081, .int wp22082, .int wp22083, .int wp22084, .ref h77, .ref h78, .ref h79, .ref h80, .ref h81, .ref h82, .ref h83, .ref h84, .ref h85]))), (h57, .inl (y 0, 3, .inl (upd (fun _ => 0) ((1 : Int32).toNatClampNeg) 3))), (h58, .inl (y 0, 18, .inl fn22129))]) (va_runS (As := [.int p2, .int 3, .int 2]) (rest := [.int 8, .ref h58]) ⟨hx, hb, hml, hown, hg⟩ (k_X12_digitOf_4 l D y aS H.size p2) (va_cwS 3 hg ggS_RX12_484_X12_digitOf rfl rfl rfl (by decide +kernel) ⟨Nat.le_of_ble_eq_true rfl, Nat.le_of_ble_eq_true rfl⟩) (g_preS hK hP hD [] rfl (by decide)) rfl rfl hl.1 rfl (lv_room (Nat.le_of_ble_eq_true rfl)) dX12_secret_84 ⟨Nat.le_of_ble_eq_true rfl, Nat.le_of_ble_eq_true rfl⟩) hP hD hS hA [] [0, 1, 2] rfl rfl (by decide) (by decide) ?_
              clear hP hD hS H locs
              refine fun r22130 u H locs hq hP hD hS => ?_
              subst hq
              replace hP : va_P D vwCl [(h0, .inr (12, (.ref h4 :: .int wp22065 :: .int wp22066 :: .ref h7 :: .ref h8 :: .ref h9 :: .ref h10 :: .ref h11 :: .ref h12 :: .ref h13 :: .ref h14 :: .ref h15 :: .int wp22067 :: .ref h17 :: .int wp22068 :: .ref h19 :: .int wp22069 :: .ref h21 :: .ref h22 :: .ref h23 :: .ref h24 :: .ref h25 :: .ref h26 :: .ref h27 :: .ref h28 :: .ref h29 :: .ref h30 :: .ref h31 :: .int wp22070 :: .ref h33 :: .ref h34 :: .ref h35 :: .int wp22071 :: [.ref h37, .ref h38, .ref h39, .ref h40, .ref h41, .ref h42, .ref h43, .ref h44, .ref h45, .ref h46, .ref h47, .ref h48, .ref h49, .ref h50, .ref h51, .int wp22072, .int wp22073, .int wp22074, .int wp22075, .int wp22076, .ref h57, .ref h58, .int wp22077, .ref h60, .int 0, .ref h61, .int wp22078, .ref h63, .ref h64, .int wp22079, .ref h66, .ref h67, .int wp22080, .ref h69, .ref h70, .ref h71, .ref h72, .int wp22081, .int wp22082, .int wp22083, .int wp22084, .ref h77, .ref h78, .ref h79, .ref h80, .ref h81, .ref h82, .ref h83, .ref h84, .ref h85]))), (h57, .inl (y 0, 3, .inl (upd (fun _ => 0) ((1 : Int32).toNatClampNeg) 3))), (h58, .inl (y 0, 18, .inl fn22129))] H := hP
              replace hD : va_D A [(h0, .inr (12, (.ref h4 :: .int wp22065 :: .int wp22066 :: .ref h7 :: .ref h8 :: .ref h9 :: .ref h10 :: .ref h11 :: .ref h12 :: .ref h13 :: .ref h14 :: .ref h15 :: .int wp22067 :: .ref h17 :: .int wp22068 :: .ref h19 :: .int wp22069 :: .ref h21 :: .ref h22 :: .ref h23 :: .ref h24 :: .ref h25 :: .ref h26 :: .ref h27 :: .ref h28 :: .ref h29 :: .ref h30 :: .ref h31 :: .int wp22070 :: .ref h33 :: .ref h34 :: .ref h35 :: .int wp22071 :: [.ref h37, .ref h38, .ref h39, .ref h40, .ref h41, .ref h42, .ref h43, .ref h44, .ref h45, .ref h46, .ref h47, .ref h48, .ref h49, .ref h50, .ref h51, .int wp22072, .int wp22073, .int wp22074, .int wp22075, .int wp22076, .ref h57, .ref h58, .int wp22077, .ref h60, .int 0, .ref h61, .int wp22078, .ref h63, .ref h64, .int wp22079, .ref h66, .ref h67, .int wp22080, .ref h69, .ref h70, .ref h71, .ref h72, .int wp22081, .int wp22082, .int wp22083, .int wp22084, .ref h77, .ref h78, .ref h79, .ref h80, .ref h81, .ref h82, .ref h83, .ref h84, .ref h85]))), (h57, .inl (y 0, 3, .inl (upd (fun _ => 0) ((1 : Int32).toNatClampNeg) 3))), (h58, .inl (y 0, 18, .inl fn22129))] := hD
              refine va_iast hx hb hK.1 hP hD hS 2 0 rfl rfl (by unfold vp_in; decide +kernel) dX12_secret_87 ?_
              clear hP hD hS H locs
              refine fun H locs (hP : va_P D vwCl [(h0, .inr (12, (.ref h4 :: .int wp22065 :: .int wp22066 :: .ref h7 :: .ref h8 :: .ref h9 :: .ref h10 :: .ref h11 :: .ref h12 :: .ref h13 :: .ref h14 :: .ref h15 :: .int wp22067 :: .ref h17 :: .int wp22068 :: .ref h19 :: .int wp22069 :: .ref h21 :: .ref h22 :: .ref h23 :: .ref h24 :: .ref h25 :: .ref h26 :: .ref h27 :: .ref h28 :: .ref h29 :: .ref h30 :: .ref h31 :: .int wp22070 :: .ref h33 :: .ref h34 :: .ref h35 :: .int wp22071 :: [.ref h37, .ref h38, .ref h39, .ref h40, .ref h41, .ref h42, .ref h43, .ref h44, .ref h45, .ref h46, .ref h47, .ref h48, .ref h49, .ref h50, .ref h51, .int wp22072, .int wp22073, .int wp22074, .int wp22075, .int wp22076, .ref h57, .ref h58, .int wp22077, .ref h60, .int 0, .ref h61, .int wp22078, .ref h63, .ref h64, .int wp22079, .ref h66, .ref h67, .int wp22080, .ref h69, .ref h70, .ref h71, .ref h72, .int wp22081, .int wp22082, .int wp22083, .int wp22084, .ref h77, .ref h78, .ref h79, .ref h80, .ref h81, .ref h82, .ref h83, .ref h84, .ref h85]))), (h57, .inl (y 0, 3, .inl (upd (fun _ => 0) ((1 : Int32).toNatClampNeg) 3))), (h58, .inl (y 0, 18, .inl (upd fn22129 ((8 : Int32).toNatClampNeg) ((p2 / 1) - (p2 / 1) / 10 * 10))))] H) (hD : va_D A [(h0, .inr (12, (.ref h4 :: .int wp22065 :: .int wp22066 :: .ref h7 :: .ref h8 :: .ref h9 :: .ref h10 :: .ref h11 :: .ref h12 :: .ref h13 :: .ref h14 :: .ref h15 :: .int wp22067 :: .ref h17 :: .int wp22068 :: .ref h19 :: .int wp22069 :: .ref h21 :: .ref h22 :: .ref h23 :: .ref h24 :: .ref h25 :: .ref h26 :: .ref h27 :: .ref h28 :: .ref h29 :: .ref h30 :: .ref h31 :: .int wp22070 :: .ref h33 :: .ref h34 :: .ref h35 :: .int wp22071 :: [.ref h37, .ref h38, .ref h39, .ref h40, .ref h41, .ref h42, .ref h43, .ref h44, .ref h45, .ref h46, .ref h47, .ref h48, .ref h49, .ref h50, .ref h51, .int wp22072, .int wp22073, .int wp22074, .int wp22075, .int wp22076, .ref h57, .ref h58, .int wp22077, .ref h60, .int 0, .ref h61, .int wp22078, .ref h63, .ref h64, .int wp22079, .ref h66, .ref h67, .int wp22080, .ref h69, .ref h70, .ref h71, .ref h72, .int wp22081, .int wp22082, .int wp22083, .int wp22084, .ref h77, .ref h78, .ref h79, .ref h80, .ref h81, .ref h82, .ref h83, .ref h84, .ref h85]))), (h57, .inl (y 0, 3, .inl (upd (fun _ => 0) ((1 : Int32).toNatClampNeg) 3))), (h58, .inl (y 0, 18, .inl (upd fn22129 ((8 : Int32).toNatClampNeg) ((p2 / 1) - (p2 / 1) / 10 * 10))))]) hS => ?_
              obtain ⟨fn22131, hfn22131⟩ : ∃ f9 : Nat → Int32, f9 = (upd fn22129 ((8 : Int32).toNatClampNeg) ((p2 / 1) - (p2 / 1) / 10 * 10)) := ⟨_, rfl⟩
              rw [← hfn22131] at hP hD
              clear hfn22131
              refine lv_iinc (v := 3) (lv' := [(4, .int 3), (0, .ref h0), (1, .int 1), (2, .int p2), (3, .int 3)]) hx hb dX12_secret_88 hl (k := 0) rfl (by decide +kernel) (by decide) rfl ?_
              clear hl
              clear ls
              intro ls hl
              refine lv_goto (tgt := 63) hx hb dX12_secret_91 (by decide) ?_
              refine lv_iload hx hb dX12_secret_63 (lv_at hl 0 rfl) ?_
              refine lv_iload_n hx hb dX12_secret_65 rfl (lv_at hl 4 rfl) ?_
              refine lv_icmp_ge (tgt := 94) hx hb dX12_secret_66 (by decide) (fun _ => ?_) (fun c9 => absurd c9 (by decide +kernel))
              refine lv_iconst (v := 0) hx hb dX12_secret_94 (by decide) ?_
              refine lv_istore (lv' := [(4, .int 0), (0, .ref h0), (1, .int 1), (2, .int p2), (3, .int 3)]) hx hb dX12_secret_95 hl (by decide) rfl ?_
              clear hl
              clear ls
              intro ls hl
              refine lv_iconst (v := 0) hx hb dX12_secret_97 (by decide) ?_
              refine lv_istore (lv' := [(5, .int 0), (4, .int 0), (0, .ref h0), (1, .int 1), (2, .int p2), (3, .int 3)]) hx hb dX12_secret_98 hl (by decide) rfl ?_
              clear hl
              clear ls
              intro ls hl
              refine lv_iload hx hb dX12_secret_100 (lv_at hl 0 rfl) ?_
              refine lv_iconst (v := 3) hx hb dX12_secret_102 (by decide) ?_
              refine lv_icmp_ge (tgt := 132) hx hb dX12_secret_103 (by decide) (fun c9 => absurd c9 (by decide +kernel)) (fun _ => ?_)
              refine lv_iload hx hb dX12_secret_106 (lv_at hl 1 rfl) ?_
              refine lv_aload_n hx hb dX12_secret_108 rfl (lv_at hl 2 rfl) ?_
              refine gm_get (D := D) (ci := 12) (v := .ref h57) (C := RX12) (T := TX12) (N := 83) hx hb hg inlX12 hown hK.1 hP 0 rfl rfl 53 (by decide) tX12_53 (hg _ gw_207) rfl dX12_secret_109 ?_
              refine lv_iload hx hb dX12_secret_112 (lv_at hl 0 rfl) ?_
              refine va_iald hx hb hK.1 hP 1 0 rfl rfl (by unfold vp_in; decide +kernel) dX12_secret_114 ?_
              refine g_fi (v := 0) (by rfl) ?_
              refine lv_if_le (tgt := 122) hx hb dX12_secret_115 (by decide) (fun _ => ?_) (fun c9 => absurd c9 (by decide +kernel))
              refine lv_iconst (v := 0) hx hb dX12_secret_122 (by decide) ?_
              refine lv_iadd hx hb dX12_secret_123 ?_
              refine g_fi (v := 0) (by decide +kernel) ?_
              refine lv_istore (lv' := [(4, .int 0), (5, .int 0), (0, .ref h0), (1, .int 1), (2, .int p2), (3, .int 3)]) hx hb dX12_secret_124 hl (by decide) rfl ?_
              clear hl
              clear ls
              intro ls hl
              refine lv_iinc (v := 1) (lv' := [(5, .int 1), (4, .int 0), (0, .ref h0), (1, .int 1), (2, .int p2), (3, .int 3)]) hx hb dX12_secret_126 hl (k := 1) rfl (by decide +kernel) (by decide) rfl ?_
              clear hl
              clear ls
              intro ls hl
              refine lv_goto (tgt := 100) hx hb dX12_secret_129 (by decide) ?_
              refine lv_iload hx hb dX12_secret_100 (lv_at hl 0 rfl) ?_
              refine lv_iconst (v := 3) hx hb dX12_secret_102 (by decide) ?_
              refine lv_icmp_ge (tgt := 132) hx hb dX12_secret_103 (by decide) (fun c9 => absurd c9 (by decide +kernel)) (fun _ => ?_)
              refine lv_iload hx hb dX12_secret_106 (lv_at hl 1 rfl) ?_
              refine lv_aload_n hx hb dX12_secret_108 rfl (lv_at hl 2 rfl) ?_
              refine gm_get (D := D) (ci := 12) (v := .ref h57) (C := RX12) (T := TX12) (N := 83) hx hb hg inlX12 hown hK.1 hP 0 rfl rfl 53 (by decide) tX12_53 (hg _ gw_207) rfl dX12_secret_109 ?_
              refine lv_iload hx hb dX12_secret_112 (lv_at hl 0 rfl) ?_
              refine va_iald hx hb hK.1 hP 1 0 rfl rfl (by unfold vp_in; decide +kernel) dX12_secret_114 ?_
              refine g_fi (v := 3) (by rfl) ?_
              refine lv_if_le (tgt := 122) hx hb dX12_secret_115 (by decide) (fun c9 => absurd c9 (by decide +kernel)) (fun _ => ?_)
              refine lv_iconst (v := 1) hx hb dX12_secret_118 (by decide) ?_
              refine lv_goto (tgt := 123) hx hb dX12_secret_119 (by decide) ?_
              refine lv_iadd hx hb dX12_secret_123 ?_
              refine g_fi (v := 1) (by decide +kernel) ?_
              refine lv_istore (lv' := [(4, .int 1), (5, .int 1), (0, .ref h0), (1, .int 1), (2, .int p2), (3, .int 3)]) hx hb dX12_secret_124 hl (by decide) rfl ?_
              clear hl
              clear ls
              intro ls hl
              refine lv_iinc (v := 2) (lv' := [(5, .int 2), (4, .int 1), (0, .ref h0), (1, .int 1), (2, .int p2), (3, .int 3)]) hx hb dX12_secret_126 hl (k := 1) rfl (by decide +kernel) (by decide) rfl ?_
              clear hl
              clear ls
              intro ls hl
              refine lv_goto (tgt := 100) hx hb dX12_secret_129 (by decide) ?_
              refine lv_iload hx hb dX12_secret_100 (lv_at hl 0 rfl) ?_
              refine lv_iconst (v := 3) hx hb dX12_secret_102 (by decide) ?_
              refine lv_icmp_ge (tgt := 132) hx hb dX12_secret_103 (by decide) (fun c9 => absurd c9 (by decide +kernel)) (fun _ => ?_)
              refine lv_iload hx hb dX12_secret_106 (lv_at hl 1 rfl) ?_
              refine lv_aload_n hx hb dX12_secret_108 rfl (lv_at hl 2 rfl) ?_
              refine gm_get (D := D) (ci := 12) (v := .ref h57) (C := RX12) (T := TX12) (N := 83) hx hb hg inlX12 hown hK.1 hP 0 rfl rfl 53 (by decide) tX12_53 (hg _ gw_207) rfl dX12_secret_109 ?_
              refine lv_iload hx hb dX12_secret_112 (lv_at hl 0 rfl) ?_
              refine va_iald hx hb hK.1 hP 1 0 rfl rfl (by unfold vp_in; decide +kernel) dX12_secret_114 ?_
              refine g_fi (v := 0) (by rfl) ?_
              refine lv_if_le (tgt := 122) hx hb dX12_secret_115 (by decide) (fun _ => ?_) (fun c9 => absurd c9 (by decide +kernel))
              refine lv_iconst (v := 0) hx hb dX12_secret_122 (by decide) ?_
              refine lv_iadd hx hb dX12_secret_123 ?_
              refine g_fi (v := 1) (by decide +kernel) ?_
              refine lv_istore (lv' := [(4, .int 1), (5, .int 2), (0, .ref h0), (1, .int 1), (2, .int p2), (3, .int 3)]) hx hb dX12_secret_124 hl (by decide) rfl ?_
              clear hl
              clear ls
              intro ls hl
              refine lv_iinc (v := 3) (lv' := [(5, .int 3), (4, .int 1), (0, .ref h0), (1, .int 1), (2, .int p2), (3, .int 3)]) hx hb dX12_secret_126 hl (k := 1) rfl (by decide +kernel) (by decide) rfl ?_
              clear hl
              clear ls
              intro ls hl
              refine lv_goto (tgt := 100) hx hb dX12_secret_129 (by decide) ?_
              refine lv_iload hx hb dX12_secret_100 (lv_at hl 0 rfl) ?_
              refine lv_iconst (v := 3) hx hb dX12_secret_102 (by decide) ?_
              refine lv_icmp_ge (tgt := 132) hx hb dX12_secret_103 (by decide) (fun _ => ?_) (fun c9 => absurd c9 (by decide +kernel))
              refine lv_iload hx hb dX12_secret_132 (lv_at hl 1 rfl) ?_
              exact g_iret hx hb hr hlocks ⟨0, (upd (fun _ => 0) ((1 : Int32).toNatClampNeg) 3), fn22131⟩ hP hD hS rfl (Or.inr (Or.inr (Or.inr (Or.inr (Or.inr (Or.inr (Or.inr (Or.inr (Or.inr (Or.inr (Or.inl ⟨rfl, rfl, rfl, (by first | omega | (simp_all; done)), (by first | omega | (simp_all; done)), (by first | omega | (simp_all; done)), (by first | omega | (simp_all; done)), (by first | omega | (simp_all; done)), (by first | omega | (simp_all; done))⟩))))))))))) (Nat.le_of_ble_eq_true rfl) (Nat.le_of_ble_eq_true rfl) dX12_secret_134
            ·
              refine lv_aload_n hx hb dX12_secret_53 rfl (lv_at hl 0 rfl) ?_
              refine gm_get (D := D) (ci := 12) (v := .ref h57) (C := RX12) (T := TX12) (N := 83) hx hb hg inlX12 hown hK.1 hP 0 rfl rfl 53 (by decide) tX12_53 (hg _ gw_207) rfl dX12_secret_54 ?_
              refine lv_iload_n hx hb dX12_secret_57 rfl (lv_at hl 1 rfl) ?_
              refine lv_iload_n hx hb dX12_secret_58 rfl (lv_at hl 3 rfl) ?_
              refine va_iast hx hb hK.1 hP hD hS 1 0 rfl rfl (by unfold vp_in; decide +kernel) dX12_secret_59 ?_
              clear hP hD hS H locs
              refine fun H locs (hP : va_P D vwCl [(h0, .inr (12, (.ref h4 :: .int wp22065 :: .int wp22066 :: .ref h7 :: .ref h8 :: .ref h9 :: .ref h10 :: .ref h11 :: .ref h12 :: .ref h13 :: .ref h14 :: .ref h15 :: .int wp22067 :: .ref h17 :: .int wp22068 :: .ref h19 :: .int wp22069 :: .ref h21 :: .ref h22 :: .ref h23 :: .ref h24 :: .ref h25 :: .ref h26 :: .ref h27 :: .ref h28 :: .ref h29 :: .ref h30 :: .ref h31 :: .int wp22070 :: .ref h33 :: .ref h34 :: .ref h35 :: .int wp22071 :: [.ref h37, .ref h38, .ref h39, .ref h40, .ref h41, .ref h42, .ref h43, .ref h44, .ref h45, .ref h46, .ref h47, .ref h48, .ref h49, .ref h50, .ref h51, .int wp22072, .int wp22073, .int wp22074, .int wp22075, .int wp22076, .ref h57, .ref h58, .int wp22077, .ref h60, .int 0, .ref h61, .int wp22078, .ref h63, .ref h64, .int wp22079, .ref h66, .ref h67, .int wp22080, .ref h69, .ref h70, .ref h71, .ref h72, .int wp22081, .int wp22082, .int wp22083, .int wp22084, .ref h77, .ref h78, .ref h79, .ref h80, .ref h81, .ref h82, .ref h83, .ref h84, .ref h85]))), (h57, .inl (y 0, 3, .inl (upd (fun _ => 0) ((2 : Int32).toNatClampNeg) 3))), (h58, .inl (y 0, 18, .inl wf22085))] H) (hD : va_D A [(h0, .inr (12, (.ref h4 :: .int wp22065 :: .int wp22066 :: .ref h7 :: .ref h8 :: .ref h9 :: .ref h10 :: .ref h11 :: .ref h12 :: .ref h13 :: .ref h14 :: .ref h15 :: .int wp22067 :: .ref h17 :: .int wp22068 :: .ref h19 :: .int wp22069 :: .ref h21 :: .ref h22 :: .ref h23 :: .ref h24 :: .ref h25 :: .ref h26 :: .ref h27 :: .ref h28 :: .ref h29 :: .ref h30 :: .ref h31 :: .int wp22070 :: .ref h33 :: .ref h34 :: .ref h35 :: .int wp22071 :: [.ref h37, .ref h38, .ref h39, .ref h40, .ref h41, .ref h42, .ref h43, .ref h44, .ref h45, .ref h46, .ref h47, .ref h48, .ref h49, .ref h50, .ref h51, .int wp22072, .int wp22073, .int wp22074, .int wp22075, .int wp22076, .ref h57, .ref h58, .int wp22077, .ref h60, .int 0, .ref h61, .int wp22078, .ref h63, .ref h64, .int wp22079, .ref h66, .ref h67, .int wp22080, .ref h69, .ref h70, .ref h71, .ref h72, .int wp22081, .int wp22082, .int wp22083, .int wp22084, .ref h77, .ref h78, .ref h79, .ref h80, .ref h81, .ref h82, .ref h83, .ref h84, .ref h85]))), (h57, .inl (y 0, 3, .inl (upd (fun _ => 0) ((2 : Int32).toNatClampNeg) 3))), (h58, .inl (y 0, 18, .inl wf22085))]) hS => ?_
              refine lv_iconst (v := 0) hx hb dX12_secret_60 (by decide) ?_
              refine lv_istore (lv' := [(4, .int 0), (0, .ref h0), (1, .int 2), (2, .int p2), (3, .int 3)]) hx hb dX12_secret_61 hl (by decide) rfl ?_
              clear hl
              clear ls
              intro ls hl
              refine lv_iload hx hb dX12_secret_63 (lv_at hl 0 rfl) ?_
              refine lv_iload_n hx hb dX12_secret_65 rfl (lv_at hl 4 rfl) ?_
              refine lv_icmp_ge (tgt := 94) hx hb dX12_secret_66 (by decide) (fun c9 => absurd c9 (by decide +kernel)) (fun _ => ?_)
              refine lv_aload_n hx hb dX12_secret_69 rfl (lv_at hl 1 rfl) ?_
              refine gm_get (D := D) (ci := 12) (v := .ref h58) (C := RX12) (T := TX12) (N := 83) hx hb hg inlX12 hown hK.1 hP 0 rfl rfl 54 (by decide) tX12_54 (hg _ gw_208) rfl dX12_secret_70 ?_
              refine lv_bipush (v := 6) hx hb dX12_secret_73 (by decide +kernel) ?_
              refine lv_iload_n hx hb dX12_secret_75 rfl (lv_at hl 2 rfl) ?_
              refine lv_imul hx hb dX12_secret_76 ?_
              refine g_fi (v := 12) (by decide +kernel) ?_
              refine lv_iload hx hb dX12_secret_77 (lv_at hl 0 rfl) ?_
              refine lv_iadd hx hb dX12_secret_79 ?_
              refine g_fi (v := 12) (by decide +kernel) ?_
              refine lv_iload_n hx hb dX12_secret_80 rfl (lv_at hl 3 rfl) ?_
              refine lv_iload_n hx hb dX12_secret_81 rfl (lv_at hl 4 rfl) ?_
              refine lv_iload hx hb dX12_secret_82 (lv_at hl 0 rfl) ?_
              refine g_ai (wr := [(h0, .inr (12, (.ref h4 :: .int wp22065 :: .int wp22066 :: .ref h7 :: .ref h8 :: .ref h9 :: .ref h10 :: .ref h11 :: .ref h12 :: .ref h13 :: .ref h14 :: .ref h15 :: .int wp22067 :: .ref h17 :: .int wp22068 :: .ref h19 :: .int wp22069 :: .ref h21 :: .ref h22 :: .ref h23 :: .ref h24 :: .ref h25 :: .ref h26 :: .ref h27 :: .ref h28 :: .ref h29 :: .ref h30 :: .ref h31 :: .int wp22070 :: .ref h33 :: .ref h34 :: .ref h35 :: .int wp22071 :: [.ref h37, .ref h38, .ref h39, .ref h40, .ref h41, .ref h42, .ref h43, .ref h44, .ref h45, .ref h46, .ref h47, .ref h48, .ref h49, .ref h50, .ref h51, .int wp22072, .int wp22073, .int wp22074, .int wp22075, .int wp22076, .ref h57, .ref h58, .int wp22077, .ref h60, .int 0, .ref h61, .int wp22078, .ref h63, .ref h64, .int wp22079, .ref h66, .ref h67, .int wp22080, .ref h69, .ref h70, .ref h71, .ref h72, .int wp22081, .int wp22082, .int wp22083, .int wp22084, .ref h77, .ref h78, .ref h79, .ref h80, .ref h81, .ref h82, .ref h83, .ref h84, .ref h85]))), (h57, .inl (y 0, 3, .inl (upd (fun _ => 0) ((2 : Int32).toNatClampNeg) 3))), (h58, .inl (y 0, 18, .inl wf22085))]) (va_runS (As := [.int p2, .int 3, .int 0]) (rest := [.int 12, .ref h58]) ⟨hx, hb, hml, hown, hg⟩ (k_X12_digitOf_2 l D y aS H.size p2) (va_cwS 3 hg ggS_RX12_484_X12_digitOf rfl rfl rfl (by decide +kernel) ⟨Nat.le_of_ble_eq_true rfl, Nat.le_of_ble_eq_true rfl⟩) (g_preS hK hP hD [] rfl (by decide)) rfl rfl hl.1 rfl (lv_room (Nat.le_of_ble_eq_true rfl)) dX12_secret_84 ⟨Nat.le_of_ble_eq_true rfl, Nat.le_of_ble_eq_true rfl⟩) hP hD hS hA [] [0, 1, 2] rfl rfl (by decide) (by decide) ?_
              clear hP hD hS H locs
              refine fun r22132 u H locs hq hP hD hS => ?_
              subst hq
              replace hP : va_P D vwCl [(h0, .inr (12, (.ref h4 :: .int wp22065 :: .int wp22066 :: .ref h7 :: .ref h8 :: .ref h9 :: .ref h10 :: .ref h11 :: .ref h12 :: .ref h13 :: .ref h14 :: .ref h15 :: .int wp22067 :: .ref h17 :: .int wp22068 :: .ref h19 :: .int wp22069 :: .ref h21 :: .ref h22 :: .ref h23 :: .ref h24 :: .ref h25 :: .ref h26 :: .ref h27 :: .ref h28 :: .ref h29 :: .ref h30 :: .ref h31 :: .int wp22070 :: .ref h33 :: .ref h34 :: .ref h35 :: .int wp22071 :: [.ref h37, .ref h38, .ref h39, .ref h40, .ref h41, .ref h42, .ref h43, .ref h44, .ref h45, .ref h46, .ref h47, .ref h48, .ref h49, .ref h50, .ref h51, .int wp22072, .int wp22073, .int wp22074, .int wp22075, .int wp22076, .ref h57, .ref h58, .int wp22077, .ref h60, .int 0, .ref h61, .int wp22078, .ref h63, .ref h64, .int wp22079, .ref h66, .ref h67, .int wp22080, .ref h69, .ref h70, .ref h71, .ref h72, .int wp22081, .int wp22082, .int wp22083, .int wp22084, .ref h77, .ref h78, .ref h79, .ref h80, .ref h81, .ref h82, .ref h83, .ref h84, .ref h85]))), (h57, .inl (y 0, 3, .inl (upd (fun _ => 0) ((2 : Int32).toNatClampNeg) 3))), (h58, .inl (y 0, 18, .inl wf22085))] H := hP
              replace hD : va_D A [(h0, .inr (12, (.ref h4 :: .int wp22065 :: .int wp22066 :: .ref h7 :: .ref h8 :: .ref h9 :: .ref h10 :: .ref h11 :: .ref h12 :: .ref h13 :: .ref h14 :: .ref h15 :: .int wp22067 :: .ref h17 :: .int wp22068 :: .ref h19 :: .int wp22069 :: .ref h21 :: .ref h22 :: .ref h23 :: .ref h24 :: .ref h25 :: .ref h26 :: .ref h27 :: .ref h28 :: .ref h29 :: .ref h30 :: .ref h31 :: .int wp22070 :: .ref h33 :: .ref h34 :: .ref h35 :: .int wp22071 :: [.ref h37, .ref h38, .ref h39, .ref h40, .ref h41, .ref h42, .ref h43, .ref h44, .ref h45, .ref h46, .ref h47, .ref h48, .ref h49, .ref h50, .ref h51, .int wp22072, .int wp22073, .int wp22074, .int wp22075, .int wp22076, .ref h57, .ref h58, .int wp22077, .ref h60, .int 0, .ref h61, .int wp22078, .ref h63, .ref h64, .int wp22079, .ref h66, .ref h67, .int wp22080, .ref h69, .ref h70, .ref h71, .ref h72, .int wp22081, .int wp22082, .int wp22083, .int wp22084, .ref h77, .ref h78, .ref h79, .ref h80, .ref h81, .ref h82, .ref h83, .ref h84, .ref h85]))), (h57, .inl (y 0, 3, .inl (upd (fun _ => 0) ((2 : Int32).toNatClampNeg) 3))), (h58, .inl (y 0, 18, .inl wf22085))] := hD
              refine va_iast hx hb hK.1 hP hD hS 2 0 rfl rfl (by unfold vp_in; decide +kernel) dX12_secret_87 ?_
              clear hP hD hS H locs
              refine fun H locs (hP : va_P D vwCl [(h0, .inr (12, (.ref h4 :: .int wp22065 :: .int wp22066 :: .ref h7 :: .ref h8 :: .ref h9 :: .ref h10 :: .ref h11 :: .ref h12 :: .ref h13 :: .ref h14 :: .ref h15 :: .int wp22067 :: .ref h17 :: .int wp22068 :: .ref h19 :: .int wp22069 :: .ref h21 :: .ref h22 :: .ref h23 :: .ref h24 :: .ref h25 :: .ref h26 :: .ref h27 :: .ref h28 :: .ref h29 :: .ref h30 :: .ref h31 :: .int wp22070 :: .ref h33 :: .ref h34 :: .ref h35 :: .int wp22071 :: [.ref h37, .ref h38, .ref h39, .ref h40, .ref h41, .ref h42, .ref h43, .ref h44, .ref h45, .ref h46, .ref h47, .ref h48, .ref h49, .ref h50, .ref h51, .int wp22072, .int wp22073, .int wp22074, .int wp22075, .int wp22076, .ref h57, .ref h58, .int wp22077, .ref h60, .int 0, .ref h61, .int wp22078, .ref h63, .ref h64, .int wp22079, .ref h66, .ref h67, .int wp22080, .ref h69, .ref h70, .ref h71, .ref h72, .int wp22081, .int wp22082, .int wp22083, .int wp22084, .ref h77, .ref h78, .ref h79, .ref h80, .ref h81, .ref h82, .ref h83, .ref h84, .ref h85]))), (h57, .inl (y 0, 3, .inl (upd (fun _ => 0) ((2 : Int32).toNatClampNeg) 3))), (h58, .inl (y 0, 18, .inl (upd wf22085 ((12 : Int32).toNatClampNeg) ((p2 / 100) - (p2 / 100) / 10 * 10))))] H) (hD : va_D A [(h0, .inr (12, (.ref h4 :: .int wp22065 :: .int wp22066 :: .ref h7 :: .ref h8 :: .ref h9 :: .ref h10 :: .ref h11 :: .ref h12 :: .ref h13 :: .ref h14 :: .ref h15 :: .int wp22067 :: .ref h17 :: .int wp22068 :: .ref h19 :: .int wp22069 :: .ref h21 :: .ref h22 :: .ref h23 :: .ref h24 :: .ref h25 :: .ref h26 :: .ref h27 :: .ref h28 :: .ref h29 :: .ref h30 :: .ref h31 :: .int wp22070 :: .ref h33 :: .ref h34 :: .ref h35 :: .int wp22071 :: [.ref h37, .ref h38, .ref h39, .ref h40, .ref h41, .ref h42, .ref h43, .ref h44, .ref h45, .ref h46, .ref h47, .ref h48, .ref h49, .ref h50, .ref h51, .int wp22072, .int wp22073, .int wp22074, .int wp22075, .int wp22076, .ref h57, .ref h58, .int wp22077, .ref h60, .int 0, .ref h61, .int wp22078, .ref h63, .ref h64, .int wp22079, .ref h66, .ref h67, .int wp22080, .ref h69, .ref h70, .ref h71, .ref h72, .int wp22081, .int wp22082, .int wp22083, .int wp22084, .ref h77, .ref h78, .ref h79, .ref h80, .ref h81, .ref h82, .ref h83, .ref h84, .ref h85]))), (h57, .inl (y 0, 3, .inl (upd (fun _ => 0) ((2 : Int32).toNatClampNeg) 3))), (h58, .inl (y 0, 18, .inl (upd wf22085 ((12 : Int32).toNatClampNeg) ((p2 / 100) - (p2 / 100) / 10 * 10))))]) hS => ?_
              obtain ⟨fn22133, hfn22133⟩ : ∃ f9 : Nat → Int32, f9 = (upd wf22085 ((12 : Int32).toNatClampNeg) ((p2 / 100) - (p2 / 100) / 10 * 10)) := ⟨_, rfl⟩
              rw [← hfn22133] at hP hD
              clear hfn22133
              refine lv_iinc (v := 1) (lv' := [(4, .int 1), (0, .ref h0), (1, .int 2), (2, .int p2), (3, .int 3)]) hx hb dX12_secret_88 hl (k := 0) rfl (by decide +kernel) (by decide) rfl ?_
              clear hl
              clear ls
              intro ls hl
              refine lv_goto (tgt := 63) hx hb dX12_secret_91 (by decide) ?_
              refine lv_iload hx hb dX12_secret_63 (lv_at hl 0 rfl) ?_
              refine lv_iload_n hx hb dX12_secret_65 rfl (lv_at hl 4 rfl) ?_
              refine lv_icmp_ge (tgt := 94) hx hb dX12_secret_66 (by decide) (fun c9 => absurd c9 (by decide +kernel)) (fun _ => ?_)
              refine lv_aload_n hx hb dX12_secret_69 rfl (lv_at hl 1 rfl) ?_
              refine gm_get (D := D) (ci := 12) (v := .ref h58) (C := RX12) (T := TX12) (N := 83) hx hb hg inlX12 hown hK.1 hP 0 rfl rfl 54 (by decide) tX12_54 (hg _ gw_208) rfl dX12_secret_70 ?_
              refine lv_bipush (v := 6) hx hb dX12_secret_73 (by decide +kernel) ?_
              refine lv_iload_n hx hb dX12_secret_75 rfl (lv_at hl 2 rfl) ?_
              refine lv_imul hx hb dX12_secret_76 ?_
              refine g_fi (v := 12) (by decide +kernel) ?_
              refine lv_iload hx hb dX12_secret_77 (lv_at hl 0 rfl) ?_
              refine lv_iadd hx hb dX12_secret_79 ?_
              refine g_fi (v := 13) (by decide +kernel) ?_
              refine lv_iload_n hx hb dX12_secret_80 rfl (lv_at hl 3 rfl) ?_
              refine lv_iload_n hx hb dX12_secret_81 rfl (lv_at hl 4 rfl) ?_
              refine lv_iload hx hb dX12_secret_82 (lv_at hl 0 rfl) ?_
              refine g_ai (wr := [(h0, .inr (12, (.ref h4 :: .int wp22065 :: .int wp22066 :: .ref h7 :: .ref h8 :: .ref h9 :: .ref h10 :: .ref h11 :: .ref h12 :: .ref h13 :: .ref h14 :: .ref h15 :: .int wp22067 :: .ref h17 :: .int wp22068 :: .ref h19 :: .int wp22069 :: .ref h21 :: .ref h22 :: .ref h23 :: .ref h24 :: .ref h25 :: .ref h26 :: .ref h27 :: .ref h28 :: .ref h29 :: .ref h30 :: .ref h31 :: .int wp22070 :: .ref h33 :: .ref h34 :: .ref h35 :: .int wp22071 :: [.ref h37, .ref h38, .ref h39, .ref h40, .ref h41, .ref h42, .ref h43, .ref h44, .ref h45, .ref h46, .ref h47, .ref h48, .ref h49, .ref h50, .ref h51, .int wp22072, .int wp22073, .int wp22074, .int wp22075, .int wp22076, .ref h57, .ref h58, .int wp22077, .ref h60, .int 0, .ref h61, .int wp22078, .ref h63, .ref h64, .int wp22079, .ref h66, .ref h67, .int wp22080, .ref h69, .ref h70, .ref h71, .ref h72, .int wp22081, .int wp22082, .int wp22083, .int wp22084, .ref h77, .ref h78, .ref h79, .ref h80, .ref h81, .ref h82, .ref h83, .ref h84, .ref h85]))), (h57, .inl (y 0, 3, .inl (upd (fun _ => 0) ((2 : Int32).toNatClampNeg) 3))), (h58, .inl (y 0, 18, .inl fn22133))]) (va_runS (As := [.int p2, .int 3, .int 1]) (rest := [.int 13, .ref h58]) ⟨hx, hb, hml, hown, hg⟩ (k_X12_digitOf_3 l D y aS H.size p2) (va_cwS 3 hg ggS_RX12_484_X12_digitOf rfl rfl rfl (by decide +kernel) ⟨Nat.le_of_ble_eq_true rfl, Nat.le_of_ble_eq_true rfl⟩) (g_preS hK hP hD [] rfl (by decide)) rfl rfl hl.1 rfl (lv_room (Nat.le_of_ble_eq_true rfl)) dX12_secret_84 ⟨Nat.le_of_ble_eq_true rfl, Nat.le_of_ble_eq_true rfl⟩) hP hD hS hA [] [0, 1, 2] rfl rfl (by decide) (by decide) ?_
              clear hP hD hS H locs
              refine fun r22134 u H locs hq hP hD hS => ?_
              subst hq
              replace hP : va_P D vwCl [(h0, .inr (12, (.ref h4 :: .int wp22065 :: .int wp22066 :: .ref h7 :: .ref h8 :: .ref h9 :: .ref h10 :: .ref h11 :: .ref h12 :: .ref h13 :: .ref h14 :: .ref h15 :: .int wp22067 :: .ref h17 :: .int wp22068 :: .ref h19 :: .int wp22069 :: .ref h21 :: .ref h22 :: .ref h23 :: .ref h24 :: .ref h25 :: .ref h26 :: .ref h27 :: .ref h28 :: .ref h29 :: .ref h30 :: .ref h31 :: .int wp22070 :: .ref h33 :: .ref h34 :: .ref h35 :: .int wp22071 :: [.ref h37, .ref h38, .ref h39, .ref h40, .ref h41, .ref h42, .ref h43, .ref h44, .ref h45, .ref h46, .ref h47, .ref h48, .ref h49, .ref h50, .ref h51, .int wp22072, .int wp22073, .int wp22074, .int wp22075, .int wp22076, .ref h57, .ref h58, .int wp22077, .ref h60, .int 0, .ref h61, .int wp22078, .ref h63, .ref h64, .int wp22079, .ref h66, .ref h67, .int wp22080, .ref h69, .ref h70, .ref h71, .ref h72, .int wp22081, .int wp22082, .int wp22083, .int wp22084, .ref h77, .ref h78, .ref h79, .ref h80, .ref h81, .ref h82, .ref h83, .ref h84, .ref h85]))), (h57, .inl (y 0, 3, .inl (upd (fun _ => 0) ((2 : Int32).toNatClampNeg) 3))), (h58, .inl (y 0, 18, .inl fn22133))] H := hP
              replace hD : va_D A [(h0, .inr (12, (.ref h4 :: .int wp22065 :: .int wp22066 :: .ref h7 :: .ref h8 :: .ref h9 :: .ref h10 :: .ref h11 :: .ref h12 :: .ref h13 :: .ref h14 :: .ref h15 :: .int wp22067 :: .ref h17 :: .int wp22068 :: .ref h19 :: .int wp22069 :: .ref h21 :: .ref h22 :: .ref h23 :: .ref h24 :: .ref h25 :: .ref h26 :: .ref h27 :: .ref h28 :: .ref h29 :: .ref h30 :: .ref h31 :: .int wp22070 :: .ref h33 :: .ref h34 :: .ref h35 :: .int wp22071 :: [.ref h37, .ref h38, .ref h39, .ref h40, .ref h41, .ref h42, .ref h43, .ref h44, .ref h45, .ref h46, .ref h47, .ref h48, .ref h49, .ref h50, .ref h51, .int wp22072, .int wp22073, .int wp22074, .int wp22075, .int wp22076, .ref h57, .ref h58, .int wp22077, .ref h60, .int 0, .ref h61, .int wp22078, .ref h63, .ref h64, .int wp22079, .ref h66, .ref h67, .int wp22080, .ref h69, .ref h70, .ref h71, .ref h72, .int wp22081, .int wp22082, .int wp22083, .int wp22084, .ref h77, .ref h78, .ref h79, .ref h80, .ref h81, .ref h82, .ref h83, .ref h84, .ref h85]))), (h57, .inl (y 0, 3, .inl (upd (fun _ => 0) ((2 : Int32).toNatClampNeg) 3))), (h58, .inl (y 0, 18, .inl fn22133))] := hD
              refine va_iast hx hb hK.1 hP hD hS 2 0 rfl rfl (by unfold vp_in; decide +kernel) dX12_secret_87 ?_
              clear hP hD hS H locs
              refine fun H locs (hP : va_P D vwCl [(h0, .inr (12, (.ref h4 :: .int wp22065 :: .int wp22066 :: .ref h7 :: .ref h8 :: .ref h9 :: .ref h10 :: .ref h11 :: .ref h12 :: .ref h13 :: .ref h14 :: .ref h15 :: .int wp22067 :: .ref h17 :: .int wp22068 :: .ref h19 :: .int wp22069 :: .ref h21 :: .ref h22 :: .ref h23 :: .ref h24 :: .ref h25 :: .ref h26 :: .ref h27 :: .ref h28 :: .ref h29 :: .ref h30 :: .ref h31 :: .int wp22070 :: .ref h33 :: .ref h34 :: .ref h35 :: .int wp22071 :: [.ref h37, .ref h38, .ref h39, .ref h40, .ref h41, .ref h42, .ref h43, .ref h44, .ref h45, .ref h46, .ref h47, .ref h48, .ref h49, .ref h50, .ref h51, .int wp22072, .int wp22073, .int wp22074, .int wp22075, .int wp22076, .ref h57, .ref h58, .int wp22077, .ref h60, .int 0, .ref h61, .int wp22078, .ref h63, .ref h64, .int wp22079, .ref h66, .ref h67, .int wp22080, .ref h69, .ref h70, .ref h71, .ref h72, .int wp22081, .int wp22082, .int wp22083, .int wp22084, .ref h77, .ref h78, .ref h79, .ref h80, .ref h81, .ref h82, .ref h83, .ref h84, .ref h85]))), (h57, .inl (y 0, 3, .inl (upd (fun _ => 0) ((2 : Int32).toNatClampNeg) 3))), (h58, .inl (y 0, 18, .inl (upd fn22133 ((13 : Int32).toNatClampNeg) ((p2 / 10) - (p2 / 10) / 10 * 10))))] H) (hD : va_D A [(h0, .inr (12, (.ref h4 :: .int wp22065 :: .int wp22066 :: .ref h7 :: .ref h8 :: .ref h9 :: .ref h10 :: .ref h11 :: .ref h12 :: .ref h13 :: .ref h14 :: .ref h15 :: .int wp22067 :: .ref h17 :: .int wp22068 :: .ref h19 :: .int wp22069 :: .ref h21 :: .ref h22 :: .ref h23 :: .ref h24 :: .ref h25 :: .ref h26 :: .ref h27 :: .ref h28 :: .ref h29 :: .ref h30 :: .ref h31 :: .int wp22070 :: .ref h33 :: .ref h34 :: .ref h35 :: .int wp22071 :: [.ref h37, .ref h38, .ref h39, .ref h40, .ref h41, .ref h42, .ref h43, .ref h44, .ref h45, .ref h46, .ref h47, .ref h48, .ref h49, .ref h50, .ref h51, .int wp22072, .int wp22073, .int wp22074, .int wp22075, .int wp22076, .ref h57, .ref h58, .int wp22077, .ref h60, .int 0, .ref h61, .int wp22078, .ref h63, .ref h64, .int wp22079, .ref h66, .ref h67, .int wp22080, .ref h69, .ref h70, .ref h71, .ref h72, .int wp22081, .int wp22082, .int wp22083, .int wp22084, .ref h77, .ref h78, .ref h79, .ref h80, .ref h81, .ref h82, .ref h83, .ref h84, .ref h85]))), (h57, .inl (y 0, 3, .inl (upd (fun _ => 0) ((2 : Int32).toNatClampNeg) 3))), (h58, .inl (y 0, 18, .inl (upd fn22133 ((13 : Int32).toNatClampNeg) ((p2 / 10) - (p2 / 10) / 10 * 10))))]) hS => ?_
              obtain ⟨fn22135, hfn22135⟩ : ∃ f9 : Nat → Int32, f9 = (upd fn22133 ((13 : Int32).toNatClampNeg) ((p2 / 10) - (p2 / 10) / 10 * 10)) := ⟨_, rfl⟩
              rw [← hfn22135] at hP hD
              clear hfn22135
              refine lv_iinc (v := 2) (lv' := [(4, .int 2), (0, .ref h0), (1, .int 2), (2, .int p2), (3, .int 3)]) hx hb dX12_secret_88 hl (k := 0) rfl (by decide +kernel) (by decide) rfl ?_
              clear hl
              clear ls
              intro ls hl
              refine lv_goto (tgt := 63) hx hb dX12_secret_91 (by decide) ?_
              refine lv_iload hx hb dX12_secret_63 (lv_at hl 0 rfl) ?_
              refine lv_iload_n hx hb dX12_secret_65 rfl (lv_at hl 4 rfl) ?_
              refine lv_icmp_ge (tgt := 94) hx hb dX12_secret_66 (by decide) (fun c9 => absurd c9 (by decide +kernel)) (fun _ => ?_)
              refine lv_aload_n hx hb dX12_secret_69 rfl (lv_at hl 1 rfl) ?_
              refine gm_get (D := D) (ci := 12) (v := .ref h58) (C := RX12) (T := TX12) (N := 83) hx hb hg inlX12 hown hK.1 hP 0 rfl rfl 54 (by decide) tX12_54 (hg _ gw_208) rfl dX12_secret_70 ?_
              refine lv_bipush (v := 6) hx hb dX12_secret_73 (by decide +kernel) ?_
              refine lv_iload_n hx hb dX12_secret_75 rfl (lv_at hl 2 rfl) ?_
              refine lv_imul hx hb dX12_secret_76 ?_
              refine g_fi (v := 12) (by decide +kernel) ?_
              refine lv_iload hx hb dX12_secret_77 (lv_at hl 0 rfl) ?_
              refine lv_iadd hx hb dX12_secret_79 ?_
              refine g_fi (v := 14) (by decide +kernel) ?_
              refine lv_iload_n hx hb dX12_secret_80 rfl (lv_at hl 3 rfl) ?_
              refine lv_iload_n hx hb dX12_secret_81 rfl (lv_at hl 4 rfl) ?_
              refine lv_iload hx hb dX12_secret_82 (lv_at hl 0 rfl) ?_
              refine g_ai (wr := [(h0, .inr (12, (.ref h4 :: .int wp22065 :: .int wp22066 :: .ref h7 :: .ref h8 :: .ref h9 :: .ref h10 :: .ref h11 :: .ref h12 :: .ref h13 :: .ref h14 :: .ref h15 :: .int wp22067 :: .ref h17 :: .int wp22068 :: .ref h19 :: .int wp22069 :: .ref h21 :: .ref h22 :: .ref h23 :: .ref h24 :: .ref h25 :: .ref h26 :: .ref h27 :: .ref h28 :: .ref h29 :: .ref h30 :: .ref h31 :: .int wp22070 :: .ref h33 :: .ref h34 :: .ref h35 :: .int wp22071 :: [.ref h37, .ref h38, .ref h39, .ref h40, .ref h41, .ref h42, .ref h43, .ref h44, .ref h45, .ref h46, .ref h47, .ref h48, .ref h49, .ref h50, .ref h51, .int wp22072, .int wp22073, .int wp22074, .int wp22075, .int wp22076, .ref h57, .ref h58, .int wp22077, .ref h60, .int 0, .ref h61, .int wp22078, .ref h63, .ref h64, .int wp22079, .ref h66, .ref h67, .int wp22080, .ref h69, .ref h70, .ref h71, .ref h72, .int wp22081, .int wp22082, .int wp22083, .int wp22084, .ref h77, .ref h78, .ref h79, .ref h80, .ref h81, .ref h82, .ref h83, .ref h84, .ref h85]))), (h57, .inl (y 0, 3, .inl (upd (fun _ => 0) ((2 : Int32).toNatClampNeg) 3))), (h58, .inl (y 0, 18, .inl fn22135))]) (va_runS (As := [.int p2, .int 3, .int 2]) (rest := [.int 14, .ref h58]) ⟨hx, hb, hml, hown, hg⟩ (k_X12_digitOf_4 l D y aS H.size p2) (va_cwS 3 hg ggS_RX12_484_X12_digitOf rfl rfl rfl (by decide +kernel) ⟨Nat.le_of_ble_eq_true rfl, Nat.le_of_ble_eq_true rfl⟩) (g_preS hK hP hD [] rfl (by decide)) rfl rfl hl.1 rfl (lv_room (Nat.le_of_ble_eq_true rfl)) dX12_secret_84 ⟨Nat.le_of_ble_eq_true rfl, Nat.le_of_ble_eq_true rfl⟩) hP hD hS hA [] [0, 1, 2] rfl rfl (by decide) (by decide) ?_
              clear hP hD hS H locs
              refine fun r22136 u H locs hq hP hD hS => ?_
              subst hq
              replace hP : va_P D vwCl [(h0, .inr (12, (.ref h4 :: .int wp22065 :: .int wp22066 :: .ref h7 :: .ref h8 :: .ref h9 :: .ref h10 :: .ref h11 :: .ref h12 :: .ref h13 :: .ref h14 :: .ref h15 :: .int wp22067 :: .ref h17 :: .int wp22068 :: .ref h19 :: .int wp22069 :: .ref h21 :: .ref h22 :: .ref h23 :: .ref h24 :: .ref h25 :: .ref h26 :: .ref h27 :: .ref h28 :: .ref h29 :: .ref h30 :: .ref h31 :: .int wp22070 :: .ref h33 :: .ref h34 :: .ref h35 :: .int wp22071 :: [.ref h37, .ref h38, .ref h39, .ref h40, .ref h41, .ref h42, .ref h43, .ref h44, .ref h45, .ref h46, .ref h47, .ref h48, .ref h49, .ref h50, .ref h51, .int wp22072, .int wp22073, .int wp22074, .int wp22075, .int wp22076, .ref h57, .ref h58, .int wp22077, .ref h60, .int 0, .ref h61, .int wp22078, .ref h63, .ref h64, .int wp22079, .ref h66, .ref h67, .int wp22080, .ref h69, .ref h70, .ref h71, .ref h72, .int wp22081, .int wp22082, .int wp22083, .int wp22084, .ref h77, .ref h78, .ref h79, .ref h80, .ref h81, .ref h82, .ref h83, .ref h84, .ref h85]))), (h57, .inl (y 0, 3, .inl (upd (fun _ => 0) ((2 : Int32).toNatClampNeg) 3))), (h58, .inl (y 0, 18, .inl fn22135))] H := hP
              replace hD : va_D A [(h0, .inr (12, (.ref h4 :: .int wp22065 :: .int wp22066 :: .ref h7 :: .ref h8 :: .ref h9 :: .ref h10 :: .ref h11 :: .ref h12 :: .ref h13 :: .ref h14 :: .ref h15 :: .int wp22067 :: .ref h17 :: .int wp22068 :: .ref h19 :: .int wp22069 :: .ref h21 :: .ref h22 :: .ref h23 :: .ref h24 :: .ref h25 :: .ref h26 :: .ref h27 :: .ref h28 :: .ref h29 :: .ref h30 :: .ref h31 :: .int wp22070 :: .ref h33 :: .ref h34 :: .ref h35 :: .int wp22071 :: [.ref h37, .ref h38, .ref h39, .ref h40, .ref h41, .ref h42, .ref h43, .ref h44, .ref h45, .ref h46, .ref h47, .ref h48, .ref h49, .ref h50, .ref h51, .int wp22072, .int wp22073, .int wp22074, .int wp22075, .int wp22076, .ref h57, .ref h58, .int wp22077, .ref h60, .int 0, .ref h61, .int wp22078, .ref h63, .ref h64, .int wp22079, .ref h66, .ref h67, .int wp22080, .ref h69, .ref h70, .ref h71, .ref h72, .int wp22081, .int wp22082, .int wp22083, .int wp22084, .ref h77, .ref h78, .ref h79, .ref h80, .ref h81, .ref h82, .ref h83, .ref h84, .ref h85]))), (h57, .inl (y 0, 3, .inl (upd (fun _ => 0) ((2 : Int32).toNatClampNeg) 3))), (h58, .inl (y 0, 18, .inl fn22135))] := hD
              refine va_iast hx hb hK.1 hP hD hS 2 0 rfl rfl (by unfold vp_in; decide +kernel) dX12_secret_87 ?_
              clear hP hD hS H locs
              refine fun H locs (hP : va_P D vwCl [(h0, .inr (12, (.ref h4 :: .int wp22065 :: .int wp22066 :: .ref h7 :: .ref h8 :: .ref h9 :: .ref h10 :: .ref h11 :: .ref h12 :: .ref h13 :: .ref h14 :: .ref h15 :: .int wp22067 :: .ref h17 :: .int wp22068 :: .ref h19 :: .int wp22069 :: .ref h21 :: .ref h22 :: .ref h23 :: .ref h24 :: .ref h25 :: .ref h26 :: .ref h27 :: .ref h28 :: .ref h29 :: .ref h30 :: .ref h31 :: .int wp22070 :: .ref h33 :: .ref h34 :: .ref h35 :: .int wp22071 :: [.ref h37, .ref h38, .ref h39, .ref h40, .ref h41, .ref h42, .ref h43, .ref h44, .ref h45, .ref h46, .ref h47, .ref h48, .ref h49, .ref h50, .ref h51, .int wp22072, .int wp22073, .int wp22074, .int wp22075, .int wp22076, .ref h57, .ref h58, .int wp22077, .ref h60, .int 0, .ref h61, .int wp22078, .ref h63, .ref h64, .int wp22079, .ref h66, .ref h67, .int wp22080, .ref h69, .ref h70, .ref h71, .ref h72, .int wp22081, .int wp22082, .int wp22083, .int wp22084, .ref h77, .ref h78, .ref h79, .ref h80, .ref h81, .ref h82, .ref h83, .ref h84, .ref h85]))), (h57, .inl (y 0, 3, .inl (upd (fun _ => 0) ((2 : Int32).toNatClampNeg) 3))), (h58, .inl (y 0, 18, .inl (upd fn22135 ((14 : Int32).toNatClampNeg) ((p2 / 1) - (p2 / 1) / 10 * 10))))] H) (hD : va_D A [(h0, .inr (12, (.ref h4 :: .int wp22065 :: .int wp22066 :: .ref h7 :: .ref h8 :: .ref h9 :: .ref h10 :: .ref h11 :: .ref h12 :: .ref h13 :: .ref h14 :: .ref h15 :: .int wp22067 :: .ref h17 :: .int wp22068 :: .ref h19 :: .int wp22069 :: .ref h21 :: .ref h22 :: .ref h23 :: .ref h24 :: .ref h25 :: .ref h26 :: .ref h27 :: .ref h28 :: .ref h29 :: .ref h30 :: .ref h31 :: .int wp22070 :: .ref h33 :: .ref h34 :: .ref h35 :: .int wp22071 :: [.ref h37, .ref h38, .ref h39, .ref h40, .ref h41, .ref h42, .ref h43, .ref h44, .ref h45, .ref h46, .ref h47, .ref h48, .ref h49, .ref h50, .ref h51, .int wp22072, .int wp22073, .int wp22074, .int wp22075, .int wp22076, .ref h57, .ref h58, .int wp22077, .ref h60, .int 0, .ref h61, .int wp22078, .ref h63, .ref h64, .int wp22079, .ref h66, .ref h67, .int wp22080, .ref h69, .ref h70, .ref h71, .ref h72, .int wp22081, .int wp22082, .int wp22083, .int wp22084, .ref h77, .ref h78, .ref h79, .ref h80, .ref h81, .ref h82, .ref h83, .ref h84, .ref h85]))), (h57, .inl (y 0, 3, .inl (upd (fun _ => 0) ((2 : Int32).toNatClampNeg) 3))), (h58, .inl (y 0, 18, .inl (upd fn22135 ((14 : Int32).toNatClampNeg) ((p2 / 1) - (p2 / 1) / 10 * 10))))]) hS => ?_
              obtain ⟨fn22137, hfn22137⟩ : ∃ f9 : Nat → Int32, f9 = (upd fn22135 ((14 : Int32).toNatClampNeg) ((p2 / 1) - (p2 / 1) / 10 * 10)) := ⟨_, rfl⟩
              rw [← hfn22137] at hP hD
              clear hfn22137
              refine lv_iinc (v := 3) (lv' := [(4, .int 3), (0, .ref h0), (1, .int 2), (2, .int p2), (3, .int 3)]) hx hb dX12_secret_88 hl (k := 0) rfl (by decide +kernel) (by decide) rfl ?_
              clear hl
              clear ls
              intro ls hl
              refine lv_goto (tgt := 63) hx hb dX12_secret_91 (by decide) ?_
              refine lv_iload hx hb dX12_secret_63 (lv_at hl 0 rfl) ?_
              refine lv_iload_n hx hb dX12_secret_65 rfl (lv_at hl 4 rfl) ?_
              refine lv_icmp_ge (tgt := 94) hx hb dX12_secret_66 (by decide) (fun _ => ?_) (fun c9 => absurd c9 (by decide +kernel))
              refine lv_iconst (v := 0) hx hb dX12_secret_94 (by decide) ?_
              refine lv_istore (lv' := [(4, .int 0), (0, .ref h0), (1, .int 2), (2, .int p2), (3, .int 3)]) hx hb dX12_secret_95 hl (by decide) rfl ?_
              clear hl
              clear ls
              intro ls hl
              refine lv_iconst (v := 0) hx hb dX12_secret_97 (by decide) ?_
              refine lv_istore (lv' := [(5, .int 0), (4, .int 0), (0, .ref h0), (1, .int 2), (2, .int p2), (3, .int 3)]) hx hb dX12_secret_98 hl (by decide) rfl ?_
              clear hl
              clear ls
              intro ls hl
              refine lv_iload hx hb dX12_secret_100 (lv_at hl 0 rfl) ?_
              refine lv_iconst (v := 3) hx hb dX12_secret_102 (by decide) ?_
              refine lv_icmp_ge (tgt := 132) hx hb dX12_secret_103 (by decide) (fun c9 => absurd c9 (by decide +kernel)) (fun _ => ?_)
              refine lv_iload hx hb dX12_secret_106 (lv_at hl 1 rfl) ?_
              refine lv_aload_n hx hb dX12_secret_108 rfl (lv_at hl 2 rfl) ?_
              refine gm_get (D := D) (ci := 12) (v := .ref h57) (C := RX12) (T := TX12) (N := 83) hx hb hg inlX12 hown hK.1 hP 0 rfl rfl 53 (by decide) tX12_53 (hg _ gw_207) rfl dX12_secret_109 ?_
              refine lv_iload hx hb dX12_secret_112 (lv_at hl 0 rfl) ?_
              refine va_iald hx hb hK.1 hP 1 0 rfl rfl (by unfold vp_in; decide +kernel) dX12_secret_114 ?_
              refine g_fi (v := 0) (by rfl) ?_
              refine lv_if_le (tgt := 122) hx hb dX12_secret_115 (by decide) (fun _ => ?_) (fun c9 => absurd c9 (by decide +kernel))
              refine lv_iconst (v := 0) hx hb dX12_secret_122 (by decide) ?_
              refine lv_iadd hx hb dX12_secret_123 ?_
              refine g_fi (v := 0) (by decide +kernel) ?_
              refine lv_istore (lv' := [(4, .int 0), (5, .int 0), (0, .ref h0), (1, .int 2), (2, .int p2), (3, .int 3)]) hx hb dX12_secret_124 hl (by decide) rfl ?_
              clear hl
              clear ls
              intro ls hl
              refine lv_iinc (v := 1) (lv' := [(5, .int 1), (4, .int 0), (0, .ref h0), (1, .int 2), (2, .int p2), (3, .int 3)]) hx hb dX12_secret_126 hl (k := 1) rfl (by decide +kernel) (by decide) rfl ?_
              clear hl
              clear ls
              intro ls hl
              refine lv_goto (tgt := 100) hx hb dX12_secret_129 (by decide) ?_
              refine lv_iload hx hb dX12_secret_100 (lv_at hl 0 rfl) ?_
              refine lv_iconst (v := 3) hx hb dX12_secret_102 (by decide) ?_
              refine lv_icmp_ge (tgt := 132) hx hb dX12_secret_103 (by decide) (fun c9 => absurd c9 (by decide +kernel)) (fun _ => ?_)
              refine lv_iload hx hb dX12_secret_106 (lv_at hl 1 rfl) ?_
              refine lv_aload_n hx hb dX12_secret_108 rfl (lv_at hl 2 rfl) ?_
              refine gm_get (D := D) (ci := 12) (v := .ref h57) (C := RX12) (T := TX12) (N := 83) hx hb hg inlX12 hown hK.1 hP 0 rfl rfl 53 (by decide) tX12_53 (hg _ gw_207) rfl dX12_secret_109 ?_
              refine lv_iload hx hb dX12_secret_112 (lv_at hl 0 rfl) ?_
              refine va_iald hx hb hK.1 hP 1 0 rfl rfl (by unfold vp_in; decide +kernel) dX12_secret_114 ?_
              refine g_fi (v := 0) (by rfl) ?_
              refine lv_if_le (tgt := 122) hx hb dX12_secret_115 (by decide) (fun _ => ?_) (fun c9 => absurd c9 (by decide +kernel))
              refine lv_iconst (v := 0) hx hb dX12_secret_122 (by decide) ?_
              refine lv_iadd hx hb dX12_secret_123 ?_
              refine g_fi (v := 0) (by decide +kernel) ?_
              refine lv_istore (lv' := [(4, .int 0), (5, .int 1), (0, .ref h0), (1, .int 2), (2, .int p2), (3, .int 3)]) hx hb dX12_secret_124 hl (by decide) rfl ?_
              clear hl
              clear ls
              intro ls hl
              refine lv_iinc (v := 2) (lv' := [(5, .int 2), (4, .int 0), (0, .ref h0), (1, .int 2), (2, .int p2), (3, .int 3)]) hx hb dX12_secret_126 hl (k := 1) rfl (by decide +kernel) (by decide) rfl ?_
              clear hl
              clear ls
              intro ls hl
              refine lv_goto (tgt := 100) hx hb dX12_secret_129 (by decide) ?_
              refine lv_iload hx hb dX12_secret_100 (lv_at hl 0 rfl) ?_
              refine lv_iconst (v := 3) hx hb dX12_secret_102 (by decide) ?_
              refine lv_icmp_ge (tgt := 132) hx hb dX12_secret_103 (by decide) (fun c9 => absurd c9 (by decide +kernel)) (fun _ => ?_)
              refine lv_iload hx hb dX12_secret_106 (lv_at hl 1 rfl) ?_
              refine lv_aload_n hx hb dX12_secret_108 rfl (lv_at hl 2 rfl) ?_
              refine gm_get (D := D) (ci := 12) (v := .ref h57) (C := RX12) (T := TX12) (N := 83) hx hb hg inlX12 hown hK.1 hP 0 rfl rfl 53 (by decide) tX12_53 (hg _ gw_207) rfl dX12_secret_109 ?_
              refine lv_iload hx hb dX12_secret_112 (lv_at hl 0 rfl) ?_
              refine va_iald hx hb hK.1 hP 1 0 rfl rfl (by unfold vp_in; decide +kernel) dX12_secret_114 ?_
              refine g_fi (v := 3) (by rfl) ?_
              refine lv_if_le (tgt := 122) hx hb dX12_secret_115 (by decide) (fun c9 => absurd c9 (by decide +kernel)) (fun _ => ?_)
              refine lv_iconst (v := 1) hx hb dX12_secret_118 (by decide) ?_
              refine lv_goto (tgt := 123) hx hb dX12_secret_119 (by decide) ?_
              refine lv_iadd hx hb dX12_secret_123 ?_
              refine g_fi (v := 1) (by decide +kernel) ?_
              refine lv_istore (lv' := [(4, .int 1), (5, .int 2), (0, .ref h0), (1, .int 2), (2, .int p2), (3, .int 3)]) hx hb dX12_secret_124 hl (by decide) rfl ?_
              clear hl
              clear ls
              intro ls hl
              refine lv_iinc (v := 3) (lv' := [(5, .int 3), (4, .int 1), (0, .ref h0), (1, .int 2), (2, .int p2), (3, .int 3)]) hx hb dX12_secret_126 hl (k := 1) rfl (by decide +kernel) (by decide) rfl ?_
              clear hl
              clear ls
              intro ls hl
              refine lv_goto (tgt := 100) hx hb dX12_secret_129 (by decide) ?_
              refine lv_iload hx hb dX12_secret_100 (lv_at hl 0 rfl) ?_
              refine lv_iconst (v := 3) hx hb dX12_secret_102 (by decide) ?_
              refine lv_icmp_ge (tgt := 132) hx hb dX12_secret_103 (by decide) (fun _ => ?_) (fun c9 => absurd c9 (by decide +kernel))
              refine lv_iload hx hb dX12_secret_132 (lv_at hl 1 rfl) ?_
              exact g_iret hx hb hr hlocks ⟨0, (upd (fun _ => 0) ((2 : Int32).toNatClampNeg) 3), fn22137⟩ hP hD hS rfl (Or.inr (Or.inr (Or.inr (Or.inr (Or.inr (Or.inr (Or.inr (Or.inr (Or.inr (Or.inr (Or.inr (Or.inl ⟨rfl, rfl, rfl, (by first | omega | (simp_all; done)), (by first | omega | (simp_all; done)), (by first | omega | (simp_all; done)), (by first | omega | (simp_all; done)), (by first | omega | (simp_all; done)), (by first | omega | (simp_all; done))⟩)))))))))))) (Nat.le_of_ble_eq_true rfl) (Nat.le_of_ble_eq_true rfl) dX12_secret_134
          · have z22119 := g_ltf z22119; rw [g_l1000] at z22119
            refine lv_iconst (v := 2) hx hb dX12_secret_36 (by decide) ?_
            refine lv_goto (tgt := 41) hx hb dX12_secret_37 (by decide) ?_
            refine gm_put (D := D) (ci := 12) (v := .int 2) (ty := .int) (C := RX12) (T := TX12) (N := 83) hx hb hg inlX12 tyX12 tyX12_ok nmX12 hown hK.1 hP hD hS 0 rfl rfl 57 (by decide) tX12_57 (hg _ gw_276) (by decide +kernel) rfl rfl (Nat.le_of_ble_eq_true rfl) dX12_secret_41 ?_
            clear hP hD hS H locs
            refine fun H locs (hP : va_P D vwCl [(h0, .inr (12, (.ref h4 :: .int wp22065 :: .int wp22066 :: .ref h7 :: .ref h8 :: .ref h9 :: .ref h10 :: .ref h11 :: .ref h12 :: .ref h13 :: .ref h14 :: .ref h15 :: .int wp22067 :: .ref h17 :: .int wp22068 :: .ref h19 :: .int wp22069 :: .ref h21 :: .ref h22 :: .ref h23 :: .ref h24 :: .ref h25 :: .ref h26 :: .ref h27 :: .ref h28 :: .ref h29 :: .ref h30 :: .ref h31 :: .int wp22070 :: .ref h33 :: .ref h34 :: .ref h35 :: .int wp22071 :: [.ref h37, .ref h38, .ref h39, .ref h40, .ref h41, .ref h42, .ref h43, .ref h44, .ref h45, .ref h46, .ref h47, .ref h48, .ref h49, .ref h50, .ref h51, .int wp22072, .int wp22073, .int wp22074, .int wp22075, .int wp22076, .ref h57, .ref h58, .int wp22077, .ref h60, .int 2, .ref h61, .int wp22078, .ref h63, .ref h64, .int wp22079, .ref h66, .ref h67, .int wp22080, .ref h69, .ref h70, .ref h71, .ref h72, .int wp22081, .int wp22082, .int wp22083, .int wp22084, .ref h77, .ref h78, .ref h79, .ref h80, .ref h81, .ref h82, .ref h83, .ref h84, .ref h85]))), (h57, .inl (y 0, 3, .inl (fun _ => 0))), (h58, .inl (y 0, 18, .inl wf22085))] H) (hD : va_D A [(h0, .inr (12, (.ref h4 :: .int wp22065 :: .int wp22066 :: .ref h7 :: .ref h8 :: .ref h9 :: .ref h10 :: .ref h11 :: .ref h12 :: .ref h13 :: .ref h14 :: .ref h15 :: .int wp22067 :: .ref h17 :: .int wp22068 :: .ref h19 :: .int wp22069 :: .ref h21 :: .ref h22 :: .ref h23 :: .ref h24 :: .ref h25 :: .ref h26 :: .ref h27 :: .ref h28 :: .ref h29 :: .ref h30 :: .ref h31 :: .int wp22070 :: .ref h33 :: .ref h34 :: .ref h35 :: .int wp22071 :: [.ref h37, .ref h38, .ref h39, .ref h40, .ref h41, .ref h42, .ref h43, .ref h44, .ref h45, .ref h46, .ref h47, .ref h48, .ref h49, .ref h50, .ref h51, .int wp22072, .int wp22073, .int wp22074, .int wp22075, .int wp22076, .ref h57, .ref h58, .int wp22077, .ref h60, .int 2, .ref h61, .int wp22078, .ref h63, .ref h64, .int wp22079, .ref h66, .ref h67, .int wp22080, .ref h69, .ref h70, .ref h71, .ref h72, .int wp22081, .int wp22082, .int wp22083, .int wp22084, .ref h77, .ref h78, .ref h79, .ref h80, .ref h81, .ref h82, .ref h83, .ref h84, .ref h85]))), (h57, .inl (y 0, 3, .inl (fun _ => 0))), (h58, .inl (y 0, 18, .inl wf22085))]) hS => ?_
            refine lv_aload_n hx hb dX12_secret_44 rfl (lv_at hl 0 rfl) ?_
            refine gm_get (D := D) (ci := 12) (v := .int 2) (C := RX12) (T := TX12) (N := 83) hx hb hg inlX12 hown hK.1 hP 0 rfl rfl 57 (by decide) tX12_57 (hg _ gw_276) rfl dX12_secret_45 ?_
            refine lv_if_le (tgt := 53) hx hb dX12_secret_48 (by decide) (fun c9 => absurd c9 (by decide +kernel)) (fun _ => ?_)
            refine lv_iconst (v := 0) hx hb dX12_secret_51 (by decide) ?_
            exact g_iret hx hb hr hlocks ⟨2, (fun _ => 0), wf22085⟩ hP hD hS rfl (Or.inr (Or.inr (Or.inr (Or.inr (Or.inr (Or.inr (Or.inr (Or.inr (Or.inr (Or.inr (Or.inr (Or.inr (Or.inl ⟨rfl, rfl, rfl, rfl, (by first | omega | (simp_all; done)), (by first | omega | (simp_all; done)), (by first | omega | (simp_all; done)), (by first | omega | (simp_all; done)), (by first | omega | (simp_all; done))⟩))))))))))))) (Nat.le_of_ble_eq_true rfl) (Nat.le_of_ble_eq_true rfl) dX12_secret_52
        ·
          obtain rfl : p3 = 4 := Int32.toInt_inj.mp (by rw [g_l4]; omega)
          replace hP : va_P D vwCl [(h0, .inr (12, (.ref h4 :: .int wp22065 :: .int wp22066 :: .ref h7 :: .ref h8 :: .ref h9 :: .ref h10 :: .ref h11 :: .ref h12 :: .ref h13 :: .ref h14 :: .ref h15 :: .int wp22067 :: .ref h17 :: .int wp22068 :: .ref h19 :: .int wp22069 :: .ref h21 :: .ref h22 :: .ref h23 :: .ref h24 :: .ref h25 :: .ref h26 :: .ref h27 :: .ref h28 :: .ref h29 :: .ref h30 :: .ref h31 :: .int wp22070 :: .ref h33 :: .ref h34 :: .ref h35 :: .int wp22071 :: [.ref h37, .ref h38, .ref h39, .ref h40, .ref h41, .ref h42, .ref h43, .ref h44, .ref h45, .ref h46, .ref h47, .ref h48, .ref h49, .ref h50, .ref h51, .int wp22072, .int wp22073, .int wp22074, .int wp22075, .int wp22076, .ref h57, .ref h58, .int wp22077, .ref h60, .int 0, .ref h61, .int wp22078, .ref h63, .ref h64, .int wp22079, .ref h66, .ref h67, .int wp22080, .ref h69, .ref h70, .ref h71, .ref h72, .int wp22081, .int wp22082, .int wp22083, .int wp22084, .ref h77, .ref h78, .ref h79, .ref h80, .ref h81, .ref h82, .ref h83, .ref h84, .ref h85]))), (h57, .inl (y 0, 3, .inl (fun _ => 0))), (h58, .inl (y 0, 18, .inl wf22085))] H := hP
          replace hD : va_D A [(h0, .inr (12, (.ref h4 :: .int wp22065 :: .int wp22066 :: .ref h7 :: .ref h8 :: .ref h9 :: .ref h10 :: .ref h11 :: .ref h12 :: .ref h13 :: .ref h14 :: .ref h15 :: .int wp22067 :: .ref h17 :: .int wp22068 :: .ref h19 :: .int wp22069 :: .ref h21 :: .ref h22 :: .ref h23 :: .ref h24 :: .ref h25 :: .ref h26 :: .ref h27 :: .ref h28 :: .ref h29 :: .ref h30 :: .ref h31 :: .int wp22070 :: .ref h33 :: .ref h34 :: .ref h35 :: .int wp22071 :: [.ref h37, .ref h38, .ref h39, .ref h40, .ref h41, .ref h42, .ref h43, .ref h44, .ref h45, .ref h46, .ref h47, .ref h48, .ref h49, .ref h50, .ref h51, .int wp22072, .int wp22073, .int wp22074, .int wp22075, .int wp22076, .ref h57, .ref h58, .int wp22077, .ref h60, .int 0, .ref h61, .int wp22078, .ref h63, .ref h64, .int wp22079, .ref h66, .ref h67, .int wp22080, .ref h69, .ref h70, .ref h71, .ref h72, .int wp22081, .int wp22082, .int wp22083, .int wp22084, .ref h77, .ref h78, .ref h79, .ref h80, .ref h81, .ref h82, .ref h83, .ref h84, .ref h85]))), (h57, .inl (y 0, 3, .inl (fun _ => 0))), (h58, .inl (y 0, 18, .inl wf22085))] := hD
          refine lv_icmp_lt (tgt := 40) hx hb dX12_secret_33 (by decide) (fun z22138 => ?_) (fun z22138 => ?_)
          · have z22138 := g_ltt z22138; rw [g_l10000] at z22138
            refine lv_iconst (v := 0) hx hb dX12_secret_40 (by decide) ?_
            refine gm_put (D := D) (ci := 12) (v := .int 0) (ty := .int) (C := RX12) (T := TX12) (N := 83) hx hb hg inlX12 tyX12 tyX12_ok nmX12 hown hK.1 hP hD hS 0 rfl rfl 57 (by decide) tX12_57 (hg _ gw_276) (by decide +kernel) rfl rfl (Nat.le_of_ble_eq_true rfl) dX12_secret_41 ?_
            clear hP hD hS H locs
            refine fun H locs (hP : va_P D vwCl [(h0, .inr (12, (.ref h4 :: .int wp22065 :: .int wp22066 :: .ref h7 :: .ref h8 :: .ref h9 :: .ref h10 :: .ref h11 :: .ref h12 :: .ref h13 :: .ref h14 :: .ref h15 :: .int wp22067 :: .ref h17 :: .int wp22068 :: .ref h19 :: .int wp22069 :: .ref h21 :: .ref h22 :: .ref h23 :: .ref h24 :: .ref h25 :: .ref h26 :: .ref h27 :: .ref h28 :: .ref h29 :: .ref h30 :: .ref h31 :: .int wp22070 :: .ref h33 :: .ref h34 :: .ref h35 :: .int wp22071 :: [.ref h37, .ref h38, .ref h39, .ref h40, .ref h41, .ref h42, .ref h43, .ref h44, .ref h45, .ref h46, .ref h47, .ref h48, .ref h49, .ref h50, .ref h51, .int wp22072, .int wp22073, .int wp22074, .int wp22075, .int wp22076, .ref h57, .ref h58, .int wp22077, .ref h60, .int 0, .ref h61, .int wp22078, .ref h63, .ref h64, .int wp22079, .ref h66, .ref h67, .int wp22080, .ref h69, .ref h70, .ref h71, .ref h72, .int wp22081, .int wp22082, .int wp22083, .int wp22084, .ref h77, .ref h78, .ref h79, .ref h80, .ref h81, .ref h82, .ref h83, .ref h84, .ref h85]))), (h57, .inl (y 0, 3, .inl (fun _ => 0))), (h58, .inl (y 0, 18, .inl wf22085))] H) (hD : va_D A [(h0, .inr (12, (.ref h4 :: .int wp22065 :: .int wp22066 :: .ref h7 :: .ref h8 :: .ref h9 :: .ref h10 :: .ref h11 :: .ref h12 :: .ref h13 :: .ref h14 :: .ref h15 :: .int wp22067 :: .ref h17 :: .int wp22068 :: .ref h19 :: .int wp22069 :: .ref h21 :: .ref h22 :: .ref h23 :: .ref h24 :: .ref h25 :: .ref h26 :: .ref h27 :: .ref h28 :: .ref h29 :: .ref h30 :: .ref h31 :: .int wp22070 :: .ref h33 :: .ref h34 :: .ref h35 :: .int wp22071 :: [.ref h37, .ref h38, .ref h39, .ref h40, .ref h41, .ref h42, .ref h43, .ref h44, .ref h45, .ref h46, .ref h47, .ref h48, .ref h49, .ref h50, .ref h51, .int wp22072, .int wp22073, .int wp22074, .int wp22075, .int wp22076, .ref h57, .ref h58, .int wp22077, .ref h60, .int 0, .ref h61, .int wp22078, .ref h63, .ref h64, .int wp22079, .ref h66, .ref h67, .int wp22080, .ref h69, .ref h70, .ref h71, .ref h72, .int wp22081, .int wp22082, .int wp22083, .int wp22084, .ref h77, .ref h78, .ref h79, .ref h80, .ref h81, .ref h82, .ref h83, .ref h84, .ref h85]))), (h57, .inl (y 0, 3, .inl (fun _ => 0))), (h58, .inl (y 0, 18, .inl wf22085))]) hS => ?_
            refine lv_aload_n hx hb dX12_secret_44 rfl (lv_at hl 0 rfl) ?_
            refine gm_get (D := D) (ci := 12) (v := .int 0) (C := RX12) (T := TX12) (N := 83) hx hb hg inlX12 hown hK.1 hP 0 rfl rfl 57 (by decide) tX12_57 (hg _ gw_276) rfl dX12_secret_45 ?_
            refine lv_if_le (tgt := 53) hx hb dX12_secret_48 (by decide) (fun _ => ?_) (fun c9 => absurd c9 (by decide +kernel))
            have hsp : p1 = 0 ∨ p1 = 1 ∨ p1 = 2 := by
              simp only [← Int32.toInt_inj, g_l0, g_l1, g_l2]; omega
            rcases hsp with rfl | rfl | rfl
            ·
              refine lv_aload_n hx hb dX12_secret_53 rfl (lv_at hl 0 rfl) ?_
              refine gm_get (D := D) (ci := 12) (v := .ref h57) (C := RX12) (T := TX12) (N := 83) hx hb hg inlX12 hown hK.1 hP 0 rfl rfl 53 (by decide) tX12_53 (hg _ gw_207) rfl dX12_secret_54 ?_
              refine lv_iload_n hx hb dX12_secret_57 rfl (lv_at hl 1 rfl) ?_
              refine lv_iload_n hx hb dX12_secret_58 rfl (lv_at hl 3 rfl) ?_
              refine va_iast hx hb hK.1 hP hD hS 1 0 rfl rfl (by unfold vp_in; decide +kernel) dX12_secret_59 ?_
              clear hP hD hS H locs
              refine fun H locs (hP : va_P D vwCl [(h0, .inr (12, (.ref h4 :: .int wp22065 :: .int wp22066 :: .ref h7 :: .ref h8 :: .ref h9 :: .ref h10 :: .ref h11 :: .ref h12 :: .ref h13 :: .ref h14 :: .ref h15 :: .int wp22067 :: .ref h17 :: .int wp22068 :: .ref h19 :: .int wp22069 :: .ref h21 :: .ref h22 :: .ref h23 :: .ref h24 :: .ref h25 :: .ref h26 :: .ref h27 :: .ref h28 :: .ref h29 :: .ref h30 :: .ref h31 :: .int wp22070 :: .ref h33 :: .ref h34 :: .ref h35 :: .int wp22071 :: [.ref h37, .ref h38, .ref h39, .ref h40, .ref h41, .ref h42, .ref h43, .ref h44, .ref h45, .ref h46, .ref h47, .ref h48, .ref h49, .ref h50, .ref h51, .int wp22072, .int wp22073, .int wp22074, .int wp22075, .int wp22076, .ref h57, .ref h58, .int wp22077, .ref h60, .int 0, .ref h61, .int wp22078, .ref h63, .ref h64, .int wp22079, .ref h66, .ref h67, .int wp22080, .ref h69, .ref h70, .ref h71, .ref h72, .int wp22081, .int wp22082, .int wp22083, .int wp22084, .ref h77, .ref h78, .ref h79, .ref h80, .ref h81, .ref h82, .ref h83, .ref h84, .ref h85]))), (h57, .inl (y 0, 3, .inl (upd (fun _ => 0) ((0 : Int32).toNatClampNeg) 4))), (h58, .inl (y 0, 18, .inl wf22085))] H) (hD : va_D A [(h0, .inr (12, (.ref h4 :: .int wp22065 :: .int wp22066 :: .ref h7 :: .ref h8 :: .ref h9 :: .ref h10 :: .ref h11 :: .ref h12 :: .ref h13 :: .ref h14 :: .ref h15 :: .int wp22067 :: .ref h17 :: .int wp22068 :: .ref h19 :: .int wp22069 :: .ref h21 :: .ref h22 :: .ref h23 :: .ref h24 :: .ref h25 :: .ref h26 :: .ref h27 :: .ref h28 :: .ref h29 :: .ref h30 :: .ref h31 :: .int wp22070 :: .ref h33 :: .ref h34 :: .ref h35 :: .int wp22071 :: [.ref h37, .ref h38, .ref h39, .ref h40, .ref h41, .ref h42, .ref h43, .ref h44, .ref h45, .ref h46, .ref h47, .ref h48, .ref h49, .ref h50, .ref h51, .int wp22072, .int wp22073, .int wp22074, .int wp22075, .int wp22076, .ref h57, .ref h58, .int wp22077, .ref h60, .int 0, .ref h61, .int wp22078, .ref h63, .ref h64, .int wp22079, .ref h66, .ref h67, .int wp22080, .ref h69, .ref h70, .ref h71, .ref h72, .int wp22081, .int wp22082, .int wp22083, .int wp22084, .ref h77, .ref h78, .ref h79, .ref h80, .ref h81, .ref h82, .ref h83, .ref h84, .ref h85]))), (h57, .inl (y 0, 3, .inl (upd (fun _ => 0) ((0 : Int32).toNatClampNeg) 4))), (h58, .inl (y 0, 18, .inl wf22085))]) hS => ?_
              refine lv_iconst (v := 0) hx hb dX12_secret_60 (by decide) ?_
              refine lv_istore (lv' := [(4, .int 0), (0, .ref h0), (1, .int 0), (2, .int p2), (3, .int 4)]) hx hb dX12_secret_61 hl (by decide) rfl ?_
              clear hl
              clear ls
              intro ls hl
              refine lv_iload hx hb dX12_secret_63 (lv_at hl 0 rfl) ?_
              refine lv_iload_n hx hb dX12_secret_65 rfl (lv_at hl 4 rfl) ?_
              refine lv_icmp_ge (tgt := 94) hx hb dX12_secret_66 (by decide) (fun c9 => absurd c9 (by decide +kernel)) (fun _ => ?_)
              refine lv_aload_n hx hb dX12_secret_69 rfl (lv_at hl 1 rfl) ?_
              refine gm_get (D := D) (ci := 12) (v := .ref h58) (C := RX12) (T := TX12) (N := 83) hx hb hg inlX12 hown hK.1 hP 0 rfl rfl 54 (by decide) tX12_54 (hg _ gw_208) rfl dX12_secret_70 ?_
              refine lv_bipush (v := 6) hx hb dX12_secret_73 (by decide +kernel) ?_
              refine lv_iload_n hx hb dX12_secret_75 rfl (lv_at hl 2 rfl) ?_
              refine lv_imul hx hb dX12_secret_76 ?_
              refine g_fi (v := 0) (by decide +kernel) ?_
              refine lv_iload hx hb dX12_secret_77 (lv_at hl 0 rfl) ?_
              refine lv_iadd hx hb dX12_secret_79 ?_
              refine g_fi (v := 0) (by decide +kernel) ?_
              refine lv_iload_n hx hb dX12_secret_80 rfl (lv_at hl 3 rfl) ?_
              refine lv_iload_n hx hb dX12_secret_81 rfl (lv_at hl 4 rfl) ?_
              refine lv_iload hx hb dX12_secret_82 (lv_at hl 0 rfl) ?_
              refine g_ai (wr := [(h0, .inr (12, (.ref h4 :: .int wp22065 :: .int wp22066 :: .ref h7 :: .ref h8 :: .ref h9 :: .ref h10 :: .ref h11 :: .ref h12 :: .ref h13 :: .ref h14 :: .ref h15 :: .int wp22067 :: .ref h17 :: .int wp22068 :: .ref h19 :: .int wp22069 :: .ref h21 :: .ref h22 :: .ref h23 :: .ref h24 :: .ref h25 :: .ref h26 :: .ref h27 :: .ref h28 :: .ref h29 :: .ref h30 :: .ref h31 :: .int wp22070 :: .ref h33 :: .ref h34 :: .ref h35 :: .int wp22071 :: [.ref h37, .ref h38, .ref h39, .ref h40, .ref h41, .ref h42, .ref h43, .ref h44, .ref h45, .ref h46, .ref h47, .ref h48, .ref h49, .ref h50, .ref h51, .int wp22072, .int wp22073, .int wp22074, .int wp22075, .int wp22076, .ref h57, .ref h58, .int wp22077, .ref h60, .int 0, .ref h61, .int wp22078, .ref h63, .ref h64, .int wp22079, .ref h66, .ref h67, .int wp22080, .ref h69, .ref h70, .ref h71, .ref h72, .int wp22081, .int wp22082, .int wp22083, .int wp22084, .ref h77, .ref h78, .ref h79, .ref h80, .ref h81, .ref h82, .ref h83, .ref h84, .ref h85]))), (h57, .inl (y 0, 3, .inl (upd (fun _ => 0) ((0 : Int32).toNatClampNeg) 4))), (h58, .inl (y 0, 18, .inl wf22085))]) (va_runS (As := [.int p2, .int 4, .int 0]) (rest := [.int 0, .ref h58]) ⟨hx, hb, hml, hown, hg⟩ (k_X12_digitOf_5 l D y aS H.size p2) (va_cwS 3 hg ggS_RX12_484_X12_digitOf rfl rfl rfl (by decide +kernel) ⟨Nat.le_of_ble_eq_true rfl, Nat.le_of_ble_eq_true rfl⟩) (g_preS hK hP hD [] rfl (by decide)) rfl rfl hl.1 rfl (lv_room (Nat.le_of_ble_eq_true rfl)) dX12_secret_84 ⟨Nat.le_of_ble_eq_true rfl, Nat.le_of_ble_eq_true rfl⟩) hP hD hS hA [] [0, 1, 2] rfl rfl (by decide) (by decide) ?_
              clear hP hD hS H locs
              refine fun r22139 u H locs hq hP hD hS => ?_
              subst hq
              replace hP : va_P D vwCl [(h0, .inr (12, (.ref h4 :: .int wp22065 :: .int wp22066 :: .ref h7 :: .ref h8 :: .ref h9 :: .ref h10 :: .ref h11 :: .ref h12 :: .ref h13 :: .ref h14 :: .ref h15 :: .int wp22067 :: .ref h17 :: .int wp22068 :: .ref h19 :: .int wp22069 :: .ref h21 :: .ref h22 :: .ref h23 :: .ref h24 :: .ref h25 :: .ref h26 :: .ref h27 :: .ref h28 :: .ref h29 :: .ref h30 :: .ref h31 :: .int wp22070 :: .ref h33 :: .ref h34 :: .ref h35 :: .int wp22071 :: [.ref h37, .ref h38, .ref h39, .ref h40, .ref h41, .ref h42, .ref h43, .ref h44, .ref h45, .ref h46, .ref h47, .ref h48, .ref h49, .ref h50, .ref h51, .int wp22072, .int wp22073, .int wp22074, .int wp22075, .int wp22076, .ref h57, .ref h58, .int wp22077, .ref h60, .int 0, .ref h61, .int wp22078, .ref h63, .ref h64, .int wp22079, .ref h66, .ref h67, .int wp22080, .ref h69, .ref h70, .ref h71, .ref h72, .int wp22081, .int wp22082, .int wp22083, .int wp22084, .ref h77, .ref h78, .ref h79, .ref h80, .ref h81, .ref h82, .ref h83, .ref h84, .ref h85]))), (h57, .inl (y 0, 3, .inl (upd (fun _ => 0) ((0 : Int32).toNatClampNeg) 4))), (h58, .inl (y 0, 18, .inl wf22085))] H := hP
              replace hD : va_D A [(h0, .inr (12, (.ref h4 :: .int wp22065 :: .int wp22066 :: .ref h7 :: .ref h8 :: .ref h9 :: .ref h10 :: .ref h11 :: .ref h12 :: .ref h13 :: .ref h14 :: .ref h15 :: .int wp22067 :: .ref h17 :: .int wp22068 :: .ref h19 :: .int wp22069 :: .ref h21 :: .ref h22 :: .ref h23 :: .ref h24 :: .ref h25 :: .ref h26 :: .ref h27 :: .ref h28 :: .ref h29 :: .ref h30 :: .ref h31 :: .int wp22070 :: .ref h33 :: .ref h34 :: .ref h35 :: .int wp22071 :: [.ref h37, .ref h38, .ref h39, .ref h40, .ref h41, .ref h42, .ref h43, .ref h44, .ref h45, .ref h46, .ref h47, .ref h48, .ref h49, .ref h50, .ref h51, .int wp22072, .int wp22073, .int wp22074, .int wp22075, .int wp22076, .ref h57, .ref h58, .int wp22077, .ref h60, .int 0, .ref h61, .int wp22078, .ref h63, .ref h64, .int wp22079, .ref h66, .ref h67, .int wp22080, .ref h69, .ref h70, .ref h71, .ref h72, .int wp22081, .int wp22082, .int wp22083, .int wp22084, .ref h77, .ref h78, .ref h79, .ref h80, .ref h81, .ref h82, .ref h83, .ref h84, .ref h85]))), (h57, .inl (y 0, 3, .inl (upd (fun _ => 0) ((0 : Int32).toNatClampNeg) 4))), (h58, .inl (y 0, 18, .inl wf22085))] := hD
              refine va_iast hx hb hK.1 hP hD hS 2 0 rfl rfl (by unfold vp_in; decide +kernel) dX12_secret_87 ?_
              clear hP hD hS H locs
              refine fun H locs (hP : va_P D vwCl [(h0, .inr (12, (.ref h4 :: .int wp22065 :: .int wp22066 :: .ref h7 :: .ref h8 :: .ref h9 :: .ref h10 :: .ref h11 :: .ref h12 :: .ref h13 :: .ref h14 :: .ref h15 :: .int wp22067 :: .ref h17 :: .int wp22068 :: .ref h19 :: .int wp22069 :: .ref h21 :: .ref h22 :: .ref h23 :: .ref h24 :: .ref h25 :: .ref h26 :: .ref h27 :: .ref h28 :: .ref h29 :: .ref h30 :: .ref h31 :: .int wp22070 :: .ref h33 :: .ref h34 :: .ref h35 :: .int wp22071 :: [.ref h37, .ref h38, .ref h39, .ref h40, .ref h41, .ref h42, .ref h43, .ref h44, .ref h45, .ref h46, .ref h47, .ref h48, .ref h49, .ref h50, .ref h51, .int wp22072, .int wp22073, .int wp22074, .int wp22075, .int wp22076, .ref h57, .ref h58, .int wp22077, .ref h60, .int 0, .ref h61, .int wp22078, .ref h63, .ref h64, .int wp22079, .ref h66, .ref h67, .int wp22080, .ref h69, .ref h70, .ref h71, .ref h72, .int wp22081, .int wp22082, .int wp22083, .int wp22084, .ref h77, .ref h78, .ref h79, .ref h80, .ref h81, .ref h82, .ref h83, .ref h84, .ref h85]))), (h57, .inl (y 0, 3, .inl (upd (fun _ => 0) ((0 : Int32).toNatClampNeg) 4))), (h58, .inl (y 0, 18, .inl (upd wf22085 ((0 : Int32).toNatClampNeg) ((p2 / 1000) - (p2 / 1000) / 10 * 10))))] H) (hD : va_D A [(h0, .inr (12, (.ref h4 :: .int wp22065 :: .int wp22066 :: .ref h7 :: .ref h8 :: .ref h9 :: .ref h10 :: .ref h11 :: .ref h12 :: .ref h13 :: .ref h14 :: .ref h15 :: .int wp22067 :: .ref h17 :: .int wp22068 :: .ref h19 :: .int wp22069 :: .ref h21 :: .ref h22 :: .ref h23 :: .ref h24 :: .ref h25 :: .ref h26 :: .ref h27 :: .ref h28 :: .ref h29 :: .ref h30 :: .ref h31 :: .int wp22070 :: .ref h33 :: .ref h34 :: .ref h35 :: .int wp22071 :: [.ref h37, .ref h38, .ref h39, .ref h40, .ref h41, .ref h42, .ref h43, .ref h44, .ref h45, .ref h46, .ref h47, .ref h48, .ref h49, .ref h50, .ref h51, .int wp22072, .int wp22073, .int wp22074, .int wp22075, .int wp22076, .ref h57, .ref h58, .int wp22077, .ref h60, .int 0, .ref h61, .int wp22078, .ref h63, .ref h64, .int wp22079, .ref h66, .ref h67, .int wp22080, .ref h69, .ref h70, .ref h71, .ref h72, .int wp22081, .int wp22082, .int wp22083, .int wp22084, .ref h77, .ref h78, .ref h79, .ref h80, .ref h81, .ref h82, .ref h83, .ref h84, .ref h85]))), (h57, .inl (y 0, 3, .inl (upd (fun _ => 0) ((0 : Int32).toNatClampNeg) 4))), (h58, .inl (y 0, 18, .inl (upd wf22085 ((0 : Int32).toNatClampNeg) ((p2 / 1000) - (p2 / 1000) / 10 * 10))))]) hS => ?_
              obtain ⟨fn22140, hfn22140⟩ : ∃ f9 : Nat → Int32, f9 = (upd wf22085 ((0 : Int32).toNatClampNeg) ((p2 / 1000) - (p2 / 1000) / 10 * 10)) := ⟨_, rfl⟩
              rw [← hfn22140] at hP hD
              clear hfn22140
              refine lv_iinc (v := 1) (lv' := [(4, .int 1), (0, .ref h0), (1, .int 0), (2, .int p2), (3, .int 4)]) hx hb dX12_secret_88 hl (k := 0) rfl (by decide +kernel) (by decide) rfl ?_
              clear hl
              clear ls
              intro ls hl
              refine lv_goto (tgt := 63) hx hb dX12_secret_91 (by decide) ?_
              refine lv_iload hx hb dX12_secret_63 (lv_at hl 0 rfl) ?_
              refine lv_iload_n hx hb dX12_secret_65 rfl (lv_at hl 4 rfl) ?_
              refine lv_icmp_ge (tgt := 94) hx hb dX12_secret_66 (by decide) (fun c9 => absurd c9 (by decide +kernel)) (fun _ => ?_)
              refine lv_aload_n hx hb dX12_secret_69 rfl (lv_at hl 1 rfl) ?_
              refine gm_get (D := D) (ci := 12) (v := .ref h58) (C := RX12) (T := TX12) (N := 83) hx hb hg inlX12 hown hK.1 hP 0 rfl rfl 54 (by decide) tX12_54 (hg _ gw_208) rfl dX12_secret_70 ?_
              refine lv_bipush (v := 6) hx hb dX12_secret_73 (by decide +kernel) ?_
              refine lv_iload_n hx hb dX12_secret_75 rfl (lv_at hl 2 rfl) ?_
              refine lv_imul hx hb dX12_secret_76 ?_
              refine g_fi (v := 0) (by decide +kernel) ?_
              refine lv_iload hx hb dX12_secret_77 (lv_at hl 0 rfl) ?_
              refine lv_iadd hx hb dX12_secret_79 ?_
              refine g_fi (v := 1) (by decide +kernel) ?_
              refine lv_iload_n hx hb dX12_secret_80 rfl (lv_at hl 3 rfl) ?_
              refine lv_iload_n hx hb dX12_secret_81 rfl (lv_at hl 4 rfl) ?_
              refine lv_iload hx hb dX12_secret_82 (lv_at hl 0 rfl) ?_
              refine g_ai (wr := [(h0, .inr (12, (.ref h4 :: .int wp22065 :: .int wp22066 :: .ref h7 :: .ref h8 :: .ref h9 :: .ref h10 :: .ref h11 :: .ref h12 :: .ref h13 :: .ref h14 :: .ref h15 :: .int wp22067 :: .ref h17 :: .int wp22068 :: .ref h19 :: .int wp22069 :: .ref h21 :: .ref h22 :: .ref h23 :: .ref h24 :: .ref h25 :: .ref h26 :: .ref h27 :: .ref h28 :: .ref h29 :: .ref h30 :: .ref h31 :: .int wp22070 :: .ref h33 :: .ref h34 :: .ref h35 :: .int wp22071 :: [.ref h37, .ref h38, .ref h39, .ref h40, .ref h41, .ref h42, .ref h43, .ref h44, .ref h45, .ref h46, .ref h47, .ref h48, .ref h49, .ref h50, .ref h51, .int wp22072, .int wp22073, .int wp22074, .int wp22075, .int wp22076, .ref h57, .ref h58, .int wp22077, .ref h60, .int 0, .ref h61, .int wp22078, .ref h63, .ref h64, .int wp22079, .ref h66, .ref h67, .int wp22080, .ref h69, .ref h70, .ref h71, .ref h72, .int wp22081, .int wp22082, .int wp22083, .int wp22084, .ref h77, .ref h78, .ref h79, .ref h80, .ref h81, .ref h82, .ref h83, .ref h84, .ref h85]))), (h57, .inl (y 0, 3, .inl (upd (fun _ => 0) ((0 : Int32).toNatClampNeg) 4))), (h58, .inl (y 0, 18, .inl fn22140))]) (va_runS (As := [.int p2, .int 4, .int 1]) (rest := [.int 1, .ref h58]) ⟨hx, hb, hml, hown, hg⟩ (k_X12_digitOf_6 l D y aS H.size p2) (va_cwS 3 hg ggS_RX12_484_X12_digitOf rfl rfl rfl (by decide +kernel) ⟨Nat.le_of_ble_eq_true rfl, Nat.le_of_ble_eq_true rfl⟩) (g_preS hK hP hD [] rfl (by decide)) rfl rfl hl.1 rfl (lv_room (Nat.le_of_ble_eq_true rfl)) dX12_secret_84 ⟨Nat.le_of_ble_eq_true rfl, Nat.le_of_ble_eq_true rfl⟩) hP hD hS hA [] [0, 1, 2] rfl rfl (by decide) (by decide) ?_
              clear hP hD hS H locs
              refine fun r22141 u H locs hq hP hD hS => ?_
              subst hq
              replace hP : va_P D vwCl [(h0, .inr (12, (.ref h4 :: .int wp22065 :: .int wp22066 :: .ref h7 :: .ref h8 :: .ref h9 :: .ref h10 :: .ref h11 :: .ref h12 :: .ref h13 :: .ref h14 :: .ref h15 :: .int wp22067 :: .ref h17 :: .int wp22068 :: .ref h19 :: .int wp22069 :: .ref h21 :: .ref h22 :: .ref h23 :: .ref h24 :: .ref h25 :: .ref h26 :: .ref h27 :: .ref h28 :: .ref h29 :: .ref h30 :: .ref h31 :: .int wp22070 :: .ref h33 :: .ref h34 :: .ref h35 :: .int wp22071 :: [.ref h37, .ref h38, .ref h39, .ref h40, .ref h41, .ref h42, .ref h43, .ref h44, .ref h45, .ref h46, .ref h47, .ref h48, .ref h49, .ref h50, .ref h51, .int wp22072, .int wp22073, .int wp22074, .int wp22075, .int wp22076, .ref h57, .ref h58, .int wp22077, .ref h60, .int 0, .ref h61, .int wp22078, .ref h63, .ref h64, .int wp22079, .ref h66, .ref h67, .int wp22080, .ref h69, .ref h70, .ref h71, .ref h72, .int wp22081, .int wp22082, .int wp22083, .int wp22084, .ref h77, .ref h78, .ref h79, .ref h80, .ref h81, .ref h82, .ref h83, .ref h84, .ref h85]))), (h57, .inl (y 0, 3, .inl (upd (fun _ => 0) ((0 : Int32).toNatClampNeg) 4))), (h58, .inl (y 0, 18, .inl fn22140))] H := hP
              replace hD : va_D A [(h0, .inr (12, (.ref h4 :: .int wp22065 :: .int wp22066 :: .ref h7 :: .ref h8 :: .ref h9 :: .ref h10 :: .ref h11 :: .ref h12 :: .ref h13 :: .ref h14 :: .ref h15 :: .int wp22067 :: .ref h17 :: .int wp22068 :: .ref h19 :: .int wp22069 :: .ref h21 :: .ref h22 :: .ref h23 :: .ref h24 :: .ref h25 :: .ref h26 :: .ref h27 :: .ref h28 :: .ref h29 :: .ref h30 :: .ref h31 :: .int wp22070 :: .ref h33 :: .ref h34 :: .ref h35 :: .int wp22071 :: [.ref h37, .ref h38, .ref h39, .ref h40, .ref h41, .ref h42, .ref h43, .ref h44, .ref h45, .ref h46, .ref h47, .ref h48, .ref h49, .ref h50, .ref h51, .int wp22072, .int wp22073, .int wp22074, .int wp22075, .int wp22076, .ref h57, .ref h58, .int wp22077, .ref h60, .int 0, .ref h61, .int wp22078, .ref h63, .ref h64, .int wp22079, .ref h66, .ref h67, .int wp22080, .ref h69, .ref h70, .ref h71, .ref h72, .int wp22081, .int wp22082, .int wp22083, .int wp22084, .ref h77, .ref h78, .ref h79, .ref h80, .ref h81, .ref h82, .ref h83, .ref h84, .ref h85]))), (h57, .inl (y 0, 3, .inl (upd (fun _ => 0) ((0 : Int32).toNatClampNeg) 4))), (h58, .inl (y 0, 18, .inl fn22140))] := hD
              refine va_iast hx hb hK.1 hP hD hS 2 0 rfl rfl (by unfold vp_in; decide +kernel) dX12_secret_87 ?_
              clear hP hD hS H locs
              refine fun H locs (hP : va_P D vwCl [(h0, .inr (12, (.ref h4 :: .int wp22065 :: .int wp22066 :: .ref h7 :: .ref h8 :: .ref h9 :: .ref h10 :: .ref h11 :: .ref h12 :: .ref h13 :: .ref h14 :: .ref h15 :: .int wp22067 :: .ref h17 :: .int wp22068 :: .ref h19 :: .int wp22069 :: .ref h21 :: .ref h22 :: .ref h23 :: .ref h24 :: .ref h25 :: .ref h26 :: .ref h27 :: .ref h28 :: .ref h29 :: .ref h30 :: .ref h31 :: .int wp22070 :: .ref h33 :: .ref h34 :: .ref h35 :: .int wp22071 :: [.ref h37, .ref h38, .ref h39, .ref h40, .ref h41, .ref h42, .ref h43, .ref h44, .ref h45, .ref h46, .ref h47, .ref h48, .ref h49, .ref h50, .ref h51, .int wp22072, .int wp22073, .int wp22074, .int wp22075, .int wp22076, .ref h57, .ref h58, .int wp22077, .ref h60, .int 0, .ref h61, .int wp22078, .ref h63, .ref h64, .int wp22079, .ref h66, .ref h67, .int wp22080, .ref h69, .ref h70, .ref h71, .ref h72, .int wp22081, .int wp22082, .int wp22083, .int wp22084, .ref h77, .ref h78, .ref h79, .ref h80, .ref h81, .ref h82, .ref h83, .ref h84, .ref h85]))), (h57, .inl (y 0, 3, .inl (upd (fun _ => 0) ((0 : Int32).toNatClampNeg) 4))), (h58, .inl (y 0, 18, .inl (upd fn22140 ((1 : Int32).toNatClampNeg) ((p2 / 100) - (p2 / 100) / 10 * 10))))] H) (hD : va_D A [(h0, .inr (12, (.ref h4 :: .int wp22065 :: .int wp22066 :: .ref h7 :: .ref h8 :: .ref h9 :: .ref h10 :: .ref h11 :: .ref h12 :: .ref h13 :: .ref h14 :: .ref h15 :: .int wp22067 :: .ref h17 :: .int wp22068 :: .ref h19 :: .int wp22069 :: .ref h21 :: .ref h22 :: .ref h23 :: .ref h24 :: .ref h25 :: .ref h26 :: .ref h27 :: .ref h28 :: .ref h29 :: .ref h30 :: .ref h31 :: .int wp22070 :: .ref h33 :: .ref h34 :: .ref h35 :: .int wp22071 :: [.ref h37, .ref h38, .ref h39, .ref h40, .ref h41, .ref h42, .ref h43, .ref h44, .ref h45, .ref h46, .ref h47, .ref h48, .ref h49, .ref h50, .ref h51, .int wp22072, .int wp22073, .int wp22074, .int wp22075, .int wp22076, .ref h57, .ref h58, .int wp22077, .ref h60, .int 0, .ref h61, .int wp22078, .ref h63, .ref h64, .int wp22079, .ref h66, .ref h67, .int wp22080, .ref h69, .ref h70, .ref h71, .ref h72, .int wp22081, .int wp22082, .int wp22083, .int wp22084, .ref h77, .ref h78, .ref h79, .ref h80, .ref h81, .ref h82, .ref h83, .ref h84, .ref h85]))), (h57, .inl (y 0, 3, .inl (upd (fun _ => 0) ((0 : Int32).toNatClampNeg) 4))), (h58, .inl (y 0, 18, .inl (upd fn22140 ((1 : Int32).toNatClampNeg) ((p2 / 100) - (p2 / 100) / 10 * 10))))]) hS => ?_
              obtain ⟨fn22142, hfn22142⟩ : ∃ f9 : Nat → Int32, f9 = (upd fn22140 ((1 : Int32).toNatClampNeg) ((p2 / 100) - (p2 / 100) / 10 * 10)) := ⟨_, rfl⟩
              rw [← hfn22142] at hP hD
              clear hfn22142
              refine lv_iinc (v := 2) (lv' := [(4, .int 2), (0, .ref h0), (1, .int 0), (2, .int p2), (3, .int 4)]) hx hb dX12_secret_88 hl (k := 0) rfl (by decide +kernel) (by decide) rfl ?_
              clear hl
              clear ls
              intro ls hl
              refine lv_goto (tgt := 63) hx hb dX12_secret_91 (by decide) ?_
              refine lv_iload hx hb dX12_secret_63 (lv_at hl 0 rfl) ?_
              refine lv_iload_n hx hb dX12_secret_65 rfl (lv_at hl 4 rfl) ?_
              refine lv_icmp_ge (tgt := 94) hx hb dX12_secret_66 (by decide) (fun c9 => absurd c9 (by decide +kernel)) (fun _ => ?_)
              refine lv_aload_n hx hb dX12_secret_69 rfl (lv_at hl 1 rfl) ?_
              refine gm_get (D := D) (ci := 12) (v := .ref h58) (C := RX12) (T := TX12) (N := 83) hx hb hg inlX12 hown hK.1 hP 0 rfl rfl 54 (by decide) tX12_54 (hg _ gw_208) rfl dX12_secret_70 ?_
              refine lv_bipush (v := 6) hx hb dX12_secret_73 (by decide +kernel) ?_
              refine lv_iload_n hx hb dX12_secret_75 rfl (lv_at hl 2 rfl) ?_
              refine lv_imul hx hb dX12_secret_76 ?_
              refine g_fi (v := 0) (by decide +kernel) ?_
              refine lv_iload hx hb dX12_secret_77 (lv_at hl 0 rfl) ?_
              refine lv_iadd hx hb dX12_secret_79 ?_
              refine g_fi (v := 2) (by decide +kernel) ?_
              refine lv_iload_n hx hb dX12_secret_80 rfl (lv_at hl 3 rfl) ?_
              refine lv_iload_n hx hb dX12_secret_81 rfl (lv_at hl 4 rfl) ?_
              refine lv_iload hx hb dX12_secret_82 (lv_at hl 0 rfl) ?_
              refine g_ai (wr := [(h0, .inr (12, (.ref h4 :: .int wp22065 :: .int wp22066 :: .ref h7 :: .ref h8 :: .ref h9 :: .ref h10 :: .ref h11 :: .ref h12 :: .ref h13 :: .ref h14 :: .ref h15 :: .int wp22067 :: .ref h17 :: .int wp22068 :: .ref h19 :: .int wp22069 :: .ref h21 :: .ref h22 :: .ref h23 :: .ref h24 :: .ref h25 :: .ref h26 :: .ref h27 :: .ref h28 :: .ref h29 :: .ref h30 :: .ref h31 :: .int wp22070 :: .ref h33 :: .ref h34 :: .ref h35 :: .int wp22071 :: [.ref h37, .ref h38, .ref h39, .ref h40, .ref h41, .ref h42, .ref h43, .ref h44, .ref h45, .ref h46, .ref h47, .ref h48, .ref h49, .ref h50, .ref h51, .int wp22072, .int wp22073, .int wp22074, .int wp22075, .int wp22076, .ref h57, .ref h58, .int wp22077, .ref h60, .int 0, .ref h61, .int wp22078, .ref h63, .ref h64, .int wp22079, .ref h66, .ref h67, .int wp22080, .ref h69, .ref h70, .ref h71, .ref h72, .int wp22081, .int wp22082, .int wp22083, .int wp22084, .ref h77, .ref h78, .ref h79, .ref h80, .ref h81, .ref h82, .ref h83, .ref h84, .ref h85]))), (h57, .inl (y 0, 3, .inl (upd (fun _ => 0) ((0 : Int32).toNatClampNeg) 4))), (h58, .inl (y 0, 18, .inl fn22142))]) (va_runS (As := [.int p2, .int 4, .int 2]) (rest := [.int 2, .ref h58]) ⟨hx, hb, hml, hown, hg⟩ (k_X12_digitOf_7 l D y aS H.size p2) (va_cwS 3 hg ggS_RX12_484_X12_digitOf rfl rfl rfl (by decide +kernel) ⟨Nat.le_of_ble_eq_true rfl, Nat.le_of_ble_eq_true rfl⟩) (g_preS hK hP hD [] rfl (by decide)) rfl rfl hl.1 rfl (lv_room (Nat.le_of_ble_eq_true rfl)) dX12_secret_84 ⟨Nat.le_of_ble_eq_true rfl, Nat.le_of_ble_eq_true rfl⟩) hP hD hS hA [] [0, 1, 2] rfl rfl (by decide) (by decide) ?_
              clear hP hD hS H locs
              refine fun r22143 u H locs hq hP hD hS => ?_
              subst hq
              replace hP : va_P D vwCl [(h0, .inr (12, (.ref h4 :: .int wp22065 :: .int wp22066 :: .ref h7 :: .ref h8 :: .ref h9 :: .ref h10 :: .ref h11 :: .ref h12 :: .ref h13 :: .ref h14 :: .ref h15 :: .int wp22067 :: .ref h17 :: .int wp22068 :: .ref h19 :: .int wp22069 :: .ref h21 :: .ref h22 :: .ref h23 :: .ref h24 :: .ref h25 :: .ref h26 :: .ref h27 :: .ref h28 :: .ref h29 :: .ref h30 :: .ref h31 :: .int wp22070 :: .ref h33 :: .ref h34 :: .ref h35 :: .int wp22071 :: [.ref h37, .ref h38, .ref h39, .ref h40, .ref h41, .ref h42, .ref h43, .ref h44, .ref h45, .ref h46, .ref h47, .ref h48, .ref h49, .ref h50, .ref h51, .int wp22072, .int wp22073, .int wp22074, .int wp22075, .int wp22076, .ref h57, .ref h58, .int wp22077, .ref h60, .int 0, .ref h61, .int wp22078, .ref h63, .ref h64, .int wp22079, .ref h66, .ref h67, .int wp22080, .ref h69, .ref h70, .ref h71, .ref h72, .int wp22081, .int wp22082, .int wp22083, .int wp22084, .ref h77, .ref h78, .ref h79, .ref h80, .ref h81, .ref h82, .ref h83, .ref h84, .ref h85]))), (h57, .inl (y 0, 3, .inl (upd (fun _ => 0) ((0 : Int32).toNatClampNeg) 4))), (h58, .inl (y 0, 18, .inl fn22142))] H := hP
              replace hD : va_D A [(h0, .inr (12, (.ref h4 :: .int wp22065 :: .int wp22066 :: .ref h7 :: .ref h8 :: .ref h9 :: .ref h10 :: .ref h11 :: .ref h12 :: .ref h13 :: .ref h14 :: .ref h15 :: .int wp22067 :: .ref h17 :: .int wp22068 :: .ref h19 :: .int wp22069 :: .ref h21 :: .ref h22 :: .ref h23 :: .ref h24 :: .ref h25 :: .ref h26 :: .ref h27 :: .ref h28 :: .ref h29 :: .ref h30 :: .ref h31 :: .int wp22070 :: .ref h33 :: .ref h34 :: .ref h35 :: .int wp22071 :: [.ref h37, .ref h38, .ref h39, .ref h40, .ref h41, .ref h42, .ref h43, .ref h44, .ref h45, .ref h46, .ref h47, .ref h48, .ref h49, .ref h50, .ref h51, .int wp22072, .int wp22073, .int wp22074, .int wp22075, .int wp22076, .ref h57, .ref h58, .int wp22077, .ref h60, .int 0, .ref h61, .int wp22078, .ref h63, .ref h64, .int wp22079, .ref h66, .ref h67, .int wp22080, .ref h69, .ref h70, .ref h71, .ref h72, .int wp22081, .int wp22082, .int wp22083, .int wp22084, .ref h77, .ref h78, .ref h79, .ref h80, .ref h81, .ref h82, .ref h83, .ref h84, .ref h85]))), (h57, .inl (y 0, 3, .inl (upd (fun _ => 0) ((0 : Int32).toNatClampNeg) 4))), (h58, .inl (y 0, 18, .inl fn22142))] := hD
              refine va_iast hx hb hK.1 hP hD hS 2 0 rfl rfl (by unfold vp_in; decide +kernel) dX12_secret_87 ?_
              clear hP hD hS H locs
              refine fun H locs (hP : va_P D vwCl [(h0, .inr (12, (.ref h4 :: .int wp22065 :: .int wp22066 :: .ref h7 :: .ref h8 :: .ref h9 :: .ref h10 :: .ref h11 :: .ref h12 :: .ref h13 :: .ref h14 :: .ref h15 :: .int wp22067 :: .ref h17 :: .int wp22068 :: .ref h19 :: .int wp22069 :: .ref h21 :: .ref h22 :: .ref h23 :: .ref h24 :: .ref h25 :: .ref h26 :: .ref h27 :: .ref h28 :: .ref h29 :: .ref h30 :: .ref h31 :: .int wp22070 :: .ref h33 :: .ref h34 :: .ref h35 :: .int wp22071 :: [.ref h37, .ref h38, .ref h39, .ref h40, .ref h41, .ref h42, .ref h43, .ref h44, .ref h45, .ref h46, .ref h47, .ref h48, .ref h49, .ref h50, .ref h51, .int wp22072, .int wp22073, .int wp22074, .int wp22075, .int wp22076, .ref h57, .ref h58, .int wp22077, .ref h60, .int 0, .ref h61, .int wp22078, .ref h63, .ref h64, .int wp22079, .ref h66, .ref h67, .int wp22080, .ref h69, .ref h70, .ref h71, .ref h72, .int wp22081, .int wp22082, .int wp22083, .int wp22084, .ref h77, .ref h78, .ref h79, .ref h80, .ref h81, .ref h82, .ref h83, .ref h84, .ref h85]))), (h57, .inl (y 0, 3, .inl (upd (fun _ => 0) ((0 : Int32).toNatClampNeg) 4))), (h58, .inl (y 0, 18, .inl (upd fn22142 ((2 : Int32).toNatClampNeg) ((p2 / 10) - (p2 / 10) / 10 * 10))))] H) (hD : va_D A [(h0, .inr (12, (.ref h4 :: .int wp22065 :: .int wp22066 :: .ref h7 :: .ref h8 :: .ref h9 :: .ref h10 :: .ref h11 :: .ref h12 :: .ref h13 :: .ref h14 :: .ref h15 :: .int wp22067 :: .ref h17 :: .int wp22068 :: .ref h19 :: .int wp22069 :: .ref h21 :: .ref h22 :: .ref h23 :: .ref h24 :: .ref h25 :: .ref h26 :: .ref h27 :: .ref h28 :: .ref h29 :: .ref h30 :: .ref h31 :: .int wp22070 :: .ref h33 :: .ref h34 :: .ref h35 :: .int wp22071 :: [.ref h37, .ref h38, .ref h39, .ref h40, .ref h41, .ref h42, .ref h43, .ref h44, .ref h45, .ref h46, .ref h47, .ref h48, .ref h49, .ref h50, .ref h51, .int wp22072, .int wp22073, .int wp22074, .int wp22075, .int wp22076, .ref h57, .ref h58, .int wp22077, .ref h60, .int 0, .ref h61, .int wp22078, .ref h63, .ref h64, .int wp22079, .ref h66, .ref h67, .int wp22080, .ref h69, .ref h70, .ref h71, .ref h72, .int wp22081, .int wp22082, .int wp22083, .int wp22084, .ref h77, .ref h78, .ref h79, .ref h80, .ref h81, .ref h82, .ref h83, .ref h84, .ref h85]))), (h57, .inl (y 0, 3, .inl (upd (fun _ => 0) ((0 : Int32).toNatClampNeg) 4))), (h58, .inl (y 0, 18, .inl (upd fn22142 ((2 : Int32).toNatClampNeg) ((p2 / 10) - (p2 / 10) / 10 * 10))))]) hS => ?_
              obtain ⟨fn22144, hfn22144⟩ : ∃ f9 : Nat → Int32, f9 = (upd fn22142 ((2 : Int32).toNatClampNeg) ((p2 / 10) - (p2 / 10) / 10 * 10)) := ⟨_, rfl⟩
              rw [← hfn22144] at hP hD
              clear hfn22144
              refine lv_iinc (v := 3) (lv' := [(4, .int 3), (0, .ref h0), (1, .int 0), (2, .int p2), (3, .int 4)]) hx hb dX12_secret_88 hl (k := 0) rfl (by decide +kernel) (by decide) rfl ?_
              clear hl
              clear ls
              intro ls hl
              refine lv_goto (tgt := 63) hx hb dX12_secret_91 (by decide) ?_
              refine lv_iload hx hb dX12_secret_63 (lv_at hl 0 rfl) ?_
              refine lv_iload_n hx hb dX12_secret_65 rfl (lv_at hl 4 rfl) ?_
              refine lv_icmp_ge (tgt := 94) hx hb dX12_secret_66 (by decide) (fun c9 => absurd c9 (by decide +kernel)) (fun _ => ?_)
              refine lv_aload_n hx hb dX12_secret_69 rfl (lv_at hl 1 rfl) ?_
              refine gm_get (D := D) (ci := 12) (v := .ref h58) (C := RX12) (T := TX12) (N := 83) hx hb hg inlX12 hown hK.1 hP 0 rfl rfl 54 (by decide) tX12_54 (hg _ gw_208) rfl dX12_secret_70 ?_
              refine lv_bipush (v := 6) hx hb dX12_secret_73 (by decide +kernel) ?_
              refine lv_iload_n hx hb dX12_secret_75 rfl (lv_at hl 2 rfl) ?_
              refine lv_imul hx hb dX12_secret_76 ?_
              refine g_fi (v := 0) (by decide +kernel) ?_
              refine lv_iload hx hb dX12_secret_77 (lv_at hl 0 rfl) ?_
              refine lv_iadd hx hb dX12_secret_79 ?_
              refine g_fi (v := 3) (by decide +kernel) ?_
              refine lv_iload_n hx hb dX12_secret_80 rfl (lv_at hl 3 rfl) ?_
              refine lv_iload_n hx hb dX12_secret_81 rfl (lv_at hl 4 rfl) ?_
              refine lv_iload hx hb dX12_secret_82 (lv_at hl 0 rfl) ?_
              refine g_ai (wr := [(h0, .inr (12, (.ref h4 :: .int wp22065 :: .int wp22066 :: .ref h7 :: .ref h8 :: .ref h9 :: .ref h10 :: .ref h11 :: .ref h12 :: .ref h13 :: .ref h14 :: .ref h15 :: .int wp22067 :: .ref h17 :: .int wp22068 :: .ref h19 :: .int wp22069 :: .ref h21 :: .ref h22 :: .ref h23 :: .ref h24 :: .ref h25 :: .ref h26 :: .ref h27 :: .ref h28 :: .ref h29 :: .ref h30 :: .ref h31 :: .int wp22070 :: .ref h33 :: .ref h34 :: .ref h35 :: .int wp22071 :: [.ref h37, .ref h38, .ref h39, .ref h40, .ref h41, .ref h42, .ref h43, .ref h44, .ref h45, .ref h46, .ref h47, .ref h48, .ref h49, .ref h50, .ref h51, .int wp22072, .int wp22073, .int wp22074, .int wp22075, .int wp22076, .ref h57, .ref h58, .int wp22077, .ref h60, .int 0, .ref h61, .int wp22078, .ref h63, .ref h64, .int wp22079, .ref h66, .ref h67, .int wp22080, .ref h69, .ref h70, .ref h71, .ref h72, .int wp22081, .int wp22082, .int wp22083, .int wp22084, .ref h77, .ref h78, .ref h79, .ref h80, .ref h81, .ref h82, .ref h83, .ref h84, .ref h85]))), (h57, .inl (y 0, 3, .inl (upd (fun _ => 0) ((0 : Int32).toNatClampNeg) 4))), (h58, .inl (y 0, 18, .inl fn22144))]) (va_runS (As := [.int p2, .int 4, .int 3]) (rest := [.int 3, .ref h58]) ⟨hx, hb, hml, hown, hg⟩ (k_X12_digitOf_8 l D y aS H.size p2) (va_cwS 3 hg ggS_RX12_484_X12_digitOf rfl rfl rfl (by decide +kernel) ⟨Nat.le_of_ble_eq_true rfl, Nat.le_of_ble_eq_true rfl⟩) (g_preS hK hP hD [] rfl (by decide)) rfl rfl hl.1 rfl (lv_room (Nat.le_of_ble_eq_true rfl)) dX12_secret_84 ⟨Nat.le_of_ble_eq_true rfl, Nat.le_of_ble_eq_true rfl⟩) hP hD hS hA [] [0, 1, 2] rfl rfl (by decide) (by decide) ?_
              clear hP hD hS H locs
              refine fun r22145 u H locs hq hP hD hS => ?_
              subst hq
              replace hP : va_P D vwCl [(h0, .inr (12, (.ref h4 :: .int wp22065 :: .int wp22066 :: .ref h7 :: .ref h8 :: .ref h9 :: .ref h10 :: .ref h11 :: .ref h12 :: .ref h13 :: .ref h14 :: .ref h15 :: .int wp22067 :: .ref h17 :: .int wp22068 :: .ref h19 :: .int wp22069 :: .ref h21 :: .ref h22 :: .ref h23 :: .ref h24 :: .ref h25 :: .ref h26 :: .ref h27 :: .ref h28 :: .ref h29 :: .ref h30 :: .ref h31 :: .int wp22070 :: .ref h33 :: .ref h34 :: .ref h35 :: .int wp22071 :: [.ref h37, .ref h38, .ref h39, .ref h40, .ref h41, .ref h42, .ref h43, .ref h44, .ref h45, .ref h46, .ref h47, .ref h48, .ref h49, .ref h50, .ref h51, .int wp22072, .int wp22073, .int wp22074, .int wp22075, .int wp22076, .ref h57, .ref h58, .int wp22077, .ref h60, .int 0, .ref h61, .int wp22078, .ref h63, .ref h64, .int wp22079, .ref h66, .ref h67, .int wp22080, .ref h69, .ref h70, .ref h71, .ref h72, .int wp22081, .int wp22082, .int wp22083, .int wp22084, .ref h77, .ref h78, .ref h79, .ref h80, .ref h81, .ref h82, .ref h83, .ref h84, .ref h85]))), (h57, .inl (y 0, 3, .inl (upd (fun _ => 0) ((0 : Int32).toNatClampNeg) 4))), (h58, .inl (y 0, 18, .inl fn22144))] H := hP
              replace hD : va_D A [(h0, .inr (12, (.ref h4 :: .int wp22065 :: .int wp22066 :: .ref h7 :: .ref h8 :: .ref h9 :: .ref h10 :: .ref h11 :: .ref h12 :: .ref h13 :: .ref h14 :: .ref h15 :: .int wp22067 :: .ref h17 :: .int wp22068 :: .ref h19 :: .int wp22069 :: .ref h21 :: .ref h22 :: .ref h23 :: .ref h24 :: .ref h25 :: .ref h26 :: .ref h27 :: .ref h28 :: .ref h29 :: .ref h30 :: .ref h31 :: .int wp22070 :: .ref h33 :: .ref h34 :: .ref h35 :: .int wp22071 :: [.ref h37, .ref h38, .ref h39, .ref h40, .ref h41, .ref h42, .ref h43, .ref h44, .ref h45, .ref h46, .ref h47, .ref h48, .ref h49, .ref h50, .ref h51, .int wp22072, .int wp22073, .int wp22074, .int wp22075, .int wp22076, .ref h57, .ref h58, .int wp22077, .ref h60, .int 0, .ref h61, .int wp22078, .ref h63, .ref h64, .int wp22079, .ref h66, .ref h67, .int wp22080, .ref h69, .ref h70, .ref h71, .ref h72, .int wp22081, .int wp22082, .int wp22083, .int wp22084, .ref h77, .ref h78, .ref h79, .ref h80, .ref h81, .ref h82, .ref h83, .ref h84, .ref h85]))), (h57, .inl (y 0, 3, .inl (upd (fun _ => 0) ((0 : Int32).toNatClampNeg) 4))), (h58, .inl (y 0, 18, .inl fn22144))] := hD
              refine va_iast hx hb hK.1 hP hD hS 2 0 rfl rfl (by unfold vp_in; decide +kernel) dX12_secret_87 ?_
              clear hP hD hS H locs
              refine fun H locs (hP : va_P D vwCl [(h0, .inr (12, (.ref h4 :: .int wp22065 :: .int wp22066 :: .ref h7 :: .ref h8 :: .ref h9 :: .ref h10 :: .ref h11 :: .ref h12 :: .ref h13 :: .ref h14 :: .ref h15 :: .int wp22067 :: .ref h17 :: .int wp22068 :: .ref h19 :: .int wp22069 :: .ref h21 :: .ref h22 :: .ref h23 :: .ref h24 :: .ref h25 :: .ref h26 :: .ref h27 :: .ref h28 :: .ref h29 :: .ref h30 :: .ref h31 :: .int wp22070 :: .ref h33 :: .ref h34 :: .ref h35 :: .int wp22071 :: [.ref h37, .ref h38, .ref h39, .ref h40, .ref h41, .ref h42, .ref h43, .ref h44, .ref h45, .ref h46, .ref h47, .ref h48, .ref h49, .ref h50, .ref h51, .int wp22072, .int wp22073, .int wp22074, .int wp22075, .int wp22076, .ref h57, .ref h58, .int wp22077, .ref h60, .int 0, .ref h61, .int wp22078, .ref h63, .ref h64, .int wp22079, .ref h66, .ref h67, .int wp22080, .ref h69, .ref h70, .ref h71, .ref h72, .int wp22081, .int wp22082, .int wp22083, .int wp22084, .ref h77, .ref h78, .ref h79, .ref h80, .ref h81, .ref h82, .ref h83, .ref h84, .ref h85]))), (h57, .inl (y 0, 3, .inl (upd (fun _ => 0) ((0 : Int32).toNatClampNeg) 4))), (h58, .inl (y 0, 18, .inl (upd fn22144 ((3 : Int32).toNatClampNeg) ((p2 / 1) - (p2 / 1) / 10 * 10))))] H) (hD : va_D A [(h0, .inr (12, (.ref h4 :: .int wp22065 :: .int wp22066 :: .ref h7 :: .ref h8 :: .ref h9 :: .ref h10 :: .ref h11 :: .ref h12 :: .ref h13 :: .ref h14 :: .ref h15 :: .int wp22067 :: .ref h17 :: .int wp22068 :: .ref h19 :: .int wp22069 :: .ref h21 :: .ref h22 :: .ref h23 :: .ref h24 :: .ref h25 :: .ref h26 :: .ref h27 :: .ref h28 :: .ref h29 :: .ref h30 :: .ref h31 :: .int wp22070 :: .ref h33 :: .ref h34 :: .ref h35 :: .int wp22071 :: [.ref h37, .ref h38, .ref h39, .ref h40, .ref h41, .ref h42, .ref h43, .ref h44, .ref h45, .ref h46, .ref h47, .ref h48, .ref h49, .ref h50, .ref h51, .int wp22072, .int wp22073, .int wp22074, .int wp22075, .int wp22076, .ref h57, .ref h58, .int wp22077, .ref h60, .int 0, .ref h61, .int wp22078, .ref h63, .ref h64, .int wp22079, .ref h66, .ref h67, .int wp22080, .ref h69, .ref h70, .ref h71, .ref h72, .int wp22081, .int wp22082, .int wp22083, .int wp22084, .ref h77, .ref h78, .ref h79, .ref h80, .ref h81, .ref h82, .ref h83, .ref h84, .ref h85]))), (h57, .inl (y 0, 3, .inl (upd (fun _ => 0) ((0 : Int32).toNatClampNeg) 4))), (h58, .inl (y 0, 18, .inl (upd fn22144 ((3 : Int32).toNatClampNeg) ((p2 / 1) - (p2 / 1) / 10 * 10))))]) hS => ?_
              obtain ⟨fn22146, hfn22146⟩ : ∃ f9 : Nat → Int32, f9 = (upd fn22144 ((3 : Int32).toNatClampNeg) ((p2 / 1) - (p2 / 1) / 10 * 10)) := ⟨_, rfl⟩
              rw [← hfn22146] at hP hD
              clear hfn22146
              refine lv_iinc (v := 4) (lv' := [(4, .int 4), (0, .ref h0), (1, .int 0), (2, .int p2), (3, .int 4)]) hx hb dX12_secret_88 hl (k := 0) rfl (by decide +kernel) (by decide) rfl ?_
              clear hl
              clear ls
              intro ls hl
              refine lv_goto (tgt := 63) hx hb dX12_secret_91 (by decide) ?_
              refine lv_iload hx hb dX12_secret_63 (lv_at hl 0 rfl) ?_
              refine lv_iload_n hx hb dX12_secret_65 rfl (lv_at hl 4 rfl) ?_
              refine lv_icmp_ge (tgt := 94) hx hb dX12_secret_66 (by decide) (fun _ => ?_) (fun c9 => absurd c9 (by decide +kernel))
              refine lv_iconst (v := 0) hx hb dX12_secret_94 (by decide) ?_
              refine lv_istore (lv' := [(4, .int 0), (0, .ref h0), (1, .int 0), (2, .int p2), (3, .int 4)]) hx hb dX12_secret_95 hl (by decide) rfl ?_
              clear hl
              clear ls
              intro ls hl
              refine lv_iconst (v := 0) hx hb dX12_secret_97 (by decide) ?_
              refine lv_istore (lv' := [(5, .int 0), (4, .int 0), (0, .ref h0), (1, .int 0), (2, .int p2), (3, .int 4)]) hx hb dX12_secret_98 hl (by decide) rfl ?_
              clear hl
              clear ls
              intro ls hl
              refine lv_iload hx hb dX12_secret_100 (lv_at hl 0 rfl) ?_
              refine lv_iconst (v := 3) hx hb dX12_secret_102 (by decide) ?_
              refine lv_icmp_ge (tgt := 132) hx hb dX12_secret_103 (by decide) (fun c9 => absurd c9 (by decide +kernel)) (fun _ => ?_)
              refine lv_iload hx hb dX12_secret_106 (lv_at hl 1 rfl) ?_
              refine lv_aload_n hx hb dX12_secret_108 rfl (lv_at hl 2 rfl) ?_
              refine gm_get (D := D) (ci := 12) (v := .ref h57) (C := RX12) (T := TX12) (N := 83) hx hb hg inlX12 hown hK.1 hP 0 rfl rfl 53 (by decide) tX12_53 (hg _ gw_207) rfl dX12_secret_109 ?_
              refine lv_iload hx hb dX12_secret_112 (lv_at hl 0 rfl) ?_
              refine va_iald hx hb hK.1 hP 1 0 rfl rfl (by unfold vp_in; decide +kernel) dX12_secret_114 ?_
              refine g_fi (v := 4) (by rfl) ?_
              refine lv_if_le (tgt := 122) hx hb dX12_secret_115 (by decide) (fun c9 => absurd c9 (by decide +kernel)) (fun _ => ?_)
              refine lv_iconst (v := 1) hx hb dX12_secret_118 (by decide) ?_
              refine lv_goto (tgt := 123) hx hb dX12_secret_119 (by decide) ?_
              refine lv_iadd hx hb dX12_secret_123 ?_
              refine g_fi (v := 1) (by decide +kernel) ?_
              refine lv_istore (lv' := [(4, .int 1), (5, .int 0), (0, .ref h0), (1, .int 0), (2, .int p2), (3, .int 4)]) hx hb dX12_secret_124 hl (by decide) rfl ?_
              clear hl
              clear ls
              intro ls hl
              refine lv_iinc (v := 1) (lv' := [(5, .int 1), (4, .int 1), (0, .ref h0), (1, .int 0), (2, .int p2), (3, .int 4)]) hx hb dX12_secret_126 hl (k := 1) rfl (by decide +kernel) (by decide) rfl ?_
              clear hl
              clear ls
              intro ls hl
              refine lv_goto (tgt := 100) hx hb dX12_secret_129 (by decide) ?_
              refine lv_iload hx hb dX12_secret_100 (lv_at hl 0 rfl) ?_
              refine lv_iconst (v := 3) hx hb dX12_secret_102 (by decide) ?_
              refine lv_icmp_ge (tgt := 132) hx hb dX12_secret_103 (by decide) (fun c9 => absurd c9 (by decide +kernel)) (fun _ => ?_)
              refine lv_iload hx hb dX12_secret_106 (lv_at hl 1 rfl) ?_
              refine lv_aload_n hx hb dX12_secret_108 rfl (lv_at hl 2 rfl) ?_
              refine gm_get (D := D) (ci := 12) (v := .ref h57) (C := RX12) (T := TX12) (N := 83) hx hb hg inlX12 hown hK.1 hP 0 rfl rfl 53 (by decide) tX12_53 (hg _ gw_207) rfl dX12_secret_109 ?_
              refine lv_iload hx hb dX12_secret_112 (lv_at hl 0 rfl) ?_
              refine va_iald hx hb hK.1 hP 1 0 rfl rfl (by unfold vp_in; decide +kernel) dX12_secret_114 ?_
              refine g_fi (v := 0) (by rfl) ?_
              refine lv_if_le (tgt := 122) hx hb dX12_secret_115 (by decide) (fun _ => ?_) (fun c9 => absurd c9 (by decide +kernel))
              refine lv_iconst (v := 0) hx hb dX12_secret_122 (by decide) ?_
              refine lv_iadd hx hb dX12_secret_123 ?_
              refine g_fi (v := 1) (by decide +kernel) ?_
              refine lv_istore (lv' := [(4, .int 1), (5, .int 1), (0, .ref h0), (1, .int 0), (2, .int p2), (3, .int 4)]) hx hb dX12_secret_124 hl (by decide) rfl ?_
              clear hl
              clear ls
              intro ls hl
              refine lv_iinc (v := 2) (lv' := [(5, .int 2), (4, .int 1), (0, .ref h0), (1, .int 0), (2, .int p2), (3, .int 4)]) hx hb dX12_secret_126 hl (k := 1) rfl (by decide +kernel) (by decide) rfl ?_
              clear hl
              clear ls
              intro ls hl
              refine lv_goto (tgt := 100) hx hb dX12_secret_129 (by decide) ?_
              refine lv_iload hx hb dX12_secret_100 (lv_at hl 0 rfl) ?_
              refine lv_iconst (v := 3) hx hb dX12_secret_102 (by decide) ?_
              refine lv_icmp_ge (tgt := 132) hx hb dX12_secret_103 (by decide) (fun c9 => absurd c9 (by decide +kernel)) (fun _ => ?_)
              refine lv_iload hx hb dX12_secret_106 (lv_at hl 1 rfl) ?_
              refine lv_aload_n hx hb dX12_secret_108 rfl (lv_at hl 2 rfl) ?_
              refine gm_get (D := D) (ci := 12) (v := .ref h57) (C := RX12) (T := TX12) (N := 83) hx hb hg inlX12 hown hK.1 hP 0 rfl rfl 53 (by decide) tX12_53 (hg _ gw_207) rfl dX12_secret_109 ?_
              refine lv_iload hx hb dX12_secret_112 (lv_at hl 0 rfl) ?_
              refine va_iald hx hb hK.1 hP 1 0 rfl rfl (by unfold vp_in; decide +kernel) dX12_secret_114 ?_
              refine g_fi (v := 0) (by rfl) ?_
              refine lv_if_le (tgt := 122) hx hb dX12_secret_115 (by decide) (fun _ => ?_) (fun c9 => absurd c9 (by decide +kernel))
              refine lv_iconst (v := 0) hx hb dX12_secret_122 (by decide) ?_
              refine lv_iadd hx hb dX12_secret_123 ?_
              refine g_fi (v := 1) (by decide +kernel) ?_
              refine lv_istore (lv' := [(4, .int 1), (5, .int 2), (0, .ref h0), (1, .int 0), (2, .int p2), (3, .int 4)]) hx hb dX12_secret_124 hl (by decide) rfl ?_
              clear hl
              clear ls
              intro ls hl
              refine lv_iinc (v := 3) (lv' := [(5, .int 3), (4, .int 1), (0, .ref h0), (1, .int 0), (2, .int p2), (3, .int 4)]) hx hb dX12_secret_126 hl (k := 1) rfl (by decide +kernel) (by decide) rfl ?_
              clear hl
              clear ls
              intro ls hl
              refine lv_goto (tgt := 100) hx hb dX12_secret_129 (by decide) ?_
              refine lv_iload hx hb dX12_secret_100 (lv_at hl 0 rfl) ?_
              refine lv_iconst (v := 3) hx hb dX12_secret_102 (by decide) ?_
              refine lv_icmp_ge (tgt := 132) hx hb dX12_secret_103 (by decide) (fun _ => ?_) (fun c9 => absurd c9 (by decide +kernel))
              refine lv_iload hx hb dX12_secret_132 (lv_at hl 1 rfl) ?_
              exact g_iret hx hb hr hlocks ⟨0, (upd (fun _ => 0) ((0 : Int32).toNatClampNeg) 4), fn22146⟩ hP hD hS rfl (Or.inr (Or.inr (Or.inr (Or.inr (Or.inr (Or.inr (Or.inr (Or.inr (Or.inr (Or.inr (Or.inr (Or.inr (Or.inr (Or.inl ⟨rfl, rfl, rfl, (by first | omega | (simp_all; done)), (by first | omega | (simp_all; done)), (by first | omega | (simp_all; done)), (by first | omega | (simp_all; done)), (by first | omega | (simp_all; done)), (by first | omega | (simp_all; done))⟩)))))))))))))) (Nat.le_of_ble_eq_true rfl) (Nat.le_of_ble_eq_true rfl) dX12_secret_134
            ·
              refine lv_aload_n hx hb dX12_secret_53 rfl (lv_at hl 0 rfl) ?_
              refine gm_get (D := D) (ci := 12) (v := .ref h57) (C := RX12) (T := TX12) (N := 83) hx hb hg inlX12 hown hK.1 hP 0 rfl rfl 53 (by decide) tX12_53 (hg _ gw_207) rfl dX12_secret_54 ?_
              refine lv_iload_n hx hb dX12_secret_57 rfl (lv_at hl 1 rfl) ?_
              refine lv_iload_n hx hb dX12_secret_58 rfl (lv_at hl 3 rfl) ?_
              refine va_iast hx hb hK.1 hP hD hS 1 0 rfl rfl (by unfold vp_in; decide +kernel) dX12_secret_59 ?_
              clear hP hD hS H locs
              refine fun H locs (hP : va_P D vwCl [(h0, .inr (12, (.ref h4 :: .int wp22065 :: .int wp22066 :: .ref h7 :: .ref h8 :: .ref h9 :: .ref h10 :: .ref h11 :: .ref h12 :: .ref h13 :: .ref h14 :: .ref h15 :: .int wp22067 :: .ref h17 :: .int wp22068 :: .ref h19 :: .int wp22069 :: .ref h21 :: .ref h22 :: .ref h23 :: .ref h24 :: .ref h25 :: .ref h26 :: .ref h27 :: .ref h28 :: .ref h29 :: .ref h30 :: .ref h31 :: .int wp22070 :: .ref h33 :: .ref h34 :: .ref h35 :: .int wp22071 :: [.ref h37, .ref h38, .ref h39, .ref h40, .ref h41, .ref h42, .ref h43, .ref h44, .ref h45, .ref h46, .ref h47, .ref h48, .ref h49, .ref h50, .ref h51, .int wp22072, .int wp22073, .int wp22074, .int wp22075, .int wp22076, .ref h57, .ref h58, .int wp22077, .ref h60, .int 0, .ref h61, .int wp22078, .ref h63, .ref h64, .int wp22079, .ref h66, .ref h67, .int wp22080, .ref h69, .ref h70, .ref h71, .ref h72, .int wp22081, .int wp22082, .int wp22083, .int wp22084, .ref h77, .ref h78, .ref h79, .ref h80, .ref h81, .ref h82, .ref h83, .ref h84, .ref h85]))), (h57, .inl (y 0, 3, .inl (upd (fun _ => 0) ((1 : Int32).toNatClampNeg) 4))), (h58, .inl (y 0, 18, .inl wf22085))] H) (hD : va_D A [(h0, .inr (12, (.ref h4 :: .int wp22065 :: .int wp22066 :: .ref h7 :: .ref h8 :: .ref h9 :: .ref h10 :: .ref h11 :: .ref h12 :: .ref h13 :: .ref h14 :: .ref h15 :: .int wp22067 :: .ref h17 :: .int wp22068 :: .ref h19 :: .int wp22069 :: .ref h21 :: .ref h22 :: .ref h23 :: .ref h24 :: .ref h25 :: .ref h26 :: .ref h27 :: .ref h28 :: .ref h29 :: .ref h30 :: .ref h31 :: .int wp22070 :: .ref h33 :: .ref h34 :: .ref h35 :: .int wp22071 :: [.ref h37, .ref h38, .ref h39, .ref h40, .ref h41, .ref h42, .ref h43, .ref h44, .ref h45, .ref h46, .ref h47, .ref h48, .ref h49, .ref h50, .ref h51, .int wp22072, .int wp22073, .int wp22074, .int wp22075, .int wp22076, .ref h57, .ref h58, .int wp22077, .ref h60, .int 0, .ref h61, .int wp22078, .ref h63, .ref h64, .int wp22079, .ref h66, .ref h67, .int wp22080, .ref h69, .ref h70, .ref h71, .ref h72, .int wp22081, .int wp22082, .int wp22083, .int wp22084, .ref h77, .ref h78, .ref h79, .ref h80, .ref h81, .ref h82, .ref h83, .ref h84, .ref h85]))), (h57, .inl (y 0, 3, .inl (upd (fun _ => 0) ((1 : Int32).toNatClampNeg) 4))), (h58, .inl (y 0, 18, .inl wf22085))]) hS => ?_
              refine lv_iconst (v := 0) hx hb dX12_secret_60 (by decide) ?_
              refine lv_istore (lv' := [(4, .int 0), (0, .ref h0), (1, .int 1), (2, .int p2), (3, .int 4)]) hx hb dX12_secret_61 hl (by decide) rfl ?_
              clear hl
              clear ls
              intro ls hl
              refine lv_iload hx hb dX12_secret_63 (lv_at hl 0 rfl) ?_
              refine lv_iload_n hx hb dX12_secret_65 rfl (lv_at hl 4 rfl) ?_
              refine lv_icmp_ge (tgt := 94) hx hb dX12_secret_66 (by decide) (fun c9 => absurd c9 (by decide +kernel)) (fun _ => ?_)
              refine lv_aload_n hx hb dX12_secret_69 rfl (lv_at hl 1 rfl) ?_
              refine gm_get (D := D) (ci := 12) (v := .ref h58) (C := RX12) (T := TX12) (N := 83) hx hb hg inlX12 hown hK.1 hP 0 rfl rfl 54 (by decide) tX12_54 (hg _ gw_208) rfl dX12_secret_70 ?_
              refine lv_bipush (v := 6) hx hb dX12_secret_73 (by decide +kernel) ?_
              refine lv_iload_n hx hb dX12_secret_75 rfl (lv_at hl 2 rfl) ?_
              refine lv_imul hx hb dX12_secret_76 ?_
              refine g_fi (v := 6) (by decide +kernel) ?_
              refine lv_iload hx hb dX12_secret_77 (lv_at hl 0 rfl) ?_
              refine lv_iadd hx hb dX12_secret_79 ?_
              refine g_fi (v := 6) (by decide +kernel) ?_
              refine lv_iload_n hx hb dX12_secret_80 rfl (lv_at hl 3 rfl) ?_
              refine lv_iload_n hx hb dX12_secret_81 rfl (lv_at hl 4 rfl) ?_
              refine lv_iload hx hb dX12_secret_82 (lv_at hl 0 rfl) ?_
              refine g_ai (wr := [(h0, .inr (12, (.ref h4 :: .int wp22065 :: .int wp22066 :: .ref h7 :: .ref h8 :: .ref h9 :: .ref h10 :: .ref h11 :: .ref h12 :: .ref h13 :: .ref h14 :: .ref h15 :: .int wp22067 :: .ref h17 :: .int wp22068 :: .ref h19 :: .int wp22069 :: .ref h21 :: .ref h22 :: .ref h23 :: .ref h24 :: .ref h25 :: .ref h26 :: .ref h27 :: .ref h28 :: .ref h29 :: .ref h30 :: .ref h31 :: .int wp22070 :: .ref h33 :: .ref h34 :: .ref h35 :: .int wp22071 :: [.ref h37, .ref h38, .ref h39, .ref h40, .ref h41, .ref h42, .ref h43, .ref h44, .ref h45, .ref h46, .ref h47, .ref h48, .ref h49, .ref h50, .ref h51, .int wp22072, .int wp22073, .int wp22074, .int wp22075, .int wp22076, .ref h57, .ref h58, .int wp22077, .ref h60, .int 0, .ref h61, .int wp22078, .ref h63, .ref h64, .int wp22079, .ref h66, .ref h67, .int wp22080, .ref h69, .ref h70, .ref h71, .ref h72, .int wp22081, .int wp22082, .int wp22083, .int wp22084, .ref h77, .ref h78, .ref h79, .ref h80, .ref h81, .ref h82, .ref h83, .ref h84, .ref h85]))), (h57, .inl (y 0, 3, .inl (upd (fun _ => 0) ((1 : Int32).toNatClampNeg) 4))), (h58, .inl (y 0, 18, .inl wf22085))]) (va_runS (As := [.int p2, .int 4, .int 0]) (rest := [.int 6, .ref h58]) ⟨hx, hb, hml, hown, hg⟩ (k_X12_digitOf_5 l D y aS H.size p2) (va_cwS 3 hg ggS_RX12_484_X12_digitOf rfl rfl rfl (by decide +kernel) ⟨Nat.le_of_ble_eq_true rfl, Nat.le_of_ble_eq_true rfl⟩) (g_preS hK hP hD [] rfl (by decide)) rfl rfl hl.1 rfl (lv_room (Nat.le_of_ble_eq_true rfl)) dX12_secret_84 ⟨Nat.le_of_ble_eq_true rfl, Nat.le_of_ble_eq_true rfl⟩) hP hD hS hA [] [0, 1, 2] rfl rfl (by decide) (by decide) ?_
              clear hP hD hS H locs
              refine fun r22147 u H locs hq hP hD hS => ?_
              subst hq
              replace hP : va_P D vwCl [(h0, .inr (12, (.ref h4 :: .int wp22065 :: .int wp22066 :: .ref h7 :: .ref h8 :: .ref h9 :: .ref h10 :: .ref h11 :: .ref h12 :: .ref h13 :: .ref h14 :: .ref h15 :: .int wp22067 :: .ref h17 :: .int wp22068 :: .ref h19 :: .int wp22069 :: .ref h21 :: .ref h22 :: .ref h23 :: .ref h24 :: .ref h25 :: .ref h26 :: .ref h27 :: .ref h28 :: .ref h29 :: .ref h30 :: .ref h31 :: .int wp22070 :: .ref h33 :: .ref h34 :: .ref h35 :: .int wp22071 :: [.ref h37, .ref h38, .ref h39, .ref h40, .ref h41, .ref h42, .ref h43, .ref h44, .ref h45, .ref h46, .ref h47, .ref h48, .ref h49, .ref h50, .ref h51, .int wp22072, .int wp22073, .int wp22074, .int wp22075, .int wp22076, .ref h57, .ref h58, .int wp22077, .ref h60, .int 0, .ref h61, .int wp22078, .ref h63, .ref h64, .int wp22079, .ref h66, .ref h67, .int wp22080, .ref h69, .ref h70, .ref h71, .ref h72, .int wp22081, .int wp22082, .int wp22083, .int wp22084, .ref h77, .ref h78, .ref h79, .ref h80, .ref h81, .ref h82, .ref h83, .ref h84, .ref h85]))), (h57, .inl (y 0, 3, .inl (upd (fun _ => 0) ((1 : Int32).toNatClampNeg) 4))), (h58, .inl (y 0, 18, .inl wf22085))] H := hP
              replace hD : va_D A [(h0, .inr (12, (.ref h4 :: .int wp22065 :: .int wp22066 :: .ref h7 :: .ref h8 :: .ref h9 :: .ref h10 :: .ref h11 :: .ref h12 :: .ref h13 :: .ref h14 :: .ref h15 :: .int wp22067 :: .ref h17 :: .int wp22068 :: .ref h19 :: .int wp22069 :: .ref h21 :: .ref h22 :: .ref h23 :: .ref h24 :: .ref h25 :: .ref h26 :: .ref h27 :: .ref h28 :: .ref h29 :: .ref h30 :: .ref h31 :: .int wp22070 :: .ref h33 :: .ref h34 :: .ref h35 :: .int wp22071 :: [.ref h37, .ref h38, .ref h39, .ref h40, .ref h41, .ref h42, .ref h43, .ref h44, .ref h45, .ref h46, .ref h47, .ref h48, .ref h49, .ref h50, .ref h51, .int wp22072, .int wp22073, .int wp22074, .int wp22075, .int wp22076, .ref h57, .ref h58, .int wp22077, .ref h60, .int 0, .ref h61, .int wp22078, .ref h63, .ref h64, .int wp22079, .ref h66, .ref h67, .int wp22080, .ref h69, .ref h70, .ref h71, .ref h72, .int wp22081, .int wp22082, .int wp22083, .int wp22084, .ref h77, .ref h78, .ref h79, .ref h80, .ref h81, .ref h82, .ref h83, .ref h84, .ref h85]))), (h57, .inl (y 0, 3, .inl (upd (fun _ => 0) ((1 : Int32).toNatClampNeg) 4))), (h58, .inl (y 0, 18, .inl wf22085))] := hD
              refine va_iast hx hb hK.1 hP hD hS 2 0 rfl rfl (by unfold vp_in; decide +kernel) dX12_secret_87 ?_
              clear hP hD hS H locs
              refine fun H locs (hP : va_P D vwCl [(h0, .inr (12, (.ref h4 :: .int wp22065 :: .int wp22066 :: .ref h7 :: .ref h8 :: .ref h9 :: .ref h10 :: .ref h11 :: .ref h12 :: .ref h13 :: .ref h14 :: .ref h15 :: .int wp22067 :: .ref h17 :: .int wp22068 :: .ref h19 :: .int wp22069 :: .ref h21 :: .ref h22 :: .ref h23 :: .ref h24 :: .ref h25 :: .ref h26 :: .ref h27 :: .ref h28 :: .ref h29 :: .ref h30 :: .ref h31 :: .int wp22070 :: .ref h33 :: .ref h34 :: .ref h35 :: .int wp22071 :: [.ref h37, .ref h38, .ref h39, .ref h40, .ref h41, .ref h42, .ref h43, .ref h44, .ref h45, .ref h46, .ref h47, .ref h48, .ref h49, .ref h50, .ref h51, .int wp22072, .int wp22073, .int wp22074, .int wp22075, .int wp22076, .ref h57, .ref h58, .int wp22077, .ref h60, .int 0, .ref h61, .int wp22078, .ref h63, .ref h64, .int wp22079, .ref h66, .ref h67, .int wp22080, .ref h69, .ref h70, .ref h71, .ref h72, .int wp22081, .int wp22082, .int wp22083, .int wp22084, .ref h77, .ref h78, .ref h79, .ref h80, .ref h81, .ref h82, .ref h83, .ref h84, .ref h85]))), (h57, .inl (y 0, 3, .inl (upd (fun _ => 0) ((1 : Int32).toNatClampNeg) 4))), (h58, .inl (y 0, 18, .inl (upd wf22085 ((6 : Int32).toNatClampNeg) ((p2 / 1000) - (p2 / 1000) / 10 * 10))))] H) (hD : va_D A [(h0, .inr (12, (.ref h4 :: .int wp22065 :: .int wp22066 :: .ref h7 :: .ref h8 :: .ref h9 :: .ref h10 :: .ref h11 :: .ref h12 :: .ref h13 :: .ref h14 :: .ref h15 :: .int wp22067 :: .ref h17 :: .int wp22068 :: .ref h19 :: .int wp22069 :: .ref h21 :: .ref h22 :: .ref h23 :: .ref h24 :: .ref h25 :: .ref h26 :: .ref h27 :: .ref h28 :: .ref h29 :: .ref h30 :: .ref h31 :: .int wp22070 :: .ref h33 :: .ref h34 :: .ref h35 :: .int wp22071 :: [.ref h37, .ref h38, .ref h39, .ref h40, .ref h41, .ref h42, .ref h43, .ref h44, .ref h45, .ref h46, .ref h47, .ref h48, .ref h49, .ref h50, .ref h51, .int wp22072, .int wp22073, .int wp22074, .int wp22075, .int wp22076, .ref h57, .ref h58, .int wp22077, .ref h60, .int 0, .ref h61, .int wp22078, .ref h63, .ref h64, .int wp22079, .ref h66, .ref h67, .int wp22080, .ref h69, .ref h70, .ref h71, .ref h72, .int wp22081, .int wp22082, .int wp22083, .int wp22084, .ref h77, .ref h78, .ref h79, .ref h80, .ref h81, .ref h82, .ref h83, .ref h84, .ref h85]))), (h57, .inl (y 0, 3, .inl (upd (fun _ => 0) ((1 : Int32).toNatClampNeg) 4))), (h58, .inl (y 0, 18, .inl (upd wf22085 ((6 : Int32).toNatClampNeg) ((p2 / 1000) - (p2 / 1000) / 10 * 10))))]) hS => ?_
              obtain ⟨fn22148, hfn22148⟩ : ∃ f9 : Nat → Int32, f9 = (upd wf22085 ((6 : Int32).toNatClampNeg) ((p2 / 1000) - (p2 / 1000) / 10 * 10)) := ⟨_, rfl⟩
              rw [← hfn22148] at hP hD
              clear hfn22148
              refine lv_iinc (v := 1) (lv' := [(4, .int 1), (0, .ref h0), (1, .int 1), (2, .int p2), (3, .int 4)]) hx hb dX12_secret_88 hl (k := 0) rfl (by decide +kernel) (by decide) rfl ?_
              clear hl
              clear ls
              intro ls hl
              refine lv_goto (tgt := 63) hx hb dX12_secret_91 (by decide) ?_
              refine lv_iload hx hb dX12_secret_63 (lv_at hl 0 rfl) ?_
              refine lv_iload_n hx hb dX12_secret_65 rfl (lv_at hl 4 rfl) ?_
              refine lv_icmp_ge (tgt := 94) hx hb dX12_secret_66 (by decide) (fun c9 => absurd c9 (by decide +kernel)) (fun _ => ?_)
              refine lv_aload_n hx hb dX12_secret_69 rfl (lv_at hl 1 rfl) ?_
              refine gm_get (D := D) (ci := 12) (v := .ref h58) (C := RX12) (T := TX12) (N := 83) hx hb hg inlX12 hown hK.1 hP 0 rfl rfl 54 (by decide) tX12_54 (hg _ gw_208) rfl dX12_secret_70 ?_
              refine lv_bipush (v := 6) hx hb dX12_secret_73 (by decide +kernel) ?_
              refine lv_iload_n hx hb dX12_secret_75 rfl (lv_at hl 2 rfl) ?_
              refine lv_imul hx hb dX12_secret_76 ?_
              refine g_fi (v := 6) (by decide +kernel) ?_
              refine lv_iload hx hb dX12_secret_77 (lv_at hl 0 rfl) ?_
              refine lv_iadd hx hb dX12_secret_79 ?_
              refine g_fi (v := 7) (by decide +kernel) ?_
              refine lv_iload_n hx hb dX12_secret_80 rfl (lv_at hl 3 rfl) ?_
              refine lv_iload_n hx hb dX12_secret_81 rfl (lv_at hl 4 rfl) ?_
              refine lv_iload hx hb dX12_secret_82 (lv_at hl 0 rfl) ?_
              refine g_ai (wr := [(h0, .inr (12, (.ref h4 :: .int wp22065 :: .int wp22066 :: .ref h7 :: .ref h8 :: .ref h9 :: .ref h10 :: .ref h11 :: .ref h12 :: .ref h13 :: .ref h14 :: .ref h15 :: .int wp22067 :: .ref h17 :: .int wp22068 :: .ref h19 :: .int wp22069 :: .ref h21 :: .ref h22 :: .ref h23 :: .ref h24 :: .ref h25 :: .ref h26 :: .ref h27 :: .ref h28 :: .ref h29 :: .ref h30 :: .ref h31 :: .int wp22070 :: .ref h33 :: .ref h34 :: .ref h35 :: .int wp22071 :: [.ref h37, .ref h38, .ref h39, .ref h40, .ref h41, .ref h42, .ref h43, .ref h44, .ref h45, .ref h46, .ref h47, .ref h48, .ref h49, .ref h50, .ref h51, .int wp22072, .int wp22073, .int wp22074, .int wp22075, .int wp22076, .ref h57, .ref h58, .int wp22077, .ref h60, .int 0, .ref h61, .int wp22078, .ref h63, .ref h64, .int wp22079, .ref h66, .ref h67, .int wp22080, .ref h69, .ref h70, .ref h71, .ref h72, .int wp22081, .int wp22082, .int wp22083, .int wp22084, .ref h77, .ref h78, .ref h79, .ref h80, .ref h81, .ref h82, .ref h83, .ref h84, .ref h85]))), (h57, .inl (y 0, 3, .inl (upd (fun _ => 0) ((1 : Int32).toNatClampNeg) 4))), (h58, .inl (y 0, 18, .inl fn22148))]) (va_runS (As := [.int p2, .int 4, .int 1]) (rest := [.int 7, .ref h58]) ⟨hx, hb, hml, hown, hg⟩ (k_X12_digitOf_6 l D y aS H.size p2) (va_cwS 3 hg ggS_RX12_484_X12_digitOf rfl rfl rfl (by decide +kernel) ⟨Nat.le_of_ble_eq_true rfl, Nat.le_of_ble_eq_true rfl⟩) (g_preS hK hP hD [] rfl (by decide)) rfl rfl hl.1 rfl (lv_room (Nat.le_of_ble_eq_true rfl)) dX12_secret_84 ⟨Nat.le_of_ble_eq_true rfl, Nat.le_of_ble_eq_true rfl⟩) hP hD hS hA [] [0, 1, 2] rfl rfl (by decide) (by decide) ?_
              clear hP hD hS H locs
              refine fun r22149 u H locs hq hP hD hS => ?_
              subst hq
              replace hP : va_P D vwCl [(h0, .inr (12, (.ref h4 :: .int wp22065 :: .int wp22066 :: .ref h7 :: .ref h8 :: .ref h9 :: .ref h10 :: .ref h11 :: .ref h12 :: .ref h13 :: .ref h14 :: .ref h15 :: .int wp22067 :: .ref h17 :: .int wp22068 :: .ref h19 :: .int wp22069 :: .ref h21 :: .ref h22 :: .ref h23 :: .ref h24 :: .ref h25 :: .ref h26 :: .ref h27 :: .ref h28 :: .ref h29 :: .ref h30 :: .ref h31 :: .int wp22070 :: .ref h33 :: .ref h34 :: .ref h35 :: .int wp22071 :: [.ref h37, .ref h38, .ref h39, .ref h40, .ref h41, .ref h42, .ref h43, .ref h44, .ref h45, .ref h46, .ref h47, .ref h48, .ref h49, .ref h50, .ref h51, .int wp22072, .int wp22073, .int wp22074, .int wp22075, .int wp22076, .ref h57, .ref h58, .int wp22077, .ref h60, .int 0, .ref h61, .int wp22078, .ref h63, .ref h64, .int wp22079, .ref h66, .ref h67, .int wp22080, .ref h69, .ref h70, .ref h71, .ref h72, .int wp22081, .int wp22082, .int wp22083, .int wp22084, .ref h77, .ref h78, .ref h79, .ref h80, .ref h81, .ref h82, .ref h83, .ref h84, .ref h85]))), (h57, .inl (y 0, 3, .inl (upd (fun _ => 0) ((1 : Int32).toNatClampNeg) 4))), (h58, .inl (y 0, 18, .inl fn22148))] H := hP
              replace hD : va_D A [(h0, .inr (12, (.ref h4 :: .int wp22065 :: .int wp22066 :: .ref h7 :: .ref h8 :: .ref h9 :: .ref h10 :: .ref h11 :: .ref h12 :: .ref h13 :: .ref h14 :: .ref h15 :: .int wp22067 :: .ref h17 :: .int wp22068 :: .ref h19 :: .int wp22069 :: .ref h21 :: .ref h22 :: .ref h23 :: .ref h24 :: .ref h25 :: .ref h26 :: .ref h27 :: .ref h28 :: .ref h29 :: .ref h30 :: .ref h31 :: .int wp22070 :: .ref h33 :: .ref h34 :: .ref h35 :: .int wp22071 :: [.ref h37, .ref h38, .ref h39, .ref h40, .ref h41, .ref h42, .ref h43, .ref h44, .ref h45, .ref h46, .ref h47, .ref h48, .ref h49, .ref h50, .ref h51, .int wp22072, .int wp22073, .int wp22074, .int wp22075, .int wp22076, .ref h57, .ref h58, .int wp22077, .ref h60, .int 0, .ref h61, .int wp22078, .ref h63, .ref h64, .int wp22079, .ref h66, .ref h67, .int wp22080, .ref h69, .ref h70, .ref h71, .ref h72, .int wp22081, .int wp22082, .int wp22083, .int wp22084, .ref h77, .ref h78, .ref h79, .ref h80, .ref h81, .ref h82, .ref h83, .ref h84, .ref h85]))), (h57, .inl (y 0, 3, .inl (upd (fun _ => 0) ((1 : Int32).toNatClampNeg) 4))), (h58, .inl (y 0, 18, .inl fn22148))] := hD
              refine va_iast hx hb hK.1 hP hD hS 2 0 rfl rfl (by unfold vp_in; decide +kernel) dX12_secret_87 ?_
              clear hP hD hS H locs
              refine fun H locs (hP : va_P D vwCl [(h0, .inr (12, (.ref h4 :: .int wp22065 :: .int wp22066 :: .ref h7 :: .ref h8 :: .ref h9 :: .ref h10 :: .ref h11 :: .ref h12 :: .ref h13 :: .ref h14 :: .ref h15 :: .int wp22067 :: .ref h17 :: .int wp22068 :: .ref h19 :: .int wp22069 :: .ref h21 :: .ref h22 :: .ref h23 :: .ref h24 :: .ref h25 :: .ref h26 :: .ref h27 :: .ref h28 :: .ref h29 :: .ref h30 :: .ref h31 :: .int wp22070 :: .ref h33 :: .ref h34 :: .ref h35 :: .int wp22071 :: [.ref h37, .ref h38, .ref h39, .ref h40, .ref h41, .ref h42, .ref h43, .ref h44, .ref h45, .ref h46, .ref h47, .ref h48, .ref h49, .ref h50, .ref h51, .int wp22072, .int wp22073, .int wp22074, .int wp22075, .int wp22076, .ref h57, .ref h58, .int wp22077, .ref h60, .int 0, .ref h61, .int wp22078, .ref h63, .ref h64, .int wp22079, .ref h66, .ref h67, .int wp22080, .ref h69, .ref h70, .ref h71, .ref h72, .int wp22081, .int wp22082, .int wp22083, .int wp22084, .ref h77, .ref h78, .ref h79, .ref h80, .ref h81, .ref h82, .ref h83, .ref h84, .ref h85]))), (h57, .inl (y 0, 3, .inl (upd (fun _ => 0) ((1 : Int32).toNatClampNeg) 4))), (h58, .inl (y 0, 18, .inl (upd fn22148 ((7 : Int32).toNatClampNeg) ((p2 / 100) - (p2 / 100) / 10 * 10))))] H) (hD : va_D A [(h0, .inr (12, (.ref h4 :: .int wp22065 :: .int wp22066 :: .ref h7 :: .ref h8 :: .ref h9 :: .ref h10 :: .ref h11 :: .ref h12 :: .ref h13 :: .ref h14 :: .ref h15 :: .int wp22067 :: .ref h17 :: .int wp22068 :: .ref h19 :: .int wp22069 :: .ref h21 :: .ref h22 :: .ref h23 :: .ref h24 :: .ref h25 :: .ref h26 :: .ref h27 :: .ref h28 :: .ref h29 :: .ref h30 :: .ref h31 :: .int wp22070 :: .ref h33 :: .ref h34 :: .ref h35 :: .int wp22071 :: [.ref h37, .ref h38, .ref h39, .ref h40, .ref h41, .ref h42, .ref h43, .ref h44, .ref h45, .ref h46, .ref h47, .ref h48, .ref h49, .ref h50, .ref h51, .int wp22072, .int wp22073, .int wp22074, .int wp22075, .int wp22076, .ref h57, .ref h58, .int wp22077, .ref h60, .int 0, .ref h61, .int wp22078, .ref h63, .ref h64, .int wp22079, .ref h66, .ref h67, .int wp22080, .ref h69, .ref h70, .ref h71, .ref h72, .int wp22081, .int wp22082, .int wp22083, .int wp22084, .ref h77, .ref h78, .ref h79, .ref h80, .ref h81, .ref h82, .ref h83, .ref h84, .ref h85]))), (h57, .inl (y 0, 3, .inl (upd (fun _ => 0) ((1 : Int32).toNatClampNeg) 4))), (h58, .inl (y 0, 18, .inl (upd fn22148 ((7 : Int32).toNatClampNeg) ((p2 / 100) - (p2 / 100) / 10 * 10))))]) hS => ?_
              obtain ⟨fn22150, hfn22150⟩ : ∃ f9 : Nat → Int32, f9 = (upd fn22148 ((7 : Int32).toNatClampNeg) ((p2 / 100) - (p2 / 100) / 10 * 10)) := ⟨_, rfl⟩
              rw [← hfn22150] at hP hD
              clear hfn22150
              refine lv_iinc (v := 2) (lv' := [(4, .int 2), (0, .ref h0), (1, .int 1), (2, .int p2), (3, .int 4)]) hx hb dX12_secret_88 hl (k := 0) rfl (by decide +kernel) (by decide) rfl ?_
              clear hl
              clear ls
              intro ls hl
              refine lv_goto (tgt := 63) hx hb dX12_secret_91 (by decide) ?_
              refine lv_iload hx hb dX12_secret_63 (lv_at hl 0 rfl) ?_
              refine lv_iload_n hx hb dX12_secret_65 rfl (lv_at hl 4 rfl) ?_
              refine lv_icmp_ge (tgt := 94) hx hb dX12_secret_66 (by decide) (fun c9 => absurd c9 (by decide +kernel)) (fun _ => ?_)
              refine lv_aload_n hx hb dX12_secret_69 rfl (lv_at hl 1 rfl) ?_
              refine gm_get (D := D) (ci := 12) (v := .ref h58) (C := RX12) (T := TX12) (N := 83) hx hb hg inlX12 hown hK.1 hP 0 rfl rfl 54 (by decide) tX12_54 (hg _ gw_208) rfl dX12_secret_70 ?_
              refine lv_bipush (v := 6) hx hb dX12_secret_73 (by decide +kernel) ?_
              refine lv_iload_n hx hb dX12_secret_75 rfl (lv_at hl 2 rfl) ?_
              refine lv_imul hx hb dX12_secret_76 ?_
              refine g_fi (v := 6) (by decide +kernel) ?_
              refine lv_iload hx hb dX12_secret_77 (lv_at hl 0 rfl) ?_
              refine lv_iadd hx hb dX12_secret_79 ?_
              refine g_fi (v := 8) (by decide +kernel) ?_
              refine lv_iload_n hx hb dX12_secret_80 rfl (lv_at hl 3 rfl) ?_
              refine lv_iload_n hx hb dX12_secret_81 rfl (lv_at hl 4 rfl) ?_
              refine lv_iload hx hb dX12_secret_82 (lv_at hl 0 rfl) ?_
              refine g_ai (wr := [(h0, .inr (12, (.ref h4 :: .int wp22065 :: .int wp22066 :: .ref h7 :: .ref h8 :: .ref h9 :: .ref h10 :: .ref h11 :: .ref h12 :: .ref h13 :: .ref h14 :: .ref h15 :: .int wp22067 :: .ref h17 :: .int wp22068 :: .ref h19 :: .int wp22069 :: .ref h21 :: .ref h22 :: .ref h23 :: .ref h24 :: .ref h25 :: .ref h26 :: .ref h27 :: .ref h28 :: .ref h29 :: .ref h30 :: .ref h31 :: .int wp22070 :: .ref h33 :: .ref h34 :: .ref h35 :: .int wp22071 :: [.ref h37, .ref h38, .ref h39, .ref h40, .ref h41, .ref h42, .ref h43, .ref h44, .ref h45, .ref h46, .ref h47, .ref h48, .ref h49, .ref h50, .ref h51, .int wp22072, .int wp22073, .int wp22074, .int wp22075, .int wp22076, .ref h57, .ref h58, .int wp22077, .ref h60, .int 0, .ref h61, .int wp22078, .ref h63, .ref h64, .int wp22079, .ref h66, .ref h67, .int wp22080, .ref h69, .ref h70, .ref h71, .ref h72, .int wp22081, .int wp22082, .int wp22083, .int wp22084, .ref h77, .ref h78, .ref h79, .ref h80, .ref h81, .ref h82, .ref h83, .ref h84, .ref h85]))), (h57, .inl (y 0, 3, .inl (upd (fun _ => 0) ((1 : Int32).toNatClampNeg) 4))), (h58, .inl (y 0, 18, .inl fn22150))]) (va_runS (As := [.int p2, .int 4, .int 2]) (rest := [.int 8, .ref h58]) ⟨hx, hb, hml, hown, hg⟩ (k_X12_digitOf_7 l D y aS H.size p2) (va_cwS 3 hg ggS_RX12_484_X12_digitOf rfl rfl rfl (by decide +kernel) ⟨Nat.le_of_ble_eq_true rfl, Nat.le_of_ble_eq_true rfl⟩) (g_preS hK hP hD [] rfl (by decide)) rfl rfl hl.1 rfl (lv_room (Nat.le_of_ble_eq_true rfl)) dX12_secret_84 ⟨Nat.le_of_ble_eq_true rfl, Nat.le_of_ble_eq_true rfl⟩) hP hD hS hA [] [0, 1, 2] rfl rfl (by decide) (by decide) ?_
              clear hP hD hS H locs
              refine fun r22151 u H locs hq hP hD hS => ?_
              subst hq
              replace hP : va_P D vwCl [(h0, .inr (12, (.ref h4 :: .int wp22065 :: .int wp22066 :: .ref h7 :: .ref h8 :: .ref h9 :: .ref h10 :: .ref h11 :: .ref h12 :: .ref h13 :: .ref h14 :: .ref h15 :: .int wp22067 :: .ref h17 :: .int wp22068 :: .ref h19 :: .int wp22069 :: .ref h21 :: .ref h22 :: .ref h23 :: .ref h24 :: .ref h25 :: .ref h26 :: .ref h27 :: .ref h28 :: .ref h29 :: .ref h30 :: .ref h31 :: .int wp22070 :: .ref h33 :: .ref h34 :: .ref h35 :: .int wp22071 :: [.ref h37, .ref h38, .ref h39, .ref h40, .ref h41, .ref h42, .ref h43, .ref h44, .ref h45, .ref h46, .ref h47, .ref h48, .ref h49, .ref h50, .ref h51, .int wp22072, .int wp22073, .int wp22074, .int wp22075, .int wp22076, .ref h57, .ref h58, .int wp22077, .ref h60, .int 0, .ref h61, .int wp22078, .ref h63, .ref h64, .int wp22079, .ref h66, .ref h67, .int wp22080, .ref h69, .ref h70, .ref h71, .ref h72, .int wp22081, .int wp22082, .int wp22083, .int wp22084, .ref h77, .ref h78, .ref h79, .ref h80, .ref h81, .ref h82, .ref h83, .ref h84, .ref h85]))), (h57, .inl (y 0, 3, .inl (upd (fun _ => 0) ((1 : Int32).toNatClampNeg) 4))), (h58, .inl (y 0, 18, .inl fn22150))] H := hP
              replace hD : va_D A [(h0, .inr (12, (.ref h4 :: .int wp22065 :: .int wp22066 :: .ref h7 :: .ref h8 :: .ref h9 :: .ref h10 :: .ref h11 :: .ref h12 :: .ref h13 :: .ref h14 :: .ref h15 :: .int wp22067 :: .ref h17 :: .int wp22068 :: .ref h19 :: .int wp22069 :: .ref h21 :: .ref h22 :: .ref h23 :: .ref h24 :: .ref h25 :: .ref h26 :: .ref h27 :: .ref h28 :: .ref h29 :: .ref h30 :: .ref h31 :: .int wp22070 :: .ref h33 :: .ref h34 :: .ref h35 :: .int wp22071 :: [.ref h37, .ref h38, .ref h39, .ref h40, .ref h41, .ref h42, .ref h43, .ref h44, .ref h45, .ref h46, .ref h47, .ref h48, .ref h49, .ref h50, .ref h51, .int wp22072, .int wp22073, .int wp22074, .int wp22075, .int wp22076, .ref h57, .ref h58, .int wp22077, .ref h60, .int 0, .ref h61, .int wp22078, .ref h63, .ref h64, .int wp22079, .ref h66, .ref h67, .int wp22080, .ref h69, .ref h70, .ref h71, .ref h72, .int wp22081, .int wp22082, .int wp22083, .int wp22084, .ref h77, .ref h78, .ref h79, .ref h80, .ref h81, .ref h82, .ref h83, .ref h84, .ref h85]))), (h57, .inl (y 0, 3, .inl (upd (fun _ => 0) ((1 : Int32).toNatClampNeg) 4))), (h58, .inl (y 0, 18, .inl fn22150))] := hD
              refine va_iast hx hb hK.1 hP hD hS 2 0 rfl rfl (by unfold vp_in; decide +kernel) dX12_secret_87 ?_
              clear hP hD hS H locs
              refine fun H locs (hP : va_P D vwCl [(h0, .inr (12, (.ref h4 :: .int wp22065 :: .int wp22066 :: .ref h7 :: .ref h8 :: .ref h9 :: .ref h10 :: .ref h11 :: .ref h12 :: .ref h13 :: .ref h14 :: .ref h15 :: .int wp22067 :: .ref h17 :: .int wp22068 :: .ref h19 :: .int wp22069 :: .ref h21 :: .ref h22 :: .ref h23 :: .ref h24 :: .ref h25 :: .ref h26 :: .ref h27 :: .ref h28 :: .ref h29 :: .ref h30 :: .ref h31 :: .int wp22070 :: .ref h33 :: .ref h34 :: .ref h35 :: .int wp22071 :: [.ref h37, .ref h38, .ref h39, .ref h40, .ref h41, .ref h42, .ref h43, .ref h44, .ref h45, .ref h46, .ref h47, .ref h48, .ref h49, .ref h50, .ref h51, .int wp22072, .int wp22073, .int wp22074, .int wp22075, .int wp22076, .ref h57, .ref h58, .int wp22077, .ref h60, .int 0, .ref h61, .int wp22078, .ref h63, .ref h64, .int wp22079, .ref h66, .ref h67, .int wp22080, .ref h69, .ref h70, .ref h71, .ref h72, .int wp22081, .int wp22082, .int wp22083, .int wp22084, .ref h77, .ref h78, .ref h79, .ref h80, .ref h81, .ref h82, .ref h83, .ref h84, .ref h85]))), (h57, .inl (y 0, 3, .inl (upd (fun _ => 0) ((1 : Int32).toNatClampNeg) 4))), (h58, .inl (y 0, 18, .inl (upd fn22150 ((8 : Int32).toNatClampNeg) ((p2 / 10) - (p2 / 10) / 10 * 10))))] H) (hD : va_D A [(h0, .inr (12, (.ref h4 :: .int wp22065 :: .int wp22066 :: .ref h7 :: .ref h8 :: .ref h9 :: .ref h10 :: .ref h11 :: .ref h12 :: .ref h13 :: .ref h14 :: .ref h15 :: .int wp22067 :: .ref h17 :: .int wp22068 :: .ref h19 :: .int wp22069 :: .ref h21 :: .ref h22 :: .ref h23 :: .ref h24 :: .ref h25 :: .ref h26 :: .ref h27 :: .ref h28 :: .ref h29 :: .ref h30 :: .ref h31 :: .int wp22070 :: .ref h33 :: .ref h34 :: .ref h35 :: .int wp22071 :: [.ref h37, .ref h38, .ref h39, .ref h40, .ref h41, .ref h42, .ref h43, .ref h44, .ref h45, .ref h46, .ref h47, .ref h48, .ref h49, .ref h50, .ref h51, .int wp22072, .int wp22073, .int wp22074, .int wp22075, .int wp22076, .ref h57, .ref h58, .int wp22077, .ref h60, .int 0, .ref h61, .int wp22078, .ref h63, .ref h64, .int wp22079, .ref h66, .ref h67, .int wp22080, .ref h69, .ref h70, .ref h71, .ref h72, .int wp22081, .int wp22082, .int wp22083, .int wp22084, .ref h77, .ref h78, .ref h79, .ref h80, .ref h81, .ref h82, .ref h83, .ref h84, .ref h85]))), (h57, .inl (y 0, 3, .inl (upd (fun _ => 0) ((1 : Int32).toNatClampNeg) 4))), (h58, .inl (y 0, 18, .inl (upd fn22150 ((8 : Int32).toNatClampNeg) ((p2 / 10) - (p2 / 10) / 10 * 10))))]) hS => ?_
              obtain ⟨fn22152, hfn22152⟩ : ∃ f9 : Nat → Int32, f9 = (upd fn22150 ((8 : Int32).toNatClampNeg) ((p2 / 10) - (p2 / 10) / 10 * 10)) := ⟨_, rfl⟩
              rw [← hfn22152] at hP hD
              clear hfn22152
              refine lv_iinc (v := 3) (lv' := [(4, .int 3), (0, .ref h0), (1, .int 1), (2, .int p2), (3, .int 4)]) hx hb dX12_secret_88 hl (k := 0) rfl (by decide +kernel) (by decide) rfl ?_
              clear hl
              clear ls
              intro ls hl
              refine lv_goto (tgt := 63) hx hb dX12_secret_91 (by decide) ?_
              refine lv_iload hx hb dX12_secret_63 (lv_at hl 0 rfl) ?_
              refine lv_iload_n hx hb dX12_secret_65 rfl (lv_at hl 4 rfl) ?_
              refine lv_icmp_ge (tgt := 94) hx hb dX12_secret_66 (by decide) (fun c9 => absurd c9 (by decide +kernel)) (fun _ => ?_)
              refine lv_aload_n hx hb dX12_secret_69 rfl (lv_at hl 1 rfl) ?_
              refine gm_get (D := D) (ci := 12) (v := .ref h58) (C := RX12) (T := TX12) (N := 83) hx hb hg inlX12 hown hK.1 hP 0 rfl rfl 54 (by decide) tX12_54 (hg _ gw_208) rfl dX12_secret_70 ?_
              refine lv_bipush (v := 6) hx hb dX12_secret_73 (by decide +kernel) ?_
              refine lv_iload_n hx hb dX12_secret_75 rfl (lv_at hl 2 rfl) ?_
              refine lv_imul hx hb dX12_secret_76 ?_
              refine g_fi (v := 6) (by decide +kernel) ?_
              refine lv_iload hx hb dX12_secret_77 (lv_at hl 0 rfl) ?_
              refine lv_iadd hx hb dX12_secret_79 ?_
              refine g_fi (v := 9) (by decide +kernel) ?_
              refine lv_iload_n hx hb dX12_secret_80 rfl (lv_at hl 3 rfl) ?_
              refine lv_iload_n hx hb dX12_secret_81 rfl (lv_at hl 4 rfl) ?_
              refine lv_iload hx hb dX12_secret_82 (lv_at hl 0 rfl) ?_
              refine g_ai (wr := [(h0, .inr (12, (.ref h4 :: .int wp22065 :: .int wp22066 :: .ref h7 :: .ref h8 :: .ref h9 :: .ref h10 :: .ref h11 :: .ref h12 :: .ref h13 :: .ref h14 :: .ref h15 :: .int wp22067 :: .ref h17 :: .int wp22068 :: .ref h19 :: .int wp22069 :: .ref h21 :: .ref h22 :: .ref h23 :: .ref h24 :: .ref h25 :: .ref h26 :: .ref h27 :: .ref h28 :: .ref h29 :: .ref h30 :: .ref h31 :: .int wp22070 :: .ref h33 :: .ref h34 :: .ref h35 :: .int wp22071 :: [.ref h37, .ref h38, .ref h39, .ref h40, .ref h41, .ref h42, .ref h43, .ref h44, .ref h45, .ref h46, .ref h47, .ref h48, .ref h49, .ref h50, .ref h51, .int wp22072, .int wp22073, .int wp22074, .int wp22075, .int wp22076, .ref h57, .ref h58, .int wp22077, .ref h60, .int 0, .ref h61, .int wp22078, .ref h63, .ref h64, .int wp22079, .ref h66, .ref h67, .int wp22080, .ref h69, .ref h70, .ref h71, .ref h72, .int wp22081, .int wp22082, .int wp22083, .int wp22084, .ref h77, .ref h78, .ref h79, .ref h80, .ref h81, .ref h82, .ref h83, .ref h84, .ref h85]))), (h57, .inl (y 0, 3, .inl (upd (fun _ => 0) ((1 : Int32).toNatClampNeg) 4))), (h58, .inl (y 0, 18, .inl fn22152))]) (va_runS (As := [.int p2, .int 4, .int 3]) (rest := [.int 9, .ref h58]) ⟨hx, hb, hml, hown, hg⟩ (k_X12_digitOf_8 l D y aS H.size p2) (va_cwS 3 hg ggS_RX12_484_X12_digitOf rfl rfl rfl (by decide +kernel) ⟨Nat.le_of_ble_eq_true rfl, Nat.le_of_ble_eq_true rfl⟩) (g_preS hK hP hD [] rfl (by decide)) rfl rfl hl.1 rfl (lv_room (Nat.le_of_ble_eq_true rfl)) dX12_secret_84 ⟨Nat.le_of_ble_eq_true rfl, Nat.le_of_ble_eq_true rfl⟩) hP hD hS hA [] [0, 1, 2] rfl rfl (by decide) (by decide) ?_
              clear hP hD hS H locs
              refine fun r22153 u H locs hq hP hD hS => ?_
              subst hq
              replace hP : va_P D vwCl [(h0, .inr (12, (.ref h4 :: .int wp22065 :: .int wp22066 :: .ref h7 :: .ref h8 :: .ref h9 :: .ref h10 :: .ref h11 :: .ref h12 :: .ref h13 :: .ref h14 :: .ref h15 :: .int wp22067 :: .ref h17 :: .int wp22068 :: .ref h19 :: .int wp22069 :: .ref h21 :: .ref h22 :: .ref h23 :: .ref h24 :: .ref h25 :: .ref h26 :: .ref h27 :: .ref h28 :: .ref h29 :: .ref h30 :: .ref h31 :: .int wp22070 :: .ref h33 :: .ref h34 :: .ref h35 :: .int wp22071 :: [.ref h37, .ref h38, .ref h39, .ref h40, .ref h41, .ref h42, .ref h43, .ref h44, .ref h45, .ref h46, .ref h47, .ref h48, .ref h49, .ref h50, .ref h51, .int wp22072, .int wp22073, .int wp22074, .int wp22075, .int wp22076, .ref h57, .ref h58, .int wp22077, .ref h60, .int 0, .ref h61, .int wp22078, .ref h63, .ref h64, .int wp22079, .ref h66, .ref h67, .int wp22080, .ref h69, .ref h70, .ref h71, .ref h72, .int wp22081, .int wp22082, .int wp22083, .int wp22084, .ref h77, .ref h78, .ref h79, .ref h80, .ref h81, .ref h82, .ref h83, .ref h84, .ref h85]))), (h57, .inl (y 0, 3, .inl (upd (fun _ => 0) ((1 : Int32).toNatClampNeg) 4))), (h58, .inl (y 0, 18, .inl fn22152))] H := hP
              replace hD : va_D A [(h0, .inr (12, (.ref h4 :: .int wp22065 :: .int wp22066 :: .ref h7 :: .ref h8 :: .ref h9 :: .ref h10 :: .ref h11 :: .ref h12 :: .ref h13 :: .ref h14 :: .ref h15 :: .int wp22067 :: .ref h17 :: .int wp22068 :: .ref h19 :: .int wp22069 :: .ref h21 :: .ref h22 :: .ref h23 :: .ref h24 :: .ref h25 :: .ref h26 :: .ref h27 :: .ref h28 :: .ref h29 :: .ref h30 :: .ref h31 :: .int wp22070 :: .ref h33 :: .ref h34 :: .ref h35 :: .int wp22071 :: [.ref h37, .ref h38, .ref h39, .ref h40, .ref h41, .ref h42, .ref h43, .ref h44, .ref h45, .ref h46, .ref h47, .ref h48, .ref h49, .ref h50, .ref h51, .int wp22072, .int wp22073, .int wp22074, .int wp22075, .int wp22076, .ref h57, .ref h58, .int wp22077, .ref h60, .int 0, .ref h61, .int wp22078, .ref h63, .ref h64, .int wp22079, .ref h66, .ref h67, .int wp22080, .ref h69, .ref h70, .ref h71, .ref h72, .int wp22081, .int wp22082, .int wp22083, .int wp22084, .ref h77, .ref h78, .ref h79, .ref h80, .ref h81, .ref h82, .ref h83, .ref h84, .ref h85]))), (h57, .inl (y 0, 3, .inl (upd (fun _ => 0) ((1 : Int32).toNatClampNeg) 4))), (h58, .inl (y 0, 18, .inl fn22152))] := hD
              refine va_iast hx hb hK.1 hP hD hS 2 0 rfl rfl (by unfold vp_in; decide +kernel) dX12_secret_87 ?_
              clear hP hD hS H locs
              refine fun H locs (hP : va_P D vwCl [(h0, .inr (12, (.ref h4 :: .int wp22065 :: .int wp22066 :: .ref h7 :: .ref h8 :: .ref h9 :: .ref h10 :: .ref h11 :: .ref h12 :: .ref h13 :: .ref h14 :: .ref h15 :: .int wp22067 :: .ref h17 :: .int wp22068 :: .ref h19 :: .int wp22069 :: .ref h21 :: .ref h22 :: .ref h23 :: .ref h24 :: .ref h25 :: .ref h26 :: .ref h27 :: .ref h28 :: .ref h29 :: .ref h30 :: .ref h31 :: .int wp22070 :: .ref h33 :: .ref h34 :: .ref h35 :: .int wp22071 :: [.ref h37, .ref h38, .ref h39, .ref h40, .ref h41, .ref h42, .ref h43, .ref h44, .ref h45, .ref h46, .ref h47, .ref h48, .ref h49, .ref h50, .ref h51, .int wp22072, .int wp22073, .int wp22074, .int wp22075, .int wp22076, .ref h57, .ref h58, .int wp22077, .ref h60, .int 0, .ref h61, .int wp22078, .ref h63, .ref h64, .int wp22079, .ref h66, .ref h67, .int wp22080, .ref h69, .ref h70, .ref h71, .ref h72, .int wp22081, .int wp22082, .int wp22083, .int wp22084, .ref h77, .ref h78, .ref h79, .ref h80, .ref h81, .ref h82, .ref h83, .ref h84, .ref h85]))), (h57, .inl (y 0, 3, .inl (upd (fun _ => 0) ((1 : Int32).toNatClampNeg) 4))), (h58, .inl (y 0, 18, .inl (upd fn22152 ((9 : Int32).toNatClampNeg) ((p2 / 1) - (p2 / 1) / 10 * 10))))] H) (hD : va_D A [(h0, .inr (12, (.ref h4 :: .int wp22065 :: .int wp22066 :: .ref h7 :: .ref h8 :: .ref h9 :: .ref h10 :: .ref h11 :: .ref h12 :: .ref h13 :: .ref h14 :: .ref h15 :: .int wp22067 :: .ref h17 :: .int wp22068 :: .ref h19 :: .int wp22069 :: .ref h21 :: .ref h22 :: .ref h23 :: .ref h24 :: .ref h25 :: .ref h26 :: .ref h27 :: .ref h28 :: .ref h29 :: .ref h30 :: .ref h31 :: .int wp22070 :: .ref h33 :: .ref h34 :: .ref h35 :: .int wp22071 :: [.ref h37, .ref h38, .ref h39, .ref h40, .ref h41, .ref h42, .ref h43, .ref h44, .ref h45, .ref h46, .ref h47, .ref h48, .ref h49, .ref h50, .ref h51, .int wp22072, .int wp22073, .int wp22074, .int wp22075, .int wp22076, .ref h57, .ref h58, .int wp22077, .ref h60, .int 0, .ref h61, .int wp22078, .ref h63, .ref h64, .int wp22079, .ref h66, .ref h67, .int wp22080, .ref h69, .ref h70, .ref h71, .ref h72, .int wp22081, .int wp22082, .int wp22083, .int wp22084, .ref h77, .ref h78, .ref h79, .ref h80, .ref h81, .ref h82, .ref h83, .ref h84, .ref h85]))), (h57, .inl (y 0, 3, .inl (upd (fun _ => 0) ((1 : Int32).toNatClampNeg) 4))), (h58, .inl (y 0, 18, .inl (upd fn22152 ((9 : Int32).toNatClampNeg) ((p2 / 1) - (p2 / 1) / 10 * 10))))]) hS => ?_
              obtain ⟨fn22154, hfn22154⟩ : ∃ f9 : Nat → Int32, f9 = (upd fn22152 ((9 : Int32).toNatClampNeg) ((p2 / 1) - (p2 / 1) / 10 * 10)) := ⟨_, rfl⟩
              rw [← hfn22154] at hP hD
              clear hfn22154
              refine lv_iinc (v := 4) (lv' := [(4, .int 4), (0, .ref h0), (1, .int 1), (2, .int p2), (3, .int 4)]) hx hb dX12_secret_88 hl (k := 0) rfl (by decide +kernel) (by decide) rfl ?_
              clear hl
              clear ls
              intro ls hl
              refine lv_goto (tgt := 63) hx hb dX12_secret_91 (by decide) ?_
              refine lv_iload hx hb dX12_secret_63 (lv_at hl 0 rfl) ?_
              refine lv_iload_n hx hb dX12_secret_65 rfl (lv_at hl 4 rfl) ?_
              refine lv_icmp_ge (tgt := 94) hx hb dX12_secret_66 (by decide) (fun _ => ?_) (fun c9 => absurd c9 (by decide +kernel))
              refine lv_iconst (v := 0) hx hb dX12_secret_94 (by decide) ?_
              refine lv_istore (lv' := [(4, .int 0), (0, .ref h0), (1, .int 1), (2, .int p2), (3, .int 4)]) hx hb dX12_secret_95 hl (by decide) rfl ?_
              clear hl
              clear ls
              intro ls hl
              refine lv_iconst (v := 0) hx hb dX12_secret_97 (by decide) ?_
              refine lv_istore (lv' := [(5, .int 0), (4, .int 0), (0, .ref h0), (1, .int 1), (2, .int p2), (3, .int 4)]) hx hb dX12_secret_98 hl (by decide) rfl ?_
              clear hl
              clear ls
              intro ls hl
              refine lv_iload hx hb dX12_secret_100 (lv_at hl 0 rfl) ?_
              refine lv_iconst (v := 3) hx hb dX12_secret_102 (by decide) ?_
              refine lv_icmp_ge (tgt := 132) hx hb dX12_secret_103 (by decide) (fun c9 => absurd c9 (by decide +kernel)) (fun _ => ?_)
              refine lv_iload hx hb dX12_secret_106 (lv_at hl 1 rfl) ?_
              refine lv_aload_n hx hb dX12_secret_108 rfl (lv_at hl 2 rfl) ?_
              refine gm_get (D := D) (ci := 12) (v := .ref h57) (C := RX12) (T := TX12) (N := 83) hx hb hg inlX12 hown hK.1 hP 0 rfl rfl 53 (by decide) tX12_53 (hg _ gw_207) rfl dX12_secret_109 ?_
              refine lv_iload hx hb dX12_secret_112 (lv_at hl 0 rfl) ?_
              refine va_iald hx hb hK.1 hP 1 0 rfl rfl (by unfold vp_in; decide +kernel) dX12_secret_114 ?_
              refine g_fi (v := 0) (by rfl) ?_
              refine lv_if_le (tgt := 122) hx hb dX12_secret_115 (by decide) (fun _ => ?_) (fun c9 => absurd c9 (by decide +kernel))
              refine lv_iconst (v := 0) hx hb dX12_secret_122 (by decide) ?_
              refine lv_iadd hx hb dX12_secret_123 ?_
              refine g_fi (v := 0) (by decide +kernel) ?_
              refine lv_istore (lv' := [(4, .int 0), (5, .int 0), (0, .ref h0), (1, .int 1), (2, .int p2), (3, .int 4)]) hx hb dX12_secret_124 hl (by decide) rfl ?_
              clear hl
              clear ls
              intro ls hl
              refine lv_iinc (v := 1) (lv' := [(5, .int 1), (4, .int 0), (0, .ref h0), (1, .int 1), (2, .int p2), (3, .int 4)]) hx hb dX12_secret_126 hl (k := 1) rfl (by decide +kernel) (by decide) rfl ?_
              clear hl
              clear ls
              intro ls hl
              refine lv_goto (tgt := 100) hx hb dX12_secret_129 (by decide) ?_
              refine lv_iload hx hb dX12_secret_100 (lv_at hl 0 rfl) ?_
              refine lv_iconst (v := 3) hx hb dX12_secret_102 (by decide) ?_
              refine lv_icmp_ge (tgt := 132) hx hb dX12_secret_103 (by decide) (fun c9 => absurd c9 (by decide +kernel)) (fun _ => ?_)
              refine lv_iload hx hb dX12_secret_106 (lv_at hl 1 rfl) ?_
              refine lv_aload_n hx hb dX12_secret_108 rfl (lv_at hl 2 rfl) ?_
              refine gm_get (D := D) (ci := 12) (v := .ref h57) (C := RX12) (T := TX12) (N := 83) hx hb hg inlX12 hown hK.1 hP 0 rfl rfl 53 (by decide) tX12_53 (hg _ gw_207) rfl dX12_secret_109 ?_
              refine lv_iload hx hb dX12_secret_112 (lv_at hl 0 rfl) ?_
              refine va_iald hx hb hK.1 hP 1 0 rfl rfl (by unfold vp_in; decide +kernel) dX12_secret_114 ?_
              refine g_fi (v := 4) (by rfl) ?_
              refine lv_if_le (tgt := 122) hx hb dX12_secret_115 (by decide) (fun c9 => absurd c9 (by decide +kernel)) (fun _ => ?_)
              refine lv_iconst (v := 1) hx hb dX12_secret_118 (by decide) ?_
              refine lv_goto (tgt := 123) hx hb dX12_secret_119 (by decide) ?_
              refine lv_iadd hx hb dX12_secret_123 ?_
              refine g_fi (v := 1) (by decide +kernel) ?_
              refine lv_istore (lv' := [(4, .int 1), (5, .int 1), (0, .ref h0), (1, .int 1), (2, .int p2), (3, .int 4)]) hx hb dX12_secret_124 hl (by decide) rfl ?_
              clear hl
              clear ls
              intro ls hl
              refine lv_iinc (v := 2) (lv' := [(5, .int 2), (4, .int 1), (0, .ref h0), (1, .int 1), (2, .int p2), (3, .int 4)]) hx hb dX12_secret_126 hl (k := 1) rfl (by decide +kernel) (by decide) rfl ?_
              clear hl
              clear ls
              intro ls hl
              refine lv_goto (tgt := 100) hx hb dX12_secret_129 (by decide) ?_
              refine lv_iload hx hb dX12_secret_100 (lv_at hl 0 rfl) ?_
              refine lv_iconst (v := 3) hx hb dX12_secret_102 (by decide) ?_
              refine lv_icmp_ge (tgt := 132) hx hb dX12_secret_103 (by decide) (fun c9 => absurd c9 (by decide +kernel)) (fun _ => ?_)
              refine lv_iload hx hb dX12_secret_106 (lv_at hl 1 rfl) ?_
              refine lv_aload_n hx hb dX12_secret_108 rfl (lv_at hl 2 rfl) ?_
              refine gm_get (D := D) (ci := 12) (v := .ref h57) (C := RX12) (T := TX12) (N := 83) hx hb hg inlX12 hown hK.1 hP 0 rfl rfl 53 (by decide) tX12_53 (hg _ gw_207) rfl dX12_secret_109 ?_
              refine lv_iload hx hb dX12_secret_112 (lv_at hl 0 rfl) ?_
              refine va_iald hx hb hK.1 hP 1 0 rfl rfl (by unfold vp_in; decide +kernel) dX12_secret_114 ?_
              refine g_fi (v := 0) (by rfl) ?_
              refine lv_if_le (tgt := 122) hx hb dX12_secret_115 (by decide) (fun _ => ?_) (fun c9 => absurd c9 (by decide +kernel))
              refine lv_iconst (v := 0) hx hb dX12_secret_122 (by decide) ?_
              refine lv_iadd hx hb dX12_secret_123 ?_
              refine g_fi (v := 1) (by decide +kernel) ?_
              refine lv_istore (lv' := [(4, .int 1), (5, .int 2), (0, .ref h0), (1, .int 1), (2, .int p2), (3, .int 4)]) hx hb dX12_secret_124 hl (by decide) rfl ?_
              clear hl
              clear ls
              intro ls hl
              refine lv_iinc (v := 3) (lv' := [(5, .int 3), (4, .int 1), (0, .ref h0), (1, .int 1), (2, .int p2), (3, .int 4)]) hx hb dX12_secret_126 hl (k := 1) rfl (by decide +kernel) (by decide) rfl ?_
              clear hl
              clear ls
              intro ls hl
              refine lv_goto (tgt := 100) hx hb dX12_secret_129 (by decide) ?_
              refine lv_iload hx hb dX12_secret_100 (lv_at hl 0 rfl) ?_
              refine lv_iconst (v := 3) hx hb dX12_secret_102 (by decide) ?_
              refine lv_icmp_ge (tgt := 132) hx hb dX12_secret_103 (by decide) (fun _ => ?_) (fun c9 => absurd c9 (by decide +kernel))
              refine lv_iload hx hb dX12_secret_132 (lv_at hl 1 rfl) ?_
              exact g_iret hx hb hr hlocks ⟨0, (upd (fun _ => 0) ((1 : Int32).toNatClampNeg) 4), fn22154⟩ hP hD hS rfl (Or.inr (Or.inr (Or.inr (Or.inr (Or.inr (Or.inr (Or.inr (Or.inr (Or.inr (Or.inr (Or.inr (Or.inr (Or.inr (Or.inr (Or.inl ⟨rfl, rfl, rfl, (by first | omega | (simp_all; done)), (by first | omega | (simp_all; done)), (by first | omega | (simp_all; done)), (by first | omega | (simp_all; done)), (by first | omega | (simp_all; done)), (by first | omega | (simp_all; done))⟩))))))))))))))) (Nat.le_of_ble_eq_true rfl) (Nat.le_of_ble_eq_true rfl) dX12_secret_134
            ·
              refine lv_aload_n hx hb dX12_secret_53 rfl (lv_at hl 0 rfl) ?_
              refine gm_get (D := D) (ci := 12) (v := .ref h57) (C := RX12) (T := TX12) (N := 83) hx hb hg inlX12 hown hK.1 hP 0 rfl rfl 53 (by decide) tX12_53 (hg _ gw_207) rfl dX12_secret_54 ?_
              refine lv_iload_n hx hb dX12_secret_57 rfl (lv_at hl 1 rfl) ?_
              refine lv_iload_n hx hb dX12_secret_58 rfl (lv_at hl 3 rfl) ?_
              refine va_iast hx hb hK.1 hP hD hS 1 0 rfl rfl (by unfold vp_in; decide +kernel) dX12_secret_59 ?_
              clear hP hD hS H locs
              refine fun H locs (hP : va_P D vwCl [(h0, .inr (12, (.ref h4 :: .int wp22065 :: .int wp22066 :: .ref h7 :: .ref h8 :: .ref h9 :: .ref h10 :: .ref h11 :: .ref h12 :: .ref h13 :: .ref h14 :: .ref h15 :: .int wp22067 :: .ref h17 :: .int wp22068 :: .ref h19 :: .int wp22069 :: .ref h21 :: .ref h22 :: .ref h23 :: .ref h24 :: .ref h25 :: .ref h26 :: .ref h27 :: .ref h28 :: .ref h29 :: .ref h30 :: .ref h31 :: .int wp22070 :: .ref h33 :: .ref h34 :: .ref h35 :: .int wp22071 :: [.ref h37, .ref h38, .ref h39, .ref h40, .ref h41, .ref h42, .ref h43, .ref h44, .ref h45, .ref h46, .ref h47, .ref h48, .ref h49, .ref h50, .ref h51, .int wp22072, .int wp22073, .int wp22074, .int wp22075, .int wp22076, .ref h57, .ref h58, .int wp22077, .ref h60, .int 0, .ref h61, .int wp22078, .ref h63, .ref h64, .int wp22079, .ref h66, .ref h67, .int wp22080, .ref h69, .ref h70, .ref h71, .ref h72, .int wp22081, .int wp22082, .int wp22083, .int wp22084, .ref h77, .ref h78, .ref h79, .ref h80, .ref h81, .ref h82, .ref h83, .ref h84, .ref h85]))), (h57, .inl (y 0, 3, .inl (upd (fun _ => 0) ((2 : Int32).toNatClampNeg) 4))), (h58, .inl (y 0, 18, .inl wf22085))] H) (hD : va_D A [(h0, .inr (12, (.ref h4 :: .int wp22065 :: .int wp22066 :: .ref h7 :: .ref h8 :: .ref h9 :: .ref h10 :: .ref h11 :: .ref h12 :: .ref h13 :: .ref h14 :: .ref h15 :: .int wp22067 :: .ref h17 :: .int wp22068 :: .ref h19 :: .int wp22069 :: .ref h21 :: .ref h22 :: .ref h23 :: .ref h24 :: .ref h25 :: .ref h26 :: .ref h27 :: .ref h28 :: .ref h29 :: .ref h30 :: .ref h31 :: .int wp22070 :: .ref h33 :: .ref h34 :: .ref h35 :: .int wp22071 :: [.ref h37, .ref h38, .ref h39, .ref h40, .ref h41, .ref h42, .ref h43, .ref h44, .ref h45, .ref h46, .ref h47, .ref h48, .ref h49, .ref h50, .ref h51, .int wp22072, .int wp22073, .int wp22074, .int wp22075, .int wp22076, .ref h57, .ref h58, .int wp22077, .ref h60, .int 0, .ref h61, .int wp22078, .ref h63, .ref h64, .int wp22079, .ref h66, .ref h67, .int wp22080, .ref h69, .ref h70, .ref h71, .ref h72, .int wp22081, .int wp22082, .int wp22083, .int wp22084, .ref h77, .ref h78, .ref h79, .ref h80, .ref h81, .ref h82, .ref h83, .ref h84, .ref h85]))), (h57, .inl (y 0, 3, .inl (upd (fun _ => 0) ((2 : Int32).toNatClampNeg) 4))), (h58, .inl (y 0, 18, .inl wf22085))]) hS => ?_
              refine lv_iconst (v := 0) hx hb dX12_secret_60 (by decide) ?_
              refine lv_istore (lv' := [(4, .int 0), (0, .ref h0), (1, .int 2), (2, .int p2), (3, .int 4)]) hx hb dX12_secret_61 hl (by decide) rfl ?_
              clear hl
              clear ls
              intro ls hl
              refine lv_iload hx hb dX12_secret_63 (lv_at hl 0 rfl) ?_
              refine lv_iload_n hx hb dX12_secret_65 rfl (lv_at hl 4 rfl) ?_
              refine lv_icmp_ge (tgt := 94) hx hb dX12_secret_66 (by decide) (fun c9 => absurd c9 (by decide +kernel)) (fun _ => ?_)
              refine lv_aload_n hx hb dX12_secret_69 rfl (lv_at hl 1 rfl) ?_
              refine gm_get (D := D) (ci := 12) (v := .ref h58) (C := RX12) (T := TX12) (N := 83) hx hb hg inlX12 hown hK.1 hP 0 rfl rfl 54 (by decide) tX12_54 (hg _ gw_208) rfl dX12_secret_70 ?_
              refine lv_bipush (v := 6) hx hb dX12_secret_73 (by decide +kernel) ?_
              refine lv_iload_n hx hb dX12_secret_75 rfl (lv_at hl 2 rfl) ?_
              refine lv_imul hx hb dX12_secret_76 ?_
              refine g_fi (v := 12) (by decide +kernel) ?_
              refine lv_iload hx hb dX12_secret_77 (lv_at hl 0 rfl) ?_
              refine lv_iadd hx hb dX12_secret_79 ?_
              refine g_fi (v := 12) (by decide +kernel) ?_
              refine lv_iload_n hx hb dX12_secret_80 rfl (lv_at hl 3 rfl) ?_
              refine lv_iload_n hx hb dX12_secret_81 rfl (lv_at hl 4 rfl) ?_
              refine lv_iload hx hb dX12_secret_82 (lv_at hl 0 rfl) ?_
              refine g_ai (wr := [(h0, .inr (12, (.ref h4 :: .int wp22065 :: .int wp22066 :: .ref h7 :: .ref h8 :: .ref h9 :: .ref h10 :: .ref h11 :: .ref h12 :: .ref h13 :: .ref h14 :: .ref h15 :: .int wp22067 :: .ref h17 :: .int wp22068 :: .ref h19 :: .int wp22069 :: .ref h21 :: .ref h22 :: .ref h23 :: .ref h24 :: .ref h25 :: .ref h26 :: .ref h27 :: .ref h28 :: .ref h29 :: .ref h30 :: .ref h31 :: .int wp22070 :: .ref h33 :: .ref h34 :: .ref h35 :: .int wp22071 :: [.ref h37, .ref h38, .ref h39, .ref h40, .ref h41, .ref h42, .ref h43, .ref h44, .ref h45, .ref h46, .ref h47, .ref h48, .ref h49, .ref h50, .ref h51, .int wp22072, .int wp22073, .int wp22074, .int wp22075, .int wp22076, .ref h57, .ref h58, .int wp22077, .ref h60, .int 0, .ref h61, .int wp22078, .ref h63, .ref h64, .int wp22079, .ref h66, .ref h67, .int wp22080, .ref h69, .ref h70, .ref h71, .ref h72, .int wp22081, .int wp22082, .int wp22083, .int wp22084, .ref h77, .ref h78, .ref h79, .ref h80, .ref h81, .ref h82, .ref h83, .ref h84, .ref h85]))), (h57, .inl (y 0, 3, .inl (upd (fun _ => 0) ((2 : Int32).toNatClampNeg) 4))), (h58, .inl (y 0, 18, .inl wf22085))]) (va_runS (As := [.int p2, .int 4, .int 0]) (rest := [.int 12, .ref h58]) ⟨hx, hb, hml, hown, hg⟩ (k_X12_digitOf_5 l D y aS H.size p2) (va_cwS 3 hg ggS_RX12_484_X12_digitOf rfl rfl rfl (by decide +kernel) ⟨Nat.le_of_ble_eq_true rfl, Nat.le_of_ble_eq_true rfl⟩) (g_preS hK hP hD [] rfl (by decide)) rfl rfl hl.1 rfl (lv_room (Nat.le_of_ble_eq_true rfl)) dX12_secret_84 ⟨Nat.le_of_ble_eq_true rfl, Nat.le_of_ble_eq_true rfl⟩) hP hD hS hA [] [0, 1, 2] rfl rfl (by decide) (by decide) ?_
              clear hP hD hS H locs
              refine fun r22155 u H locs hq hP hD hS => ?_
              subst hq
              replace hP : va_P D vwCl [(h0, .inr (12, (.ref h4 :: .int wp22065 :: .int wp22066 :: .ref h7 :: .ref h8 :: .ref h9 :: .ref h10 :: .ref h11 :: .ref h12 :: .ref h13 :: .ref h14 :: .ref h15 :: .int wp22067 :: .ref h17 :: .int wp22068 :: .ref h19 :: .int wp22069 :: .ref h21 :: .ref h22 :: .ref h23 :: .ref h24 :: .ref h25 :: .ref h26 :: .ref h27 :: .ref h28 :: .ref h29 :: .ref h30 :: .ref h31 :: .int wp22070 :: .ref h33 :: .ref h34 :: .ref h35 :: .int wp22071 :: [.ref h37, .ref h38, .ref h39, .ref h40, .ref h41, .ref h42, .ref h43, .ref h44, .ref h45, .ref h46, .ref h47, .ref h48, .ref h49, .ref h50, .ref h51, .int wp22072, .int wp22073, .int wp22074, .int wp22075, .int wp22076, .ref h57, .ref h58, .int wp22077, .ref h60, .int 0, .ref h61, .int wp22078, .ref h63, .ref h64, .int wp22079, .ref h66, .ref h67, .int wp22080, .ref h69, .ref h70, .ref h71, .ref h72, .int wp22081, .int wp22082, .int wp22083, .int wp22084, .ref h77, .ref h78, .ref h79, .ref h80, .ref h81, .ref h82, .ref h83, .ref h84, .ref h85]))), (h57, .inl (y 0, 3, .inl (upd (fun _ => 0) ((2 : Int32).toNatClampNeg) 4))), (h58, .inl (y 0, 18, .inl wf22085))] H := hP
              replace hD : va_D A [(h0, .inr (12, (.ref h4 :: .int wp22065 :: .int wp22066 :: .ref h7 :: .ref h8 :: .ref h9 :: .ref h10 :: .ref h11 :: .ref h12 :: .ref h13 :: .ref h14 :: .ref h15 :: .int wp22067 :: .ref h17 :: .int wp22068 :: .ref h19 :: .int wp22069 :: .ref h21 :: .ref h22 :: .ref h23 :: .ref h24 :: .ref h25 :: .ref h26 :: .ref h27 :: .ref h28 :: .ref h29 :: .ref h30 :: .ref h31 :: .int wp22070 :: .ref h33 :: .ref h34 :: .ref h35 :: .int wp22071 :: [.ref h37, .ref h38, .ref h39, .ref h40, .ref h41, .ref h42, .ref h43, .ref h44, .ref h45, .ref h46, .ref h47, .ref h48, .ref h49, .ref h50, .ref h51, .int wp22072, .int wp22073, .int wp22074, .int wp22075, .int wp22076, .ref h57, .ref h58, .int wp22077, .ref h60, .int 0, .ref h61, .int wp22078, .ref h63, .ref h64, .int wp22079, .ref h66, .ref h67, .int wp22080, .ref h69, .ref h70, .ref h71, .ref h72, .int wp22081, .int wp22082, .int wp22083, .int wp22084, .ref h77, .ref h78, .ref h79, .ref h80, .ref h81, .ref h82, .ref h83, .ref h84, .ref h85]))), (h57, .inl (y 0, 3, .inl (upd (fun _ => 0) ((2 : Int32).toNatClampNeg) 4))), (h58, .inl (y 0, 18, .inl wf22085))] := hD
              refine va_iast hx hb hK.1 hP hD hS 2 0 rfl rfl (by unfold vp_in; decide +kernel) dX12_secret_87 ?_
              clear hP hD hS H locs
              refine fun H locs (hP : va_P D vwCl [(h0, .inr (12, (.ref h4 :: .int wp22065 :: .int wp22066 :: .ref h7 :: .ref h8 :: .ref h9 :: .ref h10 :: .ref h11 :: .ref h12 :: .ref h13 :: .ref h14 :: .ref h15 :: .int wp22067 :: .ref h17 :: .int wp22068 :: .ref h19 :: .int wp22069 :: .ref h21 :: .ref h22 :: .ref h23 :: .ref h24 :: .ref h25 :: .ref h26 :: .ref h27 :: .ref h28 :: .ref h29 :: .ref h30 :: .ref h31 :: .int wp22070 :: .ref h33 :: .ref h34 :: .ref h35 :: .int wp22071 :: [.ref h37, .ref h38, .ref h39, .ref h40, .ref h41, .ref h42, .ref h43, .ref h44, .ref h45, .ref h46, .ref h47, .ref h48, .ref h49, .ref h50, .ref h51, .int wp22072, .int wp22073, .int wp22074, .int wp22075, .int wp22076, .ref h57, .ref h58, .int wp22077, .ref h60, .int 0, .ref h61, .int wp22078, .ref h63, .ref h64, .int wp22079, .ref h66, .ref h67, .int wp22080, .ref h69, .ref h70, .ref h71, .ref h72, .int wp22081, .int wp22082, .int wp22083, .int wp22084, .ref h77, .ref h78, .ref h79, .ref h80, .ref h81, .ref h82, .ref h83, .ref h84, .ref h85]))), (h57, .inl (y 0, 3, .inl (upd (fun _ => 0) ((2 : Int32).toNatClampNeg) 4))), (h58, .inl (y 0, 18, .inl (upd wf22085 ((12 : Int32).toNatClampNeg) ((p2 / 1000) - (p2 / 1000) / 10 * 10))))] H) (hD : va_D A [(h0, .inr (12, (.ref h4 :: .int wp22065 :: .int wp22066 :: .ref h7 :: .ref h8 :: .ref h9 :: .ref h10 :: .ref h11 :: .ref h12 :: .ref h13 :: .ref h14 :: .ref h15 :: .int wp22067 :: .ref h17 :: .int wp22068 :: .ref h19 :: .int wp22069 :: .ref h21 :: .ref h22 :: .ref h23 :: .ref h24 :: .ref h25 :: .ref h26 :: .ref h27 :: .ref h28 :: .ref h29 :: .ref h30 :: .ref h31 :: .int wp22070 :: .ref h33 :: .ref h34 :: .ref h35 :: .int wp22071 :: [.ref h37, .ref h38, .ref h39, .ref h40, .ref h41, .ref h42, .ref h43, .ref h44, .ref h45, .ref h46, .ref h47, .ref h48, .ref h49, .ref h50, .ref h51, .int wp22072, .int wp22073, .int wp22074, .int wp22075, .int wp22076, .ref h57, .ref h58, .int wp22077, .ref h60, .int 0, .ref h61, .int wp22078, .ref h63, .ref h64, .int wp22079, .ref h66, .ref h67, .int wp22080, .ref h69, .ref h70, .ref h71, .ref h72, .int wp22081, .int wp22082, .int wp22083, .int wp22084, .ref h77, .ref h78, .ref h79, .ref h80, .ref h81, .ref h82, .ref h83, .ref h84, .ref h85]))), (h57, .inl (y 0, 3, .inl (upd (fun _ => 0) ((2 : Int32).toNatClampNeg) 4))), (h58, .inl (y 0, 18, .inl (upd wf22085 ((12 : Int32).toNatClampNeg) ((p2 / 1000) - (p2 / 1000) / 10 * 10))))]) hS => ?_
              obtain ⟨fn22156, hfn22156⟩ : ∃ f9 : Nat → Int32, f9 = (upd wf22085 ((12 : Int32).toNatClampNeg) ((p2 / 1000) - (p2 / 1000) / 10 * 10)) := ⟨_, rfl⟩
              rw [← hfn22156] at hP hD
              clear hfn22156
              refine lv_iinc (v := 1) (lv' := [(4, .int 1), (0, .ref h0), (1, .int 2), (2, .int p2), (3, .int 4)]) hx hb dX12_secret_88 hl (k := 0) rfl (by decide +kernel) (by decide) rfl ?_
              clear hl
              clear ls
              intro ls hl
              refine lv_goto (tgt := 63) hx hb dX12_secret_91 (by decide) ?_
              refine lv_iload hx hb dX12_secret_63 (lv_at hl 0 rfl) ?_
              refine lv_iload_n hx hb dX12_secret_65 rfl (lv_at hl 4 rfl) ?_
              refine lv_icmp_ge (tgt := 94) hx hb dX12_secret_66 (by decide) (fun c9 => absurd c9 (by decide +kernel)) (fun _ => ?_)
              refine lv_aload_n hx hb dX12_secret_69 rfl (lv_at hl 1 rfl) ?_
              refine gm_get (D := D) (ci := 12) (v := .ref h58) (C := RX12) (T := TX12) (N := 83) hx hb hg inlX12 hown hK.1 hP 0 rfl rfl 54 (by decide) tX12_54 (hg _ gw_208) rfl dX12_secret_70 ?_
              refine lv_bipush (v := 6) hx hb dX12_secret_73 (by decide +kernel) ?_
              refine lv_iload_n hx hb dX12_secret_75 rfl (lv_at hl 2 rfl) ?_
              refine lv_imul hx hb dX12_secret_76 ?_
              refine g_fi (v := 12) (by decide +kernel) ?_
              refine lv_iload hx hb dX12_secret_77 (lv_at hl 0 rfl) ?_
              refine lv_iadd hx hb dX12_secret_79 ?_
              refine g_fi (v := 13) (by decide +kernel) ?_
              refine lv_iload_n hx hb dX12_secret_80 rfl (lv_at hl 3 rfl) ?_
              refine lv_iload_n hx hb dX12_secret_81 rfl (lv_at hl 4 rfl) ?_
              refine lv_iload hx hb dX12_secret_82 (lv_at hl 0 rfl) ?_
              refine g_ai (wr := [(h0, .inr (12, (.ref h4 :: .int wp22065 :: .int wp22066 :: .ref h7 :: .ref h8 :: .ref h9 :: .ref h10 :: .ref h11 :: .ref h12 :: .ref h13 :: .ref h14 :: .ref h15 :: .int wp22067 :: .ref h17 :: .int wp22068 :: .ref h19 :: .int wp22069 :: .ref h21 :: .ref h22 :: .ref h23 :: .ref h24 :: .ref h25 :: .ref h26 :: .ref h27 :: .ref h28 :: .ref h29 :: .ref h30 :: .ref h31 :: .int wp22070 :: .ref h33 :: .ref h34 :: .ref h35 :: .int wp22071 :: [.ref h37, .ref h38, .ref h39, .ref h40, .ref h41, .ref h42, .ref h43, .ref h44, .ref h45, .ref h46, .ref h47, .ref h48, .ref h49, .ref h50, .ref h51, .int wp22072, .int wp22073, .int wp22074, .int wp22075, .int wp22076, .ref h57, .ref h58, .int wp22077, .ref h60, .int 0, .ref h61, .int wp22078, .ref h63, .ref h64, .int wp22079, .ref h66, .ref h67, .int wp22080, .ref h69, .ref h70, .ref h71, .ref h72, .int wp22081, .int wp22082, .int wp22083, .int wp22084, .ref h77, .ref h78, .ref h79, .ref h80, .ref h81, .ref h82, .ref h83, .ref h84, .ref h85]))), (h57, .inl (y 0, 3, .inl (upd (fun _ => 0) ((2 : Int32).toNatClampNeg) 4))), (h58, .inl (y 0, 18, .inl fn22156))]) (va_runS (As := [.int p2, .int 4, .int 1]) (rest := [.int 13, .ref h58]) ⟨hx, hb, hml, hown, hg⟩ (k_X12_digitOf_6 l D y aS H.size p2) (va_cwS 3 hg ggS_RX12_484_X12_digitOf rfl rfl rfl (by decide +kernel) ⟨Nat.le_of_ble_eq_true rfl, Nat.le_of_ble_eq_true rfl⟩) (g_preS hK hP hD [] rfl (by decide)) rfl rfl hl.1 rfl (lv_room (Nat.le_of_ble_eq_true rfl)) dX12_secret_84 ⟨Nat.le_of_ble_eq_true rfl, Nat.le_of_ble_eq_true rfl⟩) hP hD hS hA [] [0, 1, 2] rfl rfl (by decide) (by decide) ?_
              clear hP hD hS H locs
              refine fun r22157 u H locs hq hP hD hS => ?_
              subst hq
              replace hP : va_P D vwCl [(h0, .inr (12, (.ref h4 :: .int wp22065 :: .int wp22066 :: .ref h7 :: .ref h8 :: .ref h9 :: .ref h10 :: .ref h11 :: .ref h12 :: .ref h13 :: .ref h14 :: .ref h15 :: .int wp22067 :: .ref h17 :: .int wp22068 :: .ref h19 :: .int wp22069 :: .ref h21 :: .ref h22 :: .ref h23 :: .ref h24 :: .ref h25 :: .ref h26 :: .ref h27 :: .ref h28 :: .ref h29 :: .ref h30 :: .ref h31 :: .int wp22070 :: .ref h33 :: .ref h34 :: .ref h35 :: .int wp22071 :: [.ref h37, .ref h38, .ref h39, .ref h40, .ref h41, .ref h42, .ref h43, .ref h44, .ref h45, .ref h46, .ref h47, .ref h48, .ref h49, .ref h50, .ref h51, .int wp22072, .int wp22073, .int wp22074, .int wp22075, .int wp22076, .ref h57, .ref h58, .int wp22077, .ref h60, .int 0, .ref h61, .int wp22078, .ref h63, .ref h64, .int wp22079, .ref h66, .ref h67, .int wp22080, .ref h69, .ref h70, .ref h71, .ref h72, .int wp22081, .int wp22082, .int wp22083, .int wp22084, .ref h77, .ref h78, .ref h79, .ref h80, .ref h81, .ref h82, .ref h83, .ref h84, .ref h85]))), (h57, .inl (y 0, 3, .inl (upd (fun _ => 0) ((2 : Int32).toNatClampNeg) 4))), (h58, .inl (y 0, 18, .inl fn22156))] H := hP
              replace hD : va_D A [(h0, .inr (12, (.ref h4 :: .int wp22065 :: .int wp22066 :: .ref h7 :: .ref h8 :: .ref h9 :: .ref h10 :: .ref h11 :: .ref h12 :: .ref h13 :: .ref h14 :: .ref h15 :: .int wp22067 :: .ref h17 :: .int wp22068 :: .ref h19 :: .int wp22069 :: .ref h21 :: .ref h22 :: .ref h23 :: .ref h24 :: .ref h25 :: .ref h26 :: .ref h27 :: .ref h28 :: .ref h29 :: .ref h30 :: .ref h31 :: .int wp22070 :: .ref h33 :: .ref h34 :: .ref h35 :: .int wp22071 :: [.ref h37, .ref h38, .ref h39, .ref h40, .ref h41, .ref h42, .ref h43, .ref h44, .ref h45, .ref h46, .ref h47, .ref h48, .ref h49, .ref h50, .ref h51, .int wp22072, .int wp22073, .int wp22074, .int wp22075, .int wp22076, .ref h57, .ref h58, .int wp22077, .ref h60, .int 0, .ref h61, .int wp22078, .ref h63, .ref h64, .int wp22079, .ref h66, .ref h67, .int wp22080, .ref h69, .ref h70, .ref h71, .ref h72, .int wp22081, .int wp22082, .int wp22083, .int wp22084, .ref h77, .ref h78, .ref h79, .ref h80, .ref h81, .ref h82, .ref h83, .ref h84, .ref h85]))), (h57, .inl (y 0, 3, .inl (upd (fun _ => 0) ((2 : Int32).toNatClampNeg) 4))), (h58, .inl (y 0, 18, .inl fn22156))] := hD
              refine va_iast hx hb hK.1 hP hD hS 2 0 rfl rfl (by unfold vp_in; decide +kernel) dX12_secret_87 ?_
              clear hP hD hS H locs
              refine fun H locs (hP : va_P D vwCl [(h0, .inr (12, (.ref h4 :: .int wp22065 :: .int wp22066 :: .ref h7 :: .ref h8 :: .ref h9 :: .ref h10 :: .ref h11 :: .ref h12 :: .ref h13 :: .ref h14 :: .ref h15 :: .int wp22067 :: .ref h17 :: .int wp22068 :: .ref h19 :: .int wp22069 :: .ref h21 :: .ref h22 :: .ref h23 :: .ref h24 :: .ref h25 :: .ref h26 :: .ref h27 :: .ref h28 :: .ref h29 :: .ref h30 :: .ref h31 :: .int wp22070 :: .ref h33 :: .ref h34 :: .ref h35 :: .int wp22071 :: [.ref h37, .ref h38, .ref h39, .ref h40, .ref h41, .ref h42, .ref h43, .ref h44, .ref h45, .ref h46, .ref h47, .ref h48, .ref h49, .ref h50, .ref h51, .int wp22072, .int wp22073, .int wp22074, .int wp22075, .int wp22076, .ref h57, .ref h58, .int wp22077, .ref h60, .int 0, .ref h61, .int wp22078, .ref h63, .ref h64, .int wp22079, .ref h66, .ref h67, .int wp22080, .ref h69, .ref h70, .ref h71, .ref h72, .int wp22081, .int wp22082, .int wp22083, .int wp22084, .ref h77, .ref h78, .ref h79, .ref h80, .ref h81, .ref h82, .ref h83, .ref h84, .ref h85]))), (h57, .inl (y 0, 3, .inl (upd (fun _ => 0) ((2 : Int32).toNatClampNeg) 4))), (h58, .inl (y 0, 18, .inl (upd fn22156 ((13 : Int32).toNatClampNeg) ((p2 / 100) - (p2 / 100) / 10 * 10))))] H) (hD : va_D A [(h0, .inr (12, (.ref h4 :: .int wp22065 :: .int wp22066 :: .ref h7 :: .ref h8 :: .ref h9 :: .ref h10 :: .ref h11 :: .ref h12 :: .ref h13 :: .ref h14 :: .ref h15 :: .int wp22067 :: .ref h17 :: .int wp22068 :: .ref h19 :: .int wp22069 :: .ref h21 :: .ref h22 :: .ref h23 :: .ref h24 :: .ref h25 :: .ref h26 :: .ref h27 :: .ref h28 :: .ref h29 :: .ref h30 :: .ref h31 :: .int wp22070 :: .ref h33 :: .ref h34 :: .ref h35 :: .int wp22071 :: [.ref h37, .ref h38, .ref h39, .ref h40, .ref h41, .ref h42, .ref h43, .ref h44, .ref h45, .ref h46, .ref h47, .ref h48, .ref h49, .ref h50, .ref h51, .int wp22072, .int wp22073, .int wp22074, .int wp22075, .int wp22076, .ref h57, .ref h58, .int wp22077, .ref h60, .int 0, .ref h61, .int wp22078, .ref h63, .ref h64, .int wp22079, .ref h66, .ref h67, .int wp22080, .ref h69, .ref h70, .ref h71, .ref h72, .int wp22081, .int wp22082, .int wp22083, .int wp22084, .ref h77, .ref h78, .ref h79, .ref h80, .ref h81, .ref h82, .ref h83, .ref h84, .ref h85]))), (h57, .inl (y 0, 3, .inl (upd (fun _ => 0) ((2 : Int32).toNatClampNeg) 4))), (h58, .inl (y 0, 18, .inl (upd fn22156 ((13 : Int32).toNatClampNeg) ((p2 / 100) - (p2 / 100) / 10 * 10))))]) hS => ?_
              obtain ⟨fn22158, hfn22158⟩ : ∃ f9 : Nat → Int32, f9 = (upd fn22156 ((13 : Int32).toNatClampNeg) ((p2 / 100) - (p2 / 100) / 10 * 10)) := ⟨_, rfl⟩
              rw [← hfn22158] at hP hD
              clear hfn22158
              refine lv_iinc (v := 2) (lv' := [(4, .int 2), (0, .ref h0), (1, .int 2), (2, .int p2), (3, .int 4)]) hx hb dX12_secret_88 hl (k := 0) rfl (by decide +kernel) (by decide) rfl ?_
              clear hl
              clear ls
              intro ls hl
              refine lv_goto (tgt := 63) hx hb dX12_secret_91 (by decide) ?_
              refine lv_iload hx hb dX12_secret_63 (lv_at hl 0 rfl) ?_
              refine lv_iload_n hx hb dX12_secret_65 rfl (lv_at hl 4 rfl) ?_
              refine lv_icmp_ge (tgt := 94) hx hb dX12_secret_66 (by decide) (fun c9 => absurd c9 (by decide +kernel)) (fun _ => ?_)
              refine lv_aload_n hx hb dX12_secret_69 rfl (lv_at hl 1 rfl) ?_
              refine gm_get (D := D) (ci := 12) (v := .ref h58) (C := RX12) (T := TX12) (N := 83) hx hb hg inlX12 hown hK.1 hP 0 rfl rfl 54 (by decide) tX12_54 (hg _ gw_208) rfl dX12_secret_70 ?_
              refine lv_bipush (v := 6) hx hb dX12_secret_73 (by decide +kernel) ?_
              refine lv_iload_n hx hb dX12_secret_75 rfl (lv_at hl 2 rfl) ?_
              refine lv_imul hx hb dX12_secret_76 ?_
              refine g_fi (v := 12) (by decide +kernel) ?_
              refine lv_iload hx hb dX12_secret_77 (lv_at hl 0 rfl) ?_
              refine lv_iadd hx hb dX12_secret_79 ?_
              refine g_fi (v := 14) (by decide +kernel) ?_
              refine lv_iload_n hx hb dX12_secret_80 rfl (lv_at hl 3 rfl) ?_
              refine lv_iload_n hx hb dX12_secret_81 rfl (lv_at hl 4 rfl) ?_
              refine lv_iload hx hb dX12_secret_82 (lv_at hl 0 rfl) ?_
              refine g_ai (wr := [(h0, .inr (12, (.ref h4 :: .int wp22065 :: .int wp22066 :: .ref h7 :: .ref h8 :: .ref h9 :: .ref h10 :: .ref h11 :: .ref h12 :: .ref h13 :: .ref h14 :: .ref h15 :: .int wp22067 :: .ref h17 :: .int wp22068 :: .ref h19 :: .int wp22069 :: .ref h21 :: .ref h22 :: .ref h23 :: .ref h24 :: .ref h25 :: .ref h26 :: .ref h27 :: .ref h28 :: .ref h29 :: .ref h30 :: .ref h31 :: .int wp22070 :: .ref h33 :: .ref h34 :: .ref h35 :: .int wp22071 :: [.ref h37, .ref h38, .ref h39, .ref h40, .ref h41, .ref h42, .ref h43, .ref h44, .ref h45, .ref h46, .ref h47, .ref h48, .ref h49, .ref h50, .ref h51, .int wp22072, .int wp22073, .int wp22074, .int wp22075, .int wp22076, .ref h57, .ref h58, .int wp22077, .ref h60, .int 0, .ref h61, .int wp22078, .ref h63, .ref h64, .int wp22079, .ref h66, .ref h67, .int wp22080, .ref h69, .ref h70, .ref h71, .ref h72, .int wp22081, .int wp22082, .int wp22083, .int wp22084, .ref h77, .ref h78, .ref h79, .ref h80, .ref h81, .ref h82, .ref h83, .ref h84, .ref h85]))), (h57, .inl (y 0, 3, .inl (upd (fun _ => 0) ((2 : Int32).toNatClampNeg) 4))), (h58, .inl (y 0, 18, .inl fn22158))]) (va_runS (As := [.int p2, .int 4, .int 2]) (rest := [.int 14, .ref h58]) ⟨hx, hb, hml, hown, hg⟩ (k_X12_digitOf_7 l D y aS H.size p2) (va_cwS 3 hg ggS_RX12_484_X12_digitOf rfl rfl rfl (by decide +kernel) ⟨Nat.le_of_ble_eq_true rfl, Nat.le_of_ble_eq_true rfl⟩) (g_preS hK hP hD [] rfl (by decide)) rfl rfl hl.1 rfl (lv_room (Nat.le_of_ble_eq_true rfl)) dX12_secret_84 ⟨Nat.le_of_ble_eq_true rfl, Nat.le_of_ble_eq_true rfl⟩) hP hD hS hA [] [0, 1, 2] rfl rfl (by decide) (by decide) ?_
              clear hP hD hS H locs
              refine fun r22159 u H locs hq hP hD hS => ?_
              subst hq
              replace hP : va_P D vwCl [(h0, .inr (12, (.ref h4 :: .int wp22065 :: .int wp22066 :: .ref h7 :: .ref h8 :: .ref h9 :: .ref h10 :: .ref h11 :: .ref h12 :: .ref h13 :: .ref h14 :: .ref h15 :: .int wp22067 :: .ref h17 :: .int wp22068 :: .ref h19 :: .int wp22069 :: .ref h21 :: .ref h22 :: .ref h23 :: .ref h24 :: .ref h25 :: .ref h26 :: .ref h27 :: .ref h28 :: .ref h29 :: .ref h30 :: .ref h31 :: .int wp22070 :: .ref h33 :: .ref h34 :: .ref h35 :: .int wp22071 :: [.ref h37, .ref h38, .ref h39, .ref h40, .ref h41, .ref h42, .ref h43, .ref h44, .ref h45, .ref h46, .ref h47, .ref h48, .ref h49, .ref h50, .ref h51, .int wp22072, .int wp22073, .int wp22074, .int wp22075, .int wp22076, .ref h57, .ref h58, .int wp22077, .ref h60, .int 0, .ref h61, .int wp22078, .ref h63, .ref h64, .int wp22079, .ref h66, .ref h67, .int wp22080, .ref h69, .ref h70, .ref h71, .ref h72, .int wp22081, .int wp22082, .int wp22083, .int wp22084, .ref h77, .ref h78, .ref h79, .ref h80, .ref h81, .ref h82, .ref h83, .ref h84, .ref h85]))), (h57, .inl (y 0, 3, .inl (upd (fun _ => 0) ((2 : Int32).toNatClampNeg) 4))), (h58, .inl (y 0, 18, .inl fn22158))] H := hP
              replace hD : va_D A [(h0, .inr (12, (.ref h4 :: .int wp22065 :: .int wp22066 :: .ref h7 :: .ref h8 :: .ref h9 :: .ref h10 :: .ref h11 :: .ref h12 :: .ref h13 :: .ref h14 :: .ref h15 :: .int wp22067 :: .ref h17 :: .int wp22068 :: .ref h19 :: .int wp22069 :: .ref h21 :: .ref h22 :: .ref h23 :: .ref h24 :: .ref h25 :: .ref h26 :: .ref h27 :: .ref h28 :: .ref h29 :: .ref h30 :: .ref h31 :: .int wp22070 :: .ref h33 :: .ref h34 :: .ref h35 :: .int wp22071 :: [.ref h37, .ref h38, .ref h39, .ref h40, .ref h41, .ref h42, .ref h43, .ref h44, .ref h45, .ref h46, .ref h47, .ref h48, .ref h49, .ref h50, .ref h51, .int wp22072, .int wp22073, .int wp22074, .int wp22075, .int wp22076, .ref h57, .ref h58, .int wp22077, .ref h60, .int 0, .ref h61, .int wp22078, .ref h63, .ref h64, .int wp22079, .ref h66, .ref h67, .int wp22080, .ref h69, .ref h70, .ref h71, .ref h72, .int wp22081, .int wp22082, .int wp22083, .int wp22084, .ref h77, .ref h78, .ref h79, .ref h80, .ref h81, .ref h82, .ref h83, .ref h84, .ref h85]))), (h57, .inl (y 0, 3, .inl (upd (fun _ => 0) ((2 : Int32).toNatClampNeg) 4))), (h58, .inl (y 0, 18, .inl fn22158))] := hD
              refine va_iast hx hb hK.1 hP hD hS 2 0 rfl rfl (by unfold vp_in; decide +kernel) dX12_secret_87 ?_
              clear hP hD hS H locs
              refine fun H locs (hP : va_P D vwCl [(h0, .inr (12, (.ref h4 :: .int wp22065 :: .int wp22066 :: .ref h7 :: .ref h8 :: .ref h9 :: .ref h10 :: .ref h11 :: .ref h12 :: .ref h13 :: .ref h14 :: .ref h15 :: .int wp22067 :: .ref h17 :: .int wp22068 :: .ref h19 :: .int wp22069 :: .ref h21 :: .ref h22 :: .ref h23 :: .ref h24 :: .ref h25 :: .ref h26 :: .ref h27 :: .ref h28 :: .ref h29 :: .ref h30 :: .ref h31 :: .int wp22070 :: .ref h33 :: .ref h34 :: .ref h35 :: .int wp22071 :: [.ref h37, .ref h38, .ref h39, .ref h40, .ref h41, .ref h42, .ref h43, .ref h44, .ref h45, .ref h46, .ref h47, .ref h48, .ref h49, .ref h50, .ref h51, .int wp22072, .int wp22073, .int wp22074, .int wp22075, .int wp22076, .ref h57, .ref h58, .int wp22077, .ref h60, .int 0, .ref h61, .int wp22078, .ref h63, .ref h64, .int wp22079, .ref h66, .ref h67, .int wp22080, .ref h69, .ref h70, .ref h71, .ref h72, .int wp22081, .int wp22082, .int wp22083, .int wp22084, .ref h77, .ref h78, .ref h79, .ref h80, .ref h81, .ref h82, .ref h83, .ref h84, .ref h85]))), (h57, .inl (y 0, 3, .inl (upd (fun _ => 0) ((2 : Int32).toNatClampNeg) 4))), (h58, .inl (y 0, 18, .inl (upd fn22158 ((14 : Int32).toNatClampNeg) ((p2 / 10) - (p2 / 10) / 10 * 10))))] H) (hD : va_D A [(h0, .inr (12, (.ref h4 :: .int wp22065 :: .int wp22066 :: .ref h7 :: .ref h8 :: .ref h9 :: .ref h10 :: .ref h11 :: .ref h12 :: .ref h13 :: .ref h14 :: .ref h15 :: .int wp22067 :: .ref h17 :: .int wp22068 :: .ref h19 :: .int wp22069 :: .ref h21 :: .ref h22 :: .ref h23 :: .ref h24 :: .ref h25 :: .ref h26 :: .ref h27 :: .ref h28 :: .ref h29 :: .ref h30 :: .ref h31 :: .int wp22070 :: .ref h33 :: .ref h34 :: .ref h35 :: .int wp22071 :: [.ref h37, .ref h38, .ref h39, .ref h40, .ref h41, .ref h42, .ref h43, .ref h44, .ref h45, .ref h46, .ref h47, .ref h48, .ref h49, .ref h50, .ref h51, .int wp22072, .int wp22073, .int wp22074, .int wp22075, .int wp22076, .ref h57, .ref h58, .int wp22077, .ref h60, .int 0, .ref h61, .int wp22078, .ref h63, .ref h64, .int wp22079, .ref h66, .ref h67, .int wp22080, .ref h69, .ref h70, .ref h71, .ref h72, .int wp22081, .int wp22082, .int wp22083, .int wp22084, .ref h77, .ref h78, .ref h79, .ref h80, .ref h81, .ref h82, .ref h83, .ref h84, .ref h85]))), (h57, .inl (y 0, 3, .inl (upd (fun _ => 0) ((2 : Int32).toNatClampNeg) 4))), (h58, .inl (y 0, 18, .inl (upd fn22158 ((14 : Int32).toNatClampNeg) ((p2 / 10) - (p2 / 10) / 10 * 10))))]) hS => ?_
              obtain ⟨fn22160, hfn22160⟩ : ∃ f9 : Nat → Int32, f9 = (upd fn22158 ((14 : Int32).toNatClampNeg) ((p2 / 10) - (p2 / 10) / 10 * 10)) := ⟨_, rfl⟩
              rw [← hfn22160] at hP hD
              clear hfn22160
              refine lv_iinc (v := 3) (lv' := [(4, .int 3), (0, .ref h0), (1, .int 2), (2, .int p2), (3, .int 4)]) hx hb dX12_secret_88 hl (k := 0) rfl (by decide +kernel) (by decide) rfl ?_
              clear hl
              clear ls
              intro ls hl
              refine lv_goto (tgt := 63) hx hb dX12_secret_91 (by decide) ?_
              refine lv_iload hx hb dX12_secret_63 (lv_at hl 0 rfl) ?_
              refine lv_iload_n hx hb dX12_secret_65 rfl (lv_at hl 4 rfl) ?_
              refine lv_icmp_ge (tgt := 94) hx hb dX12_secret_66 (by decide) (fun c9 => absurd c9 (by decide +kernel)) (fun _ => ?_)
              refine lv_aload_n hx hb dX12_secret_69 rfl (lv_at hl 1 rfl) ?_
              refine gm_get (D := D) (ci := 12) (v := .ref h58) (C := RX12) (T := TX12) (N := 83) hx hb hg inlX12 hown hK.1 hP 0 rfl rfl 54 (by decide) tX12_54 (hg _ gw_208) rfl dX12_secret_70 ?_
              refine lv_bipush (v := 6) hx hb dX12_secret_73 (by decide +kernel) ?_
              refine lv_iload_n hx hb dX12_secret_75 rfl (lv_at hl 2 rfl) ?_
              refine lv_imul hx hb dX12_secret_76 ?_
              refine g_fi (v := 12) (by decide +kernel) ?_
              refine lv_iload hx hb dX12_secret_77 (lv_at hl 0 rfl) ?_
              refine lv_iadd hx hb dX12_secret_79 ?_
              refine g_fi (v := 15) (by decide +kernel) ?_
              refine lv_iload_n hx hb dX12_secret_80 rfl (lv_at hl 3 rfl) ?_
              refine lv_iload_n hx hb dX12_secret_81 rfl (lv_at hl 4 rfl) ?_
              refine lv_iload hx hb dX12_secret_82 (lv_at hl 0 rfl) ?_
              refine g_ai (wr := [(h0, .inr (12, (.ref h4 :: .int wp22065 :: .int wp22066 :: .ref h7 :: .ref h8 :: .ref h9 :: .ref h10 :: .ref h11 :: .ref h12 :: .ref h13 :: .ref h14 :: .ref h15 :: .int wp22067 :: .ref h17 :: .int wp22068 :: .ref h19 :: .int wp22069 :: .ref h21 :: .ref h22 :: .ref h23 :: .ref h24 :: .ref h25 :: .ref h26 :: .ref h27 :: .ref h28 :: .ref h29 :: .ref h30 :: .ref h31 :: .int wp22070 :: .ref h33 :: .ref h34 :: .ref h35 :: .int wp22071 :: [.ref h37, .ref h38, .ref h39, .ref h40, .ref h41, .ref h42, .ref h43, .ref h44, .ref h45, .ref h46, .ref h47, .ref h48, .ref h49, .ref h50, .ref h51, .int wp22072, .int wp22073, .int wp22074, .int wp22075, .int wp22076, .ref h57, .ref h58, .int wp22077, .ref h60, .int 0, .ref h61, .int wp22078, .ref h63, .ref h64, .int wp22079, .ref h66, .ref h67, .int wp22080, .ref h69, .ref h70, .ref h71, .ref h72, .int wp22081, .int wp22082, .int wp22083, .int wp22084, .ref h77, .ref h78, .ref h79, .ref h80, .ref h81, .ref h82, .ref h83, .ref h84, .ref h85]))), (h57, .inl (y 0, 3, .inl (upd (fun _ => 0) ((2 : Int32).toNatClampNeg) 4))), (h58, .inl (y 0, 18, .inl fn22160))]) (va_runS (As := [.int p2, .int 4, .int 3]) (rest := [.int 15, .ref h58]) ⟨hx, hb, hml, hown, hg⟩ (k_X12_digitOf_8 l D y aS H.size p2) (va_cwS 3 hg ggS_RX12_484_X12_digitOf rfl rfl rfl (by decide +kernel) ⟨Nat.le_of_ble_eq_true rfl, Nat.le_of_ble_eq_true rfl⟩) (g_preS hK hP hD [] rfl (by decide)) rfl rfl hl.1 rfl (lv_room (Nat.le_of_ble_eq_true rfl)) dX12_secret_84 ⟨Nat.le_of_ble_eq_true rfl, Nat.le_of_ble_eq_true rfl⟩) hP hD hS hA [] [0, 1, 2] rfl rfl (by decide) (by decide) ?_
              clear hP hD hS H locs
              refine fun r22161 u H locs hq hP hD hS => ?_
              subst hq
              replace hP : va_P D vwCl [(h0, .inr (12, (.ref h4 :: .int wp22065 :: .int wp22066 :: .ref h7 :: .ref h8 :: .ref h9 :: .ref h10 :: .ref h11 :: .ref h12 :: .ref h13 :: .ref h14 :: .ref h15 :: .int wp22067 :: .ref h17 :: .int wp22068 :: .ref h19 :: .int wp22069 :: .ref h21 :: .ref h22 :: .ref h23 :: .ref h24 :: .ref h25 :: .ref h26 :: .ref h27 :: .ref h28 :: .ref h29 :: .ref h30 :: .ref h31 :: .int wp22070 :: .ref h33 :: .ref h34 :: .ref h35 :: .int wp22071 :: [.ref h37, .ref h38, .ref h39, .ref h40, .ref h41, .ref h42, .ref h43, .ref h44, .ref h45, .ref h46, .ref h47, .ref h48, .ref h49, .ref h50, .ref h51, .int wp22072, .int wp22073, .int wp22074, .int wp22075, .int wp22076, .ref h57, .ref h58, .int wp22077, .ref h60, .int 0, .ref h61, .int wp22078, .ref h63, .ref h64, .int wp22079, .ref h66, .ref h67, .int wp22080, .ref h69, .ref h70, .ref h71, .ref h72, .int wp22081, .int wp22082, .int wp22083, .int wp22084, .ref h77, .ref h78, .ref h79, .ref h80, .ref h81, .ref h82, .ref h83, .ref h84, .ref h85]))), (h57, .inl (y 0, 3, .inl (upd (fun _ => 0) ((2 : Int32).toNatClampNeg) 4))), (h58, .inl (y 0, 18, .inl fn22160))] H := hP
              replace hD : va_D A [(h0, .inr (12, (.ref h4 :: .int wp22065 :: .int wp22066 :: .ref h7 :: .ref h8 :: .ref h9 :: .ref h10 :: .ref h11 :: .ref h12 :: .ref h13 :: .ref h14 :: .ref h15 :: .int wp22067 :: .ref h17 :: .int wp22068 :: .ref h19 :: .int wp22069 :: .ref h21 :: .ref h22 :: .ref h23 :: .ref h24 :: .ref h25 :: .ref h26 :: .ref h27 :: .ref h28 :: .ref h29 :: .ref h30 :: .ref h31 :: .int wp22070 :: .ref h33 :: .ref h34 :: .ref h35 :: .int wp22071 :: [.ref h37, .ref h38, .ref h39, .ref h40, .ref h41, .ref h42, .ref h43, .ref h44, .ref h45, .ref h46, .ref h47, .ref h48, .ref h49, .ref h50, .ref h51, .int wp22072, .int wp22073, .int wp22074, .int wp22075, .int wp22076, .ref h57, .ref h58, .int wp22077, .ref h60, .int 0, .ref h61, .int wp22078, .ref h63, .ref h64, .int wp22079, .ref h66, .ref h67, .int wp22080, .ref h69, .ref h70, .ref h71, .ref h72, .int wp22081, .int wp22082, .int wp22083, .int wp22084, .ref h77, .ref h78, .ref h79, .ref h80, .ref h81, .ref h82, .ref h83, .ref h84, .ref h85]))), (h57, .inl (y 0, 3, .inl (upd (fun _ => 0) ((2 : Int32).toNatClampNeg) 4))), (h58, .inl (y 0, 18, .inl fn22160))] := hD
              refine va_iast hx hb hK.1 hP hD hS 2 0 rfl rfl (by unfold vp_in; decide +kernel) dX12_secret_87 ?_
              clear hP hD hS H locs
              refine fun H locs (hP : va_P D vwCl [(h0, .inr (12, (.ref h4 :: .int wp22065 :: .int wp22066 :: .ref h7 :: .ref h8 :: .ref h9 :: .ref h10 :: .ref h11 :: .ref h12 :: .ref h13 :: .ref h14 :: .ref h15 :: .int wp22067 :: .ref h17 :: .int wp22068 :: .ref h19 :: .int wp22069 :: .ref h21 :: .ref h22 :: .ref h23 :: .ref h24 :: .ref h25 :: .ref h26 :: .ref h27 :: .ref h28 :: .ref h29 :: .ref h30 :: .ref h31 :: .int wp22070 :: .ref h33 :: .ref h34 :: .ref h35 :: .int wp22071 :: [.ref h37, .ref h38, .ref h39, .ref h40, .ref h41, .ref h42, .ref h43, .ref h44, .ref h45, .ref h46, .ref h47, .ref h48, .ref h49, .ref h50, .ref h51, .int wp22072, .int wp22073, .int wp22074, .int wp22075, .int wp22076, .ref h57, .ref h58, .int wp22077, .ref h60, .int 0, .ref h61, .int wp22078, .ref h63, .ref h64, .int wp22079, .ref h66, .ref h67, .int wp22080, .ref h69, .ref h70, .ref h71, .ref h72, .int wp22081, .int wp22082, .int wp22083, .int wp22084, .ref h77, .ref h78, .ref h79, .ref h80, .ref h81, .ref h82, .ref h83, .ref h84, .ref h85]))), (h57, .inl (y 0, 3, .inl (upd (fun _ => 0) ((2 : Int32).toNatClampNeg) 4))), (h58, .inl (y 0, 18, .inl (upd fn22160 ((15 : Int32).toNatClampNeg) ((p2 / 1) - (p2 / 1) / 10 * 10))))] H) (hD : va_D A [(h0, .inr (12, (.ref h4 :: .int wp22065 :: .int wp22066 :: .ref h7 :: .ref h8 :: .ref h9 :: .ref h10 :: .ref h11 :: .ref h12 :: .ref h13 :: .ref h14 :: .ref h15 :: .int wp22067 :: .ref h17 :: .int wp22068 :: .ref h19 :: .int wp22069 :: .ref h21 :: .ref h22 :: .ref h23 :: .ref h24 :: .ref h25 :: .ref h26 :: .ref h27 :: .ref h28 :: .ref h29 :: .ref h30 :: .ref h31 :: .int wp22070 :: .ref h33 :: .ref h34 :: .ref h35 :: .int wp22071 :: [.ref h37, .ref h38, .ref h39, .ref h40, .ref h41, .ref h42, .ref h43, .ref h44, .ref h45, .ref h46, .ref h47, .ref h48, .ref h49, .ref h50, .ref h51, .int wp22072, .int wp22073, .int wp22074, .int wp22075, .int wp22076, .ref h57, .ref h58, .int wp22077, .ref h60, .int 0, .ref h61, .int wp22078, .ref h63, .ref h64, .int wp22079, .ref h66, .ref h67, .int wp22080, .ref h69, .ref h70, .ref h71, .ref h72, .int wp22081, .int wp22082, .int wp22083, .int wp22084, .ref h77, .ref h78, .ref h79, .ref h80, .ref h81, .ref h82, .ref h83, .ref h84, .ref h85]))), (h57, .inl (y 0, 3, .inl (upd (fun _ => 0) ((2 : Int32).toNatClampNeg) 4))), (h58, .inl (y 0, 18, .inl (upd fn22160 ((15 : Int32).toNatClampNeg) ((p2 / 1) - (p2 / 1) / 10 * 10))))]) hS => ?_
              obtain ⟨fn22162, hfn22162⟩ : ∃ f9 : Nat → Int32, f9 = (upd fn22160 ((15 : Int32).toNatClampNeg) ((p2 / 1) - (p2 / 1) / 10 * 10)) := ⟨_, rfl⟩
              rw [← hfn22162] at hP hD
              clear hfn22162
              refine lv_iinc (v := 4) (lv' := [(4, .int 4), (0, .ref h0), (1, .int 2), (2, .int p2), (3, .int 4)]) hx hb dX12_secret_88 hl (k := 0) rfl (by decide +kernel) (by decide) rfl ?_
              clear hl
              clear ls
              intro ls hl
              refine lv_goto (tgt := 63) hx hb dX12_secret_91 (by decide) ?_
              refine lv_iload hx hb dX12_secret_63 (lv_at hl 0 rfl) ?_
              refine lv_iload_n hx hb dX12_secret_65 rfl (lv_at hl 4 rfl) ?_
              refine lv_icmp_ge (tgt := 94) hx hb dX12_secret_66 (by decide) (fun _ => ?_) (fun c9 => absurd c9 (by decide +kernel))
              refine lv_iconst (v := 0) hx hb dX12_secret_94 (by decide) ?_
              refine lv_istore (lv' := [(4, .int 0), (0, .ref h0), (1, .int 2), (2, .int p2), (3, .int 4)]) hx hb dX12_secret_95 hl (by decide) rfl ?_
              clear hl
              clear ls
              intro ls hl
              refine lv_iconst (v := 0) hx hb dX12_secret_97 (by decide) ?_
              refine lv_istore (lv' := [(5, .int 0), (4, .int 0), (0, .ref h0), (1, .int 2), (2, .int p2), (3, .int 4)]) hx hb dX12_secret_98 hl (by decide) rfl ?_
              clear hl
              clear ls
              intro ls hl
              refine lv_iload hx hb dX12_secret_100 (lv_at hl 0 rfl) ?_
              refine lv_iconst (v := 3) hx hb dX12_secret_102 (by decide) ?_
              refine lv_icmp_ge (tgt := 132) hx hb dX12_secret_103 (by decide) (fun c9 => absurd c9 (by decide +kernel)) (fun _ => ?_)
              refine lv_iload hx hb dX12_secret_106 (lv_at hl 1 rfl) ?_
              refine lv_aload_n hx hb dX12_secret_108 rfl (lv_at hl 2 rfl) ?_
              refine gm_get (D := D) (ci := 12) (v := .ref h57) (C := RX12) (T := TX12) (N := 83) hx hb hg inlX12 hown hK.1 hP 0 rfl rfl 53 (by decide) tX12_53 (hg _ gw_207) rfl dX12_secret_109 ?_
              refine lv_iload hx hb dX12_secret_112 (lv_at hl 0 rfl) ?_
              refine va_iald hx hb hK.1 hP 1 0 rfl rfl (by unfold vp_in; decide +kernel) dX12_secret_114 ?_
              refine g_fi (v := 0) (by rfl) ?_
              refine lv_if_le (tgt := 122) hx hb dX12_secret_115 (by decide) (fun _ => ?_) (fun c9 => absurd c9 (by decide +kernel))
              refine lv_iconst (v := 0) hx hb dX12_secret_122 (by decide) ?_
              refine lv_iadd hx hb dX12_secret_123 ?_
              refine g_fi (v := 0) (by decide +kernel) ?_
              refine lv_istore (lv' := [(4, .int 0), (5, .int 0), (0, .ref h0), (1, .int 2), (2, .int p2), (3, .int 4)]) hx hb dX12_secret_124 hl (by decide) rfl ?_
              clear hl
              clear ls
              intro ls hl
              refine lv_iinc (v := 1) (lv' := [(5, .int 1), (4, .int 0), (0, .ref h0), (1, .int 2), (2, .int p2), (3, .int 4)]) hx hb dX12_secret_126 hl (k := 1) rfl (by decide +kernel) (by decide) rfl ?_
              clear hl
              clear ls
              intro ls hl
              refine lv_goto (tgt := 100) hx hb dX12_secret_129 (by decide) ?_
              refine lv_iload hx hb dX12_secret_100 (lv_at hl 0 rfl) ?_
              refine lv_iconst (v := 3) hx hb dX12_secret_102 (by decide) ?_
              refine lv_icmp_ge (tgt := 132) hx hb dX12_secret_103 (by decide) (fun c9 => absurd c9 (by decide +kernel)) (fun _ => ?_)
              refine lv_iload hx hb dX12_secret_106 (lv_at hl 1 rfl) ?_
              refine lv_aload_n hx hb dX12_secret_108 rfl (lv_at hl 2 rfl) ?_
              refine gm_get (D := D) (ci := 12) (v := .ref h57) (C := RX12) (T := TX12) (N := 83) hx hb hg inlX12 hown hK.1 hP 0 rfl rfl 53 (by decide) tX12_53 (hg _ gw_207) rfl dX12_secret_109 ?_
              refine lv_iload hx hb dX12_secret_112 (lv_at hl 0 rfl) ?_
              refine va_iald hx hb hK.1 hP 1 0 rfl rfl (by unfold vp_in; decide +kernel) dX12_secret_114 ?_
              refine g_fi (v := 0) (by rfl) ?_
              refine lv_if_le (tgt := 122) hx hb dX12_secret_115 (by decide) (fun _ => ?_) (fun c9 => absurd c9 (by decide +kernel))
              refine lv_iconst (v := 0) hx hb dX12_secret_122 (by decide) ?_
              refine lv_iadd hx hb dX12_secret_123 ?_
              refine g_fi (v := 0) (by decide +kernel) ?_
              refine lv_istore (lv' := [(4, .int 0), (5, .int 1), (0, .ref h0), (1, .int 2), (2, .int p2), (3, .int 4)]) hx hb dX12_secret_124 hl (by decide) rfl ?_
              clear hl
              clear ls
              intro ls hl
              refine lv_iinc (v := 2) (lv' := [(5, .int 2), (4, .int 0), (0, .ref h0), (1, .int 2), (2, .int p2), (3, .int 4)]) hx hb dX12_secret_126 hl (k := 1) rfl (by decide +kernel) (by decide) rfl ?_
              clear hl
              clear ls
              intro ls hl
              refine lv_goto (tgt := 100) hx hb dX12_secret_129 (by decide) ?_
              refine lv_iload hx hb dX12_secret_100 (lv_at hl 0 rfl) ?_
              refine lv_iconst (v := 3) hx hb dX12_secret_102 (by decide) ?_
              refine lv_icmp_ge (tgt := 132) hx hb dX12_secret_103 (by decide) (fun c9 => absurd c9 (by decide +kernel)) (fun _ => ?_)
              refine lv_iload hx hb dX12_secret_106 (lv_at hl 1 rfl) ?_
              refine lv_aload_n hx hb dX12_secret_108 rfl (lv_at hl 2 rfl) ?_
              refine gm_get (D := D) (ci := 12) (v := .ref h57) (C := RX12) (T := TX12) (N := 83) hx hb hg inlX12 hown hK.1 hP 0 rfl rfl 53 (by decide) tX12_53 (hg _ gw_207) rfl dX12_secret_109 ?_
              refine lv_iload hx hb dX12_secret_112 (lv_at hl 0 rfl) ?_
              refine va_iald hx hb hK.1 hP 1 0 rfl rfl (by unfold vp_in; decide +kernel) dX12_secret_114 ?_
              refine g_fi (v := 4) (by rfl) ?_
              refine lv_if_le (tgt := 122) hx hb dX12_secret_115 (by decide) (fun c9 => absurd c9 (by decide +kernel)) (fun _ => ?_)
              refine lv_iconst (v := 1) hx hb dX12_secret_118 (by decide) ?_
              refine lv_goto (tgt := 123) hx hb dX12_secret_119 (by decide) ?_
              refine lv_iadd hx hb dX12_secret_123 ?_
              refine g_fi (v := 1) (by decide +kernel) ?_
              refine lv_istore (lv' := [(4, .int 1), (5, .int 2), (0, .ref h0), (1, .int 2), (2, .int p2), (3, .int 4)]) hx hb dX12_secret_124 hl (by decide) rfl ?_
              clear hl
              clear ls
              intro ls hl
              refine lv_iinc (v := 3) (lv' := [(5, .int 3), (4, .int 1), (0, .ref h0), (1, .int 2), (2, .int p2), (3, .int 4)]) hx hb dX12_secret_126 hl (k := 1) rfl (by decide +kernel) (by decide) rfl ?_
              clear hl
              clear ls
              intro ls hl
              refine lv_goto (tgt := 100) hx hb dX12_secret_129 (by decide) ?_
              refine lv_iload hx hb dX12_secret_100 (lv_at hl 0 rfl) ?_
              refine lv_iconst (v := 3) hx hb dX12_secret_102 (by decide) ?_
              refine lv_icmp_ge (tgt := 132) hx hb dX12_secret_103 (by decide) (fun _ => ?_) (fun c9 => absurd c9 (by decide +kernel))
              refine lv_iload hx hb dX12_secret_132 (lv_at hl 1 rfl) ?_
              exact g_iret hx hb hr hlocks ⟨0, (upd (fun _ => 0) ((2 : Int32).toNatClampNeg) 4), fn22162⟩ hP hD hS rfl (Or.inr (Or.inr (Or.inr (Or.inr (Or.inr (Or.inr (Or.inr (Or.inr (Or.inr (Or.inr (Or.inr (Or.inr (Or.inr (Or.inr (Or.inr (Or.inl ⟨rfl, rfl, rfl, (by first | omega | (simp_all; done)), (by first | omega | (simp_all; done)), (by first | omega | (simp_all; done)), (by first | omega | (simp_all; done)), (by first | omega | (simp_all; done)), (by first | omega | (simp_all; done))⟩)))))))))))))))) (Nat.le_of_ble_eq_true rfl) (Nat.le_of_ble_eq_true rfl) dX12_secret_134
          · have z22138 := g_ltf z22138; rw [g_l10000] at z22138
            refine lv_iconst (v := 2) hx hb dX12_secret_36 (by decide) ?_
            refine lv_goto (tgt := 41) hx hb dX12_secret_37 (by decide) ?_
            refine gm_put (D := D) (ci := 12) (v := .int 2) (ty := .int) (C := RX12) (T := TX12) (N := 83) hx hb hg inlX12 tyX12 tyX12_ok nmX12 hown hK.1 hP hD hS 0 rfl rfl 57 (by decide) tX12_57 (hg _ gw_276) (by decide +kernel) rfl rfl (Nat.le_of_ble_eq_true rfl) dX12_secret_41 ?_
            clear hP hD hS H locs
            refine fun H locs (hP : va_P D vwCl [(h0, .inr (12, (.ref h4 :: .int wp22065 :: .int wp22066 :: .ref h7 :: .ref h8 :: .ref h9 :: .ref h10 :: .ref h11 :: .ref h12 :: .ref h13 :: .ref h14 :: .ref h15 :: .int wp22067 :: .ref h17 :: .int wp22068 :: .ref h19 :: .int wp22069 :: .ref h21 :: .ref h22 :: .ref h23 :: .ref h24 :: .ref h25 :: .ref h26 :: .ref h27 :: .ref h28 :: .ref h29 :: .ref h30 :: .ref h31 :: .int wp22070 :: .ref h33 :: .ref h34 :: .ref h35 :: .int wp22071 :: [.ref h37, .ref h38, .ref h39, .ref h40, .ref h41, .ref h42, .ref h43, .ref h44, .ref h45, .ref h46, .ref h47, .ref h48, .ref h49, .ref h50, .ref h51, .int wp22072, .int wp22073, .int wp22074, .int wp22075, .int wp22076, .ref h57, .ref h58, .int wp22077, .ref h60, .int 2, .ref h61, .int wp22078, .ref h63, .ref h64, .int wp22079, .ref h66, .ref h67, .int wp22080, .ref h69, .ref h70, .ref h71, .ref h72, .int wp22081, .int wp22082, .int wp22083, .int wp22084, .ref h77, .ref h78, .ref h79, .ref h80, .ref h81, .ref h82, .ref h83, .ref h84, .ref h85]))), (h57, .inl (y 0, 3, .inl (fun _ => 0))), (h58, .inl (y 0, 18, .inl wf22085))] H) (hD : va_D A [(h0, .inr (12, (.ref h4 :: .int wp22065 :: .int wp22066 :: .ref h7 :: .ref h8 :: .ref h9 :: .ref h10 :: .ref h11 :: .ref h12 :: .ref h13 :: .ref h14 :: .ref h15 :: .int wp22067 :: .ref h17 :: .int wp22068 :: .ref h19 :: .int wp22069 :: .ref h21 :: .ref h22 :: .ref h23 :: .ref h24 :: .ref h25 :: .ref h26 :: .ref h27 :: .ref h28 :: .ref h29 :: .ref h30 :: .ref h31 :: .int wp22070 :: .ref h33 :: .ref h34 :: .ref h35 :: .int wp22071 :: [.ref h37, .ref h38, .ref h39, .ref h40, .ref h41, .ref h42, .ref h43, .ref h44, .ref h45, .ref h46, .ref h47, .ref h48, .ref h49, .ref h50, .ref h51, .int wp22072, .int wp22073, .int wp22074, .int wp22075, .int wp22076, .ref h57, .ref h58, .int wp22077, .ref h60, .int 2, .ref h61, .int wp22078, .ref h63, .ref h64, .int wp22079, .ref h66, .ref h67, .int wp22080, .ref h69, .ref h70, .ref h71, .ref h72, .int wp22081, .int wp22082, .int wp22083, .int wp22084, .ref h77, .ref h78, .ref h79, .ref h80, .ref h81, .ref h82, .ref h83, .ref h84, .ref h85]))), (h57, .inl (y 0, 3, .inl (fun _ => 0))), (h58, .inl (y 0, 18, .inl wf22085))]) hS => ?_
            refine lv_aload_n hx hb dX12_secret_44 rfl (lv_at hl 0 rfl) ?_
            refine gm_get (D := D) (ci := 12) (v := .int 2) (C := RX12) (T := TX12) (N := 83) hx hb hg inlX12 hown hK.1 hP 0 rfl rfl 57 (by decide) tX12_57 (hg _ gw_276) rfl dX12_secret_45 ?_
            refine lv_if_le (tgt := 53) hx hb dX12_secret_48 (by decide) (fun c9 => absurd c9 (by decide +kernel)) (fun _ => ?_)
            refine lv_iconst (v := 0) hx hb dX12_secret_51 (by decide) ?_
            exact g_iret hx hb hr hlocks ⟨2, (fun _ => 0), wf22085⟩ hP hD hS rfl (Or.inr (Or.inr (Or.inr (Or.inr (Or.inr (Or.inr (Or.inr (Or.inr (Or.inr (Or.inr (Or.inr (Or.inr (Or.inr (Or.inr (Or.inr (Or.inr (Or.inl ⟨rfl, rfl, rfl, rfl, (by first | omega | (simp_all; done)), (by first | omega | (simp_all; done)), (by first | omega | (simp_all; done)), (by first | omega | (simp_all; done)), (by first | omega | (simp_all; done))⟩))))))))))))))))) (Nat.le_of_ble_eq_true rfl) (Nat.le_of_ble_eq_true rfl) dX12_secret_52
        ·
          obtain rfl : p3 = 5 := Int32.toInt_inj.mp (by rw [g_l5]; omega)
          replace hP : va_P D vwCl [(h0, .inr (12, (.ref h4 :: .int wp22065 :: .int wp22066 :: .ref h7 :: .ref h8 :: .ref h9 :: .ref h10 :: .ref h11 :: .ref h12 :: .ref h13 :: .ref h14 :: .ref h15 :: .int wp22067 :: .ref h17 :: .int wp22068 :: .ref h19 :: .int wp22069 :: .ref h21 :: .ref h22 :: .ref h23 :: .ref h24 :: .ref h25 :: .ref h26 :: .ref h27 :: .ref h28 :: .ref h29 :: .ref h30 :: .ref h31 :: .int wp22070 :: .ref h33 :: .ref h34 :: .ref h35 :: .int wp22071 :: [.ref h37, .ref h38, .ref h39, .ref h40, .ref h41, .ref h42, .ref h43, .ref h44, .ref h45, .ref h46, .ref h47, .ref h48, .ref h49, .ref h50, .ref h51, .int wp22072, .int wp22073, .int wp22074, .int wp22075, .int wp22076, .ref h57, .ref h58, .int wp22077, .ref h60, .int 0, .ref h61, .int wp22078, .ref h63, .ref h64, .int wp22079, .ref h66, .ref h67, .int wp22080, .ref h69, .ref h70, .ref h71, .ref h72, .int wp22081, .int wp22082, .int wp22083, .int wp22084, .ref h77, .ref h78, .ref h79, .ref h80, .ref h81, .ref h82, .ref h83, .ref h84, .ref h85]))), (h57, .inl (y 0, 3, .inl (fun _ => 0))), (h58, .inl (y 0, 18, .inl wf22085))] H := hP
          replace hD : va_D A [(h0, .inr (12, (.ref h4 :: .int wp22065 :: .int wp22066 :: .ref h7 :: .ref h8 :: .ref h9 :: .ref h10 :: .ref h11 :: .ref h12 :: .ref h13 :: .ref h14 :: .ref h15 :: .int wp22067 :: .ref h17 :: .int wp22068 :: .ref h19 :: .int wp22069 :: .ref h21 :: .ref h22 :: .ref h23 :: .ref h24 :: .ref h25 :: .ref h26 :: .ref h27 :: .ref h28 :: .ref h29 :: .ref h30 :: .ref h31 :: .int wp22070 :: .ref h33 :: .ref h34 :: .ref h35 :: .int wp22071 :: [.ref h37, .ref h38, .ref h39, .ref h40, .ref h41, .ref h42, .ref h43, .ref h44, .ref h45, .ref h46, .ref h47, .ref h48, .ref h49, .ref h50, .ref h51, .int wp22072, .int wp22073, .int wp22074, .int wp22075, .int wp22076, .ref h57, .ref h58, .int wp22077, .ref h60, .int 0, .ref h61, .int wp22078, .ref h63, .ref h64, .int wp22079, .ref h66, .ref h67, .int wp22080, .ref h69, .ref h70, .ref h71, .ref h72, .int wp22081, .int wp22082, .int wp22083, .int wp22084, .ref h77, .ref h78, .ref h79, .ref h80, .ref h81, .ref h82, .ref h83, .ref h84, .ref h85]))), (h57, .inl (y 0, 3, .inl (fun _ => 0))), (h58, .inl (y 0, 18, .inl wf22085))] := hD
          refine lv_icmp_lt (tgt := 40) hx hb dX12_secret_33 (by decide) (fun z22163 => ?_) (fun z22163 => ?_)
          · have z22163 := g_ltt z22163; rw [g_l100000] at z22163
            refine lv_iconst (v := 0) hx hb dX12_secret_40 (by decide) ?_
            refine gm_put (D := D) (ci := 12) (v := .int 0) (ty := .int) (C := RX12) (T := TX12) (N := 83) hx hb hg inlX12 tyX12 tyX12_ok nmX12 hown hK.1 hP hD hS 0 rfl rfl 57 (by decide) tX12_57 (hg _ gw_276) (by decide +kernel) rfl rfl (Nat.le_of_ble_eq_true rfl) dX12_secret_41 ?_
            clear hP hD hS H locs
            refine fun H locs (hP : va_P D vwCl [(h0, .inr (12, (.ref h4 :: .int wp22065 :: .int wp22066 :: .ref h7 :: .ref h8 :: .ref h9 :: .ref h10 :: .ref h11 :: .ref h12 :: .ref h13 :: .ref h14 :: .ref h15 :: .int wp22067 :: .ref h17 :: .int wp22068 :: .ref h19 :: .int wp22069 :: .ref h21 :: .ref h22 :: .ref h23 :: .ref h24 :: .ref h25 :: .ref h26 :: .ref h27 :: .ref h28 :: .ref h29 :: .ref h30 :: .ref h31 :: .int wp22070 :: .ref h33 :: .ref h34 :: .ref h35 :: .int wp22071 :: [.ref h37, .ref h38, .ref h39, .ref h40, .ref h41, .ref h42, .ref h43, .ref h44, .ref h45, .ref h46, .ref h47, .ref h48, .ref h49, .ref h50, .ref h51, .int wp22072, .int wp22073, .int wp22074, .int wp22075, .int wp22076, .ref h57, .ref h58, .int wp22077, .ref h60, .int 0, .ref h61, .int wp22078, .ref h63, .ref h64, .int wp22079, .ref h66, .ref h67, .int wp22080, .ref h69, .ref h70, .ref h71, .ref h72, .int wp22081, .int wp22082, .int wp22083, .int wp22084, .ref h77, .ref h78, .ref h79, .ref h80, .ref h81, .ref h82, .ref h83, .ref h84, .ref h85]))), (h57, .inl (y 0, 3, .inl (fun _ => 0))), (h58, .inl (y 0, 18, .inl wf22085))] H) (hD : va_D A [(h0, .inr (12, (.ref h4 :: .int wp22065 :: .int wp22066 :: .ref h7 :: .ref h8 :: .ref h9 :: .ref h10 :: .ref h11 :: .ref h12 :: .ref h13 :: .ref h14 :: .ref h15 :: .int wp22067 :: .ref h17 :: .int wp22068 :: .ref h19 :: .int wp22069 :: .ref h21 :: .ref h22 :: .ref h23 :: .ref h24 :: .ref h25 :: .ref h26 :: .ref h27 :: .ref h28 :: .ref h29 :: .ref h30 :: .ref h31 :: .int wp22070 :: .ref h33 :: .ref h34 :: .ref h35 :: .int wp22071 :: [.ref h37, .ref h38, .ref h39, .ref h40, .ref h41, .ref h42, .ref h43, .ref h44, .ref h45, .ref h46, .ref h47, .ref h48, .ref h49, .ref h50, .ref h51, .int wp22072, .int wp22073, .int wp22074, .int wp22075, .int wp22076, .ref h57, .ref h58, .int wp22077, .ref h60, .int 0, .ref h61, .int wp22078, .ref h63, .ref h64, .int wp22079, .ref h66, .ref h67, .int wp22080, .ref h69, .ref h70, .ref h71, .ref h72, .int wp22081, .int wp22082, .int wp22083, .int wp22084, .ref h77, .ref h78, .ref h79, .ref h80, .ref h81, .ref h82, .ref h83, .ref h84, .ref h85]))), (h57, .inl (y 0, 3, .inl (fun _ => 0))), (h58, .inl (y 0, 18, .inl wf22085))]) hS => ?_
            refine lv_aload_n hx hb dX12_secret_44 rfl (lv_at hl 0 rfl) ?_
            refine gm_get (D := D) (ci := 12) (v := .int 0) (C := RX12) (T := TX12) (N := 83) hx hb hg inlX12 hown hK.1 hP 0 rfl rfl 57 (by decide) tX12_57 (hg _ gw_276) rfl dX12_secret_45 ?_
            refine lv_if_le (tgt := 53) hx hb dX12_secret_48 (by decide) (fun _ => ?_) (fun c9 => absurd c9 (by decide +kernel))
            have hsp : p1 = 0 ∨ p1 = 1 ∨ p1 = 2 := by
              simp only [← Int32.toInt_inj, g_l0, g_l1, g_l2]; omega
            rcases hsp with rfl | rfl | rfl
            ·
              refine lv_aload_n hx hb dX12_secret_53 rfl (lv_at hl 0 rfl) ?_
              refine gm_get (D := D) (ci := 12) (v := .ref h57) (C := RX12) (T := TX12) (N := 83) hx hb hg inlX12 hown hK.1 hP 0 rfl rfl 53 (by decide) tX12_53 (hg _ gw_207) rfl dX12_secret_54 ?_
              refine lv_iload_n hx hb dX12_secret_57 rfl (lv_at hl 1 rfl) ?_
              refine lv_iload_n hx hb dX12_secret_58 rfl (lv_at hl 3 rfl) ?_
              refine va_iast hx hb hK.1 hP hD hS 1 0 rfl rfl (by unfold vp_in; decide +kernel) dX12_secret_59 ?_
              clear hP hD hS H locs
              refine fun H locs (hP : va_P D vwCl [(h0, .inr (12, (.ref h4 :: .int wp22065 :: .int wp22066 :: .ref h7 :: .ref h8 :: .ref h9 :: .ref h10 :: .ref h11 :: .ref h12 :: .ref h13 :: .ref h14 :: .ref h15 :: .int wp22067 :: .ref h17 :: .int wp22068 :: .ref h19 :: .int wp22069 :: .ref h21 :: .ref h22 :: .ref h23 :: .ref h24 :: .ref h25 :: .ref h26 :: .ref h27 :: .ref h28 :: .ref h29 :: .ref h30 :: .ref h31 :: .int wp22070 :: .ref h33 :: .ref h34 :: .ref h35 :: .int wp22071 :: [.ref h37, .ref h38, .ref h39, .ref h40, .ref h41, .ref h42, .ref h43, .ref h44, .ref h45, .ref h46, .ref h47, .ref h48, .ref h49, .ref h50, .ref h51, .int wp22072, .int wp22073, .int wp22074, .int wp22075, .int wp22076, .ref h57, .ref h58, .int wp22077, .ref h60, .int 0, .ref h61, .int wp22078, .ref h63, .ref h64, .int wp22079, .ref h66, .ref h67, .int wp22080, .ref h69, .ref h70, .ref h71, .ref h72, .int wp22081, .int wp22082, .int wp22083, .int wp22084, .ref h77, .ref h78, .ref h79, .ref h80, .ref h81, .ref h82, .ref h83, .ref h84, .ref h85]))), (h57, .inl (y 0, 3, .inl (upd (fun _ => 0) ((0 : Int32).toNatClampNeg) 5))), (h58, .inl (y 0, 18, .inl wf22085))] H) (hD : va_D A [(h0, .inr (12, (.ref h4 :: .int wp22065 :: .int wp22066 :: .ref h7 :: .ref h8 :: .ref h9 :: .ref h10 :: .ref h11 :: .ref h12 :: .ref h13 :: .ref h14 :: .ref h15 :: .int wp22067 :: .ref h17 :: .int wp22068 :: .ref h19 :: .int wp22069 :: .ref h21 :: .ref h22 :: .ref h23 :: .ref h24 :: .ref h25 :: .ref h26 :: .ref h27 :: .ref h28 :: .ref h29 :: .ref h30 :: .ref h31 :: .int wp22070 :: .ref h33 :: .ref h34 :: .ref h35 :: .int wp22071 :: [.ref h37, .ref h38, .ref h39, .ref h40, .ref h41, .ref h42, .ref h43, .ref h44, .ref h45, .ref h46, .ref h47, .ref h48, .ref h49, .ref h50, .ref h51, .int wp22072, .int wp22073, .int wp22074, .int wp22075, .int wp22076, .ref h57, .ref h58, .int wp22077, .ref h60, .int 0, .ref h61, .int wp22078, .ref h63, .ref h64, .int wp22079, .ref h66, .ref h67, .int wp22080, .ref h69, .ref h70, .ref h71, .ref h72, .int wp22081, .int wp22082, .int wp22083, .int wp22084, .ref h77, .ref h78, .ref h79, .ref h80, .ref h81, .ref h82, .ref h83, .ref h84, .ref h85]))), (h57, .inl (y 0, 3, .inl (upd (fun _ => 0) ((0 : Int32).toNatClampNeg) 5))), (h58, .inl (y 0, 18, .inl wf22085))]) hS => ?_
              refine lv_iconst (v := 0) hx hb dX12_secret_60 (by decide) ?_
              refine lv_istore (lv' := [(4, .int 0), (0, .ref h0), (1, .int 0), (2, .int p2), (3, .int 5)]) hx hb dX12_secret_61 hl (by decide) rfl ?_
              clear hl
              clear ls
              intro ls hl
              refine lv_iload hx hb dX12_secret_63 (lv_at hl 0 rfl) ?_
              refine lv_iload_n hx hb dX12_secret_65 rfl (lv_at hl 4 rfl) ?_
              refine lv_icmp_ge (tgt := 94) hx hb dX12_secret_66 (by decide) (fun c9 => absurd c9 (by decide +kernel)) (fun _ => ?_)
              refine lv_aload_n hx hb dX12_secret_69 rfl (lv_at hl 1 rfl) ?_
              refine gm_get (D := D) (ci := 12) (v := .ref h58) (C := RX12) (T := TX12) (N := 83) hx hb hg inlX12 hown hK.1 hP 0 rfl rfl 54 (by decide) tX12_54 (hg _ gw_208) rfl dX12_secret_70 ?_
              refine lv_bipush (v := 6) hx hb dX12_secret_73 (by decide +kernel) ?_
              refine lv_iload_n hx hb dX12_secret_75 rfl (lv_at hl 2 rfl) ?_
              refine lv_imul hx hb dX12_secret_76 ?_
              refine g_fi (v := 0) (by decide +kernel) ?_
              refine lv_iload hx hb dX12_secret_77 (lv_at hl 0 rfl) ?_
              refine lv_iadd hx hb dX12_secret_79 ?_
              refine g_fi (v := 0) (by decide +kernel) ?_
              refine lv_iload_n hx hb dX12_secret_80 rfl (lv_at hl 3 rfl) ?_
              refine lv_iload_n hx hb dX12_secret_81 rfl (lv_at hl 4 rfl) ?_
              refine lv_iload hx hb dX12_secret_82 (lv_at hl 0 rfl) ?_
              refine g_ai (wr := [(h0, .inr (12, (.ref h4 :: .int wp22065 :: .int wp22066 :: .ref h7 :: .ref h8 :: .ref h9 :: .ref h10 :: .ref h11 :: .ref h12 :: .ref h13 :: .ref h14 :: .ref h15 :: .int wp22067 :: .ref h17 :: .int wp22068 :: .ref h19 :: .int wp22069 :: .ref h21 :: .ref h22 :: .ref h23 :: .ref h24 :: .ref h25 :: .ref h26 :: .ref h27 :: .ref h28 :: .ref h29 :: .ref h30 :: .ref h31 :: .int wp22070 :: .ref h33 :: .ref h34 :: .ref h35 :: .int wp22071 :: [.ref h37, .ref h38, .ref h39, .ref h40, .ref h41, .ref h42, .ref h43, .ref h44, .ref h45, .ref h46, .ref h47, .ref h48, .ref h49, .ref h50, .ref h51, .int wp22072, .int wp22073, .int wp22074, .int wp22075, .int wp22076, .ref h57, .ref h58, .int wp22077, .ref h60, .int 0, .ref h61, .int wp22078, .ref h63, .ref h64, .int wp22079, .ref h66, .ref h67, .int wp22080, .ref h69, .ref h70, .ref h71, .ref h72, .int wp22081, .int wp22082, .int wp22083, .int wp22084, .ref h77, .ref h78, .ref h79, .ref h80, .ref h81, .ref h82, .ref h83, .ref h84, .ref h85]))), (h57, .inl (y 0, 3, .inl (upd (fun _ => 0) ((0 : Int32).toNatClampNeg) 5))), (h58, .inl (y 0, 18, .inl wf22085))]) (va_runS (As := [.int p2, .int 5, .int 0]) (rest := [.int 0, .ref h58]) ⟨hx, hb, hml, hown, hg⟩ (k_X12_digitOf_9 l D y aS H.size p2) (va_cwS 3 hg ggS_RX12_484_X12_digitOf rfl rfl rfl (by decide +kernel) ⟨Nat.le_of_ble_eq_true rfl, Nat.le_of_ble_eq_true rfl⟩) (g_preS hK hP hD [] rfl (by decide)) rfl rfl hl.1 rfl (lv_room (Nat.le_of_ble_eq_true rfl)) dX12_secret_84 ⟨Nat.le_of_ble_eq_true rfl, Nat.le_of_ble_eq_true rfl⟩) hP hD hS hA [] [0, 1, 2] rfl rfl (by decide) (by decide) ?_
              clear hP hD hS H locs
              refine fun r22164 u H locs hq hP hD hS => ?_
              subst hq
              replace hP : va_P D vwCl [(h0, .inr (12, (.ref h4 :: .int wp22065 :: .int wp22066 :: .ref h7 :: .ref h8 :: .ref h9 :: .ref h10 :: .ref h11 :: .ref h12 :: .ref h13 :: .ref h14 :: .ref h15 :: .int wp22067 :: .ref h17 :: .int wp22068 :: .ref h19 :: .int wp22069 :: .ref h21 :: .ref h22 :: .ref h23 :: .ref h24 :: .ref h25 :: .ref h26 :: .ref h27 :: .ref h28 :: .ref h29 :: .ref h30 :: .ref h31 :: .int wp22070 :: .ref h33 :: .ref h34 :: .ref h35 :: .int wp22071 :: [.ref h37, .ref h38, .ref h39, .ref h40, .ref h41, .ref h42, .ref h43, .ref h44, .ref h45, .ref h46, .ref h47, .ref h48, .ref h49, .ref h50, .ref h51, .int wp22072, .int wp22073, .int wp22074, .int wp22075, .int wp22076, .ref h57, .ref h58, .int wp22077, .ref h60, .int 0, .ref h61, .int wp22078, .ref h63, .ref h64, .int wp22079, .ref h66, .ref h67, .int wp22080, .ref h69, .ref h70, .ref h71, .ref h72, .int wp22081, .int wp22082, .int wp22083, .int wp22084, .ref h77, .ref h78, .ref h79, .ref h80, .ref h81, .ref h82, .ref h83, .ref h84, .ref h85]))), (h57, .inl (y 0, 3, .inl (upd (fun _ => 0) ((0 : Int32).toNatClampNeg) 5))), (h58, .inl (y 0, 18, .inl wf22085))] H := hP
              replace hD : va_D A [(h0, .inr (12, (.ref h4 :: .int wp22065 :: .int wp22066 :: .ref h7 :: .ref h8 :: .ref h9 :: .ref h10 :: .ref h11 :: .ref h12 :: .ref h13 :: .ref h14 :: .ref h15 :: .int wp22067 :: .ref h17 :: .int wp22068 :: .ref h19 :: .int wp22069 :: .ref h21 :: .ref h22 :: .ref h23 :: .ref h24 :: .ref h25 :: .ref h26 :: .ref h27 :: .ref h28 :: .ref h29 :: .ref h30 :: .ref h31 :: .int wp22070 :: .ref h33 :: .ref h34 :: .ref h35 :: .int wp22071 :: [.ref h37, .ref h38, .ref h39, .ref h40, .ref h41, .ref h42, .ref h43, .ref h44, .ref h45, .ref h46, .ref h47, .ref h48, .ref h49, .ref h50, .ref h51, .int wp22072, .int wp22073, .int wp22074, .int wp22075, .int wp22076, .ref h57, .ref h58, .int wp22077, .ref h60, .int 0, .ref h61, .int wp22078, .ref h63, .ref h64, .int wp22079, .ref h66, .ref h67, .int wp22080, .ref h69, .ref h70, .ref h71, .ref h72, .int wp22081, .int wp22082, .int wp22083, .int wp22084, .ref h77, .ref h78, .ref h79, .ref h80, .ref h81, .ref h82, .ref h83, .ref h84, .ref h85]))), (h57, .inl (y 0, 3, .inl (upd (fun _ => 0) ((0 : Int32).toNatClampNeg) 5))), (h58, .inl (y 0, 18, .inl wf22085))] := hD
              refine va_iast hx hb hK.1 hP hD hS 2 0 rfl rfl (by unfold vp_in; decide +kernel) dX12_secret_87 ?_
              clear hP hD hS H locs
              refine fun H locs (hP : va_P D vwCl [(h0, .inr (12, (.ref h4 :: .int wp22065 :: .int wp22066 :: .ref h7 :: .ref h8 :: .ref h9 :: .ref h10 :: .ref h11 :: .ref h12 :: .ref h13 :: .ref h14 :: .ref h15 :: .int wp22067 :: .ref h17 :: .int wp22068 :: .ref h19 :: .int wp22069 :: .ref h21 :: .ref h22 :: .ref h23 :: .ref h24 :: .ref h25 :: .ref h26 :: .ref h27 :: .ref h28 :: .ref h29 :: .ref h30 :: .ref h31 :: .int wp22070 :: .ref h33 :: .ref h34 :: .ref h35 :: .int wp22071 :: [.ref h37, .ref h38, .ref h39, .ref h40, .ref h41, .ref h42, .ref h43, .ref h44, .ref h45, .ref h46, .ref h47, .ref h48, .ref h49, .ref h50, .ref h51, .int wp22072, .int wp22073, .int wp22074, .int wp22075, .int wp22076, .ref h57, .ref h58, .int wp22077, .ref h60, .int 0, .ref h61, .int wp22078, .ref h63, .ref h64, .int wp22079, .ref h66, .ref h67, .int wp22080, .ref h69, .ref h70, .ref h71, .ref h72, .int wp22081, .int wp22082, .int wp22083, .int wp22084, .ref h77, .ref h78, .ref h79, .ref h80, .ref h81, .ref h82, .ref h83, .ref h84, .ref h85]))), (h57, .inl (y 0, 3, .inl (upd (fun _ => 0) ((0 : Int32).toNatClampNeg) 5))), (h58, .inl (y 0, 18, .inl (upd wf22085 ((0 : Int32).toNatClampNeg) ((p2 / 10000) - (p2 / 10000) / 10 * 10))))] H) (hD : va_D A [(h0, .inr (12, (.ref h4 :: .int wp22065 :: .int wp22066 :: .ref h7 :: .ref h8 :: .ref h9 :: .ref h10 :: .ref h11 :: .ref h12 :: .ref h13 :: .ref h14 :: .ref h15 :: .int wp22067 :: .ref h17 :: .int wp22068 :: .ref h19 :: .int wp22069 :: .ref h21 :: .ref h22 :: .ref h23 :: .ref h24 :: .ref h25 :: .ref h26 :: .ref h27 :: .ref h28 :: .ref h29 :: .ref h30 :: .ref h31 :: .int wp22070 :: .ref h33 :: .ref h34 :: .ref h35 :: .int wp22071 :: [.ref h37, .ref h38, .ref h39, .ref h40, .ref h41, .ref h42, .ref h43, .ref h44, .ref h45, .ref h46, .ref h47, .ref h48, .ref h49, .ref h50, .ref h51, .int wp22072, .int wp22073, .int wp22074, .int wp22075, .int wp22076, .ref h57, .ref h58, .int wp22077, .ref h60, .int 0, .ref h61, .int wp22078, .ref h63, .ref h64, .int wp22079, .ref h66, .ref h67, .int wp22080, .ref h69, .ref h70, .ref h71, .ref h72, .int wp22081, .int wp22082, .int wp22083, .int wp22084, .ref h77, .ref h78, .ref h79, .ref h80, .ref h81, .ref h82, .ref h83, .ref h84, .ref h85]))), (h57, .inl (y 0, 3, .inl (upd (fun _ => 0) ((0 : Int32).toNatClampNeg) 5))), (h58, .inl (y 0, 18, .inl (upd wf22085 ((0 : Int32).toNatClampNeg) ((p2 / 10000) - (p2 / 10000) / 10 * 10))))]) hS => ?_
              obtain ⟨fn22165, hfn22165⟩ : ∃ f9 : Nat → Int32, f9 = (upd wf22085 ((0 : Int32).toNatClampNeg) ((p2 / 10000) - (p2 / 10000) / 10 * 10)) := ⟨_, rfl⟩
              rw [← hfn22165] at hP hD
              clear hfn22165
              refine lv_iinc (v := 1) (lv' := [(4, .int 1), (0, .ref h0), (1, .int 0), (2, .int p2), (3, .int 5)]) hx hb dX12_secret_88 hl (k := 0) rfl (by decide +kernel) (by decide) rfl ?_
              clear hl
              clear ls
              intro ls hl
              refine lv_goto (tgt := 63) hx hb dX12_secret_91 (by decide) ?_
              refine lv_iload hx hb dX12_secret_63 (lv_at hl 0 rfl) ?_
              refine lv_iload_n hx hb dX12_secret_65 rfl (lv_at hl 4 rfl) ?_
              refine lv_icmp_ge (tgt := 94) hx hb dX12_secret_66 (by decide) (fun c9 => absurd c9 (by decide +kernel)) (fun _ => ?_)
              refine lv_aload_n hx hb dX12_secret_69 rfl (lv_at hl 1 rfl) ?_
              refine gm_get (D := D) (ci := 12) (v := .ref h58) (C := RX12) (T := TX12) (N := 83) hx hb hg inlX12 hown hK.1 hP 0 rfl rfl 54 (by decide) tX12_54 (hg _ gw_208) rfl dX12_secret_70 ?_
              refine lv_bipush (v := 6) hx hb dX12_secret_73 (by decide +kernel) ?_
              refine lv_iload_n hx hb dX12_secret_75 rfl (lv_at hl 2 rfl) ?_
              refine lv_imul hx hb dX12_secret_76 ?_
              refine g_fi (v := 0) (by decide +kernel) ?_
              refine lv_iload hx hb dX12_secret_77 (lv_at hl 0 rfl) ?_
              refine lv_iadd hx hb dX12_secret_79 ?_
              refine g_fi (v := 1) (by decide +kernel) ?_
              refine lv_iload_n hx hb dX12_secret_80 rfl (lv_at hl 3 rfl) ?_
              refine lv_iload_n hx hb dX12_secret_81 rfl (lv_at hl 4 rfl) ?_
              refine lv_iload hx hb dX12_secret_82 (lv_at hl 0 rfl) ?_
              refine g_ai (wr := [(h0, .inr (12, (.ref h4 :: .int wp22065 :: .int wp22066 :: .ref h7 :: .ref h8 :: .ref h9 :: .ref h10 :: .ref h11 :: .ref h12 :: .ref h13 :: .ref h14 :: .ref h15 :: .int wp22067 :: .ref h17 :: .int wp22068 :: .ref h19 :: .int wp22069 :: .ref h21 :: .ref h22 :: .ref h23 :: .ref h24 :: .ref h25 :: .ref h26 :: .ref h27 :: .ref h28 :: .ref h29 :: .ref h30 :: .ref h31 :: .int wp22070 :: .ref h33 :: .ref h34 :: .ref h35 :: .int wp22071 :: [.ref h37, .ref h38, .ref h39, .ref h40, .ref h41, .ref h42, .ref h43, .ref h44, .ref h45, .ref h46, .ref h47, .ref h48, .ref h49, .ref h50, .ref h51, .int wp22072, .int wp22073, .int wp22074, .int wp22075, .int wp22076, .ref h57, .ref h58, .int wp22077, .ref h60, .int 0, .ref h61, .int wp22078, .ref h63, .ref h64, .int wp22079, .ref h66, .ref h67, .int wp22080, .ref h69, .ref h70, .ref h71, .ref h72, .int wp22081, .int wp22082, .int wp22083, .int wp22084, .ref h77, .ref h78, .ref h79, .ref h80, .ref h81, .ref h82, .ref h83, .ref h84, .ref h85]))), (h57, .inl (y 0, 3, .inl (upd (fun _ => 0) ((0 : Int32).toNatClampNeg) 5))), (h58, .inl (y 0, 18, .inl fn22165))]) (va_runS (As := [.int p2, .int 5, .int 1]) (rest := [.int 1, .ref h58]) ⟨hx, hb, hml, hown, hg⟩ (k_X12_digitOf_10 l D y aS H.size p2) (va_cwS 3 hg ggS_RX12_484_X12_digitOf rfl rfl rfl (by decide +kernel) ⟨Nat.le_of_ble_eq_true rfl, Nat.le_of_ble_eq_true rfl⟩) (g_preS hK hP hD [] rfl (by decide)) rfl rfl hl.1 rfl (lv_room (Nat.le_of_ble_eq_true rfl)) dX12_secret_84 ⟨Nat.le_of_ble_eq_true rfl, Nat.le_of_ble_eq_true rfl⟩) hP hD hS hA [] [0, 1, 2] rfl rfl (by decide) (by decide) ?_
              clear hP hD hS H locs
              refine fun r22166 u H locs hq hP hD hS => ?_
              subst hq
              replace hP : va_P D vwCl [(h0, .inr (12, (.ref h4 :: .int wp22065 :: .int wp22066 :: .ref h7 :: .ref h8 :: .ref h9 :: .ref h10 :: .ref h11 :: .ref h12 :: .ref h13 :: .ref h14 :: .ref h15 :: .int wp22067 :: .ref h17 :: .int wp22068 :: .ref h19 :: .int wp22069 :: .ref h21 :: .ref h22 :: .ref h23 :: .ref h24 :: .ref h25 :: .ref h26 :: .ref h27 :: .ref h28 :: .ref h29 :: .ref h30 :: .ref h31 :: .int wp22070 :: .ref h33 :: .ref h34 :: .ref h35 :: .int wp22071 :: [.ref h37, .ref h38, .ref h39, .ref h40, .ref h41, .ref h42, .ref h43, .ref h44, .ref h45, .ref h46, .ref h47, .ref h48, .ref h49, .ref h50, .ref h51, .int wp22072, .int wp22073, .int wp22074, .int wp22075, .int wp22076, .ref h57, .ref h58, .int wp22077, .ref h60, .int 0, .ref h61, .int wp22078, .ref h63, .ref h64, .int wp22079, .ref h66, .ref h67, .int wp22080, .ref h69, .ref h70, .ref h71, .ref h72, .int wp22081, .int wp22082, .int wp22083, .int wp22084, .ref h77, .ref h78, .ref h79, .ref h80, .ref h81, .ref h82, .ref h83, .ref h84, .ref h85]))), (h57, .inl (y 0, 3, .inl (upd (fun _ => 0) ((0 : Int32).toNatClampNeg) 5))), (h58, .inl (y 0, 18, .inl fn22165))] H := hP
              replace hD : va_D A [(h0, .inr (12, (.ref h4 :: .int wp22065 :: .int wp22066 :: .ref h7 :: .ref h8 :: .ref h9 :: .ref h10 :: .ref h11 :: .ref h12 :: .ref h13 :: .ref h14 :: .ref h15 :: .int wp22067 :: .ref h17 :: .int wp22068 :: .ref h19 :: .int wp22069 :: .ref h21 :: .ref h22 :: .ref h23 :: .ref h24 :: .ref h25 :: .ref h26 :: .ref h27 :: .ref h28 :: .ref h29 :: .ref h30 :: .ref h31 :: .int wp22070 :: .ref h33 :: .ref h34 :: .ref h35 :: .int wp22071 :: [.ref h37, .ref h38, .ref h39, .ref h40, .ref h41, .ref h42, .ref h43, .ref h44, .ref h45, .ref h46, .ref h47, .ref h48, .ref h49, .ref h50, .ref h51, .int wp22072, .int wp22073, .int wp22074, .int wp22075, .int wp22076, .ref h57, .ref h58, .int wp22077, .ref h60, .int 0, .ref h61, .int wp22078, .ref h63, .ref h64, .int wp22079, .ref h66, .ref h67, .int wp22080, .ref h69, .ref h70, .ref h71, .ref h72, .int wp22081, .int wp22082, .int wp22083, .int wp22084, .ref h77, .ref h78, .ref h79, .ref h80, .ref h81, .ref h82, .ref h83, .ref h84, .ref h85]))), (h57, .inl (y 0, 3, .inl (upd (fun _ => 0) ((0 : Int32).toNatClampNeg) 5))), (h58, .inl (y 0, 18, .inl fn22165))] := hD
              refine va_iast hx hb hK.1 hP hD hS 2 0 rfl rfl (by unfold vp_in; decide +kernel) dX12_secret_87 ?_
              clear hP hD hS H locs
              refine fun H locs (hP : va_P D vwCl [(h0, .inr (12, (.ref h4 :: .int wp22065 :: .int wp22066 :: .ref h7 :: .ref h8 :: .ref h9 :: .ref h10 :: .ref h11 :: .ref h12 :: .ref h13 :: .ref h14 :: .ref h15 :: .int wp22067 :: .ref h17 :: .int wp22068 :: .ref h19 :: .int wp22069 :: .ref h21 :: .ref h22 :: .ref h23 :: .ref h24 :: .ref h25 :: .ref h26 :: .ref h27 :: .ref h28 :: .ref h29 :: .ref h30 :: .ref h31 :: .int wp22070 :: .ref h33 :: .ref h34 :: .ref h35 :: .int wp22071 :: [.ref h37, .ref h38, .ref h39, .ref h40, .ref h41, .ref h42, .ref h43, .ref h44, .ref h45, .ref h46, .ref h47, .ref h48, .ref h49, .ref h50, .ref h51, .int wp22072, .int wp22073, .int wp22074, .int wp22075, .int wp22076, .ref h57, .ref h58, .int wp22077, .ref h60, .int 0, .ref h61, .int wp22078, .ref h63, .ref h64, .int wp22079, .ref h66, .ref h67, .int wp22080, .ref h69, .ref h70, .ref h71, .ref h72, .int wp22081, .int wp22082, .int wp22083, .int wp22084, .ref h77, .ref h78, .ref h79, .ref h80, .ref h81, .ref h82, .ref h83, .ref h84, .ref h85]))), (h57, .inl (y 0, 3, .inl (upd (fun _ => 0) ((0 : Int32).toNatClampNeg) 5))), (h58, .inl (y 0, 18, .inl (upd fn22165 ((1 : Int32).toNatClampNeg) ((p2 / 1000) - (p2 / 1000) / 10 * 10))))] H) (hD : va_D A [(h0, .inr (12, (.ref h4 :: .int wp22065 :: .int wp22066 :: .ref h7 :: .ref h8 :: .ref h9 :: .ref h10 :: .ref h11 :: .ref h12 :: .ref h13 :: .ref h14 :: .ref h15 :: .int wp22067 :: .ref h17 :: .int wp22068 :: .ref h19 :: .int wp22069 :: .ref h21 :: .ref h22 :: .ref h23 :: .ref h24 :: .ref h25 :: .ref h26 :: .ref h27 :: .ref h28 :: .ref h29 :: .ref h30 :: .ref h31 :: .int wp22070 :: .ref h33 :: .ref h34 :: .ref h35 :: .int wp22071 :: [.ref h37, .ref h38, .ref h39, .ref h40, .ref h41, .ref h42, .ref h43, .ref h44, .ref h45, .ref h46, .ref h47, .ref h48, .ref h49, .ref h50, .ref h51, .int wp22072, .int wp22073, .int wp22074, .int wp22075, .int wp22076, .ref h57, .ref h58, .int wp22077, .ref h60, .int 0, .ref h61, .int wp22078, .ref h63, .ref h64, .int wp22079, .ref h66, .ref h67, .int wp22080, .ref h69, .ref h70, .ref h71, .ref h72, .int wp22081, .int wp22082, .int wp22083, .int wp22084, .ref h77, .ref h78, .ref h79, .ref h80, .ref h81, .ref h82, .ref h83, .ref h84, .ref h85]))), (h57, .inl (y 0, 3, .inl (upd (fun _ => 0) ((0 : Int32).toNatClampNeg) 5))), (h58, .inl (y 0, 18, .inl (upd fn22165 ((1 : Int32).toNatClampNeg) ((p2 / 1000) - (p2 / 1000) / 10 * 10))))]) hS => ?_
              obtain ⟨fn22167, hfn22167⟩ : ∃ f9 : Nat → Int32, f9 = (upd fn22165 ((1 : Int32).toNatClampNeg) ((p2 / 1000) - (p2 / 1000) / 10 * 10)) := ⟨_, rfl⟩
              rw [← hfn22167] at hP hD
              clear hfn22167
              refine lv_iinc (v := 2) (lv' := [(4, .int 2), (0, .ref h0), (1, .int 0), (2, .int p2), (3, .int 5)]) hx hb dX12_secret_88 hl (k := 0) rfl (by decide +kernel) (by decide) rfl ?_
              clear hl
              clear ls
              intro ls hl
              refine lv_goto (tgt := 63) hx hb dX12_secret_91 (by decide) ?_
              refine lv_iload hx hb dX12_secret_63 (lv_at hl 0 rfl) ?_
              refine lv_iload_n hx hb dX12_secret_65 rfl (lv_at hl 4 rfl) ?_
              refine lv_icmp_ge (tgt := 94) hx hb dX12_secret_66 (by decide) (fun c9 => absurd c9 (by decide +kernel)) (fun _ => ?_)
              refine lv_aload_n hx hb dX12_secret_69 rfl (lv_at hl 1 rfl) ?_
              refine gm_get (D := D) (ci := 12) (v := .ref h58) (C := RX12) (T := TX12) (N := 83) hx hb hg inlX12 hown hK.1 hP 0 rfl rfl 54 (by decide) tX12_54 (hg _ gw_208) rfl dX12_secret_70 ?_
              refine lv_bipush (v := 6) hx hb dX12_secret_73 (by decide +kernel) ?_
              refine lv_iload_n hx hb dX12_secret_75 rfl (lv_at hl 2 rfl) ?_
              refine lv_imul hx hb dX12_secret_76 ?_
              refine g_fi (v := 0) (by decide +kernel) ?_
              refine lv_iload hx hb dX12_secret_77 (lv_at hl 0 rfl) ?_
              refine lv_iadd hx hb dX12_secret_79 ?_
              refine g_fi (v := 2) (by decide +kernel) ?_
              refine lv_iload_n hx hb dX12_secret_80 rfl (lv_at hl 3 rfl) ?_
              refine lv_iload_n hx hb dX12_secret_81 rfl (lv_at hl 4 rfl) ?_
              refine lv_iload hx hb dX12_secret_82 (lv_at hl 0 rfl) ?_
              refine g_ai (wr := [(h0, .inr (12, (.ref h4 :: .int wp22065 :: .int wp22066 :: .ref h7 :: .ref h8 :: .ref h9 :: .ref h10 :: .ref h11 :: .ref h12 :: .ref h13 :: .ref h14 :: .ref h15 :: .int wp22067 :: .ref h17 :: .int wp22068 :: .ref h19 :: .int wp22069 :: .ref h21 :: .ref h22 :: .ref h23 :: .ref h24 :: .ref h25 :: .ref h26 :: .ref h27 :: .ref h28 :: .ref h29 :: .ref h30 :: .ref h31 :: .int wp22070 :: .ref h33 :: .ref h34 :: .ref h35 :: .int wp22071 :: [.ref h37, .ref h38, .ref h39, .ref h40, .ref h41, .ref h42, .ref h43, .ref h44, .ref h45, .ref h46, .ref h47, .ref h48, .ref h49, .ref h50, .ref h51, .int wp22072, .int wp22073, .int wp22074, .int wp22075, .int wp22076, .ref h57, .ref h58, .int wp22077, .ref h60, .int 0, .ref h61, .int wp22078, .ref h63, .ref h64, .int wp22079, .ref h66, .ref h67, .int wp22080, .ref h69, .ref h70, .ref h71, .ref h72, .int wp22081, .int wp22082, .int wp22083, .int wp22084, .ref h77, .ref h78, .ref h79, .ref h80, .ref h81, .ref h82, .ref h83, .ref h84, .ref h85]))), (h57, .inl (y 0, 3, .inl (upd (fun _ => 0) ((0 : Int32).toNatClampNeg) 5))), (h58, .inl (y 0, 18, .inl fn22167))]) (va_runS (As := [.int p2, .int 5, .int 2]) (rest := [.int 2, .ref h58]) ⟨hx, hb, hml, hown, hg⟩ (k_X12_digitOf_11 l D y aS H.size p2) (va_cwS 3 hg ggS_RX12_484_X12_digitOf rfl rfl rfl (by decide +kernel) ⟨Nat.le_of_ble_eq_true rfl, Nat.le_of_ble_eq_true rfl⟩) (g_preS hK hP hD [] rfl (by decide)) rfl rfl hl.1 rfl (lv_room (Nat.le_of_ble_eq_true rfl)) dX12_secret_84 ⟨Nat.le_of_ble_eq_true rfl, Nat.le_of_ble_eq_true rfl⟩) hP hD hS hA [] [0, 1, 2] rfl rfl (by decide) (by decide) ?_
              clear hP hD hS H locs
              refine fun r22168 u H locs hq hP hD hS => ?_
              subst hq
              replace hP : va_P D vwCl [(h0, .inr (12, (.ref h4 :: .int wp22065 :: .int wp22066 :: .ref h7 :: .ref h8 :: .ref h9 :: .ref h10 :: .ref h11 :: .ref h12 :: .ref h13 :: .ref h14 :: .ref h15 :: .int wp22067 :: .ref h17 :: .int wp22068 :: .ref h19 :: .int wp22069 :: .ref h21 :: .ref h22 :: .ref h23 :: .ref h24 :: .ref h25 :: .ref h26 :: .ref h27 :: .ref h28 :: .ref h29 :: .ref h30 :: .ref h31 :: .int wp22070 :: .ref h33 :: .ref h34 :: .ref h35 :: .int wp22071 :: [.ref h37, .ref h38, .ref h39, .ref h40, .ref h41, .ref h42, .ref h43, .ref h44, .ref h45, .ref h46, .ref h47, .ref h48, .ref h49, .ref h50, .ref h51, .int wp22072, .int wp22073, .int wp22074, .int wp22075, .int wp22076, .ref h57, .ref h58, .int wp22077, .ref h60, .int 0, .ref h61, .int wp22078, .ref h63, .ref h64, .int wp22079, .ref h66, .ref h67, .int wp22080, .ref h69, .ref h70, .ref h71, .ref h72, .int wp22081, .int wp22082, .int wp22083, .int wp22084, .ref h77, .ref h78, .ref h79, .ref h80, .ref h81, .ref h82, .ref h83, .ref h84, .ref h85]))), (h57, .inl (y 0, 3, .inl (upd (fun _ => 0) ((0 : Int32).toNatClampNeg) 5))), (h58, .inl (y 0, 18, .inl fn22167))] H := hP
              replace hD : va_D A [(h0, .inr (12, (.ref h4 :: .int wp22065 :: .int wp22066 :: .ref h7 :: .ref h8 :: .ref h9 :: .ref h10 :: .ref h11 :: .ref h12 :: .ref h13 :: .ref h14 :: .ref h15 :: .int wp22067 :: .ref h17 :: .int wp22068 :: .ref h19 :: .int wp22069 :: .ref h21 :: .ref h22 :: .ref h23 :: .ref h24 :: .ref h25 :: .ref h26 :: .ref h27 :: .ref h28 :: .ref h29 :: .ref h30 :: .ref h31 :: .int wp22070 :: .ref h33 :: .ref h34 :: .ref h35 :: .int wp22071 :: [.ref h37, .ref h38, .ref h39, .ref h40, .ref h41, .ref h42, .ref h43, .ref h44, .ref h45, .ref h46, .ref h47, .ref h48, .ref h49, .ref h50, .ref h51, .int wp22072, .int wp22073, .int wp22074, .int wp22075, .int wp22076, .ref h57, .ref h58, .int wp22077, .ref h60, .int 0, .ref h61, .int wp22078, .ref h63, .ref h64, .int wp22079, .ref h66, .ref h67, .int wp22080, .ref h69, .ref h70, .ref h71, .ref h72, .int wp22081, .int wp22082, .int wp22083, .int wp22084, .ref h77, .ref h78, .ref h79, .ref h80, .ref h81, .ref h82, .ref h83, .ref h84, .ref h85]))), (h57, .inl (y 0, 3, .inl (upd (fun _ => 0) ((0 : Int32).toNatClampNeg) 5))), (h58, .inl (y 0, 18, .inl fn22167))] := hD
              refine va_iast hx hb hK.1 hP hD hS 2 0 rfl rfl (by unfold vp_in; decide +kernel) dX12_secret_87 ?_
              clear hP hD hS H locs
              refine fun H locs (hP : va_P D vwCl [(h0, .inr (12, (.ref h4 :: .int wp22065 :: .int wp22066 :: .ref h7 :: .ref h8 :: .ref h9 :: .ref h10 :: .ref h11 :: .ref h12 :: .ref h13 :: .ref h14 :: .ref h15 :: .int wp22067 :: .ref h17 :: .int wp22068 :: .ref h19 :: .int wp22069 :: .ref h21 :: .ref h22 :: .ref h23 :: .ref h24 :: .ref h25 :: .ref h26 :: .ref h27 :: .ref h28 :: .ref h29 :: .ref h30 :: .ref h31 :: .int wp22070 :: .ref h33 :: .ref h34 :: .ref h35 :: .int wp22071 :: [.ref h37, .ref h38, .ref h39, .ref h40, .ref h41, .ref h42, .ref h43, .ref h44, .ref h45, .ref h46, .ref h47, .ref h48, .ref h49, .ref h50, .ref h51, .int wp22072, .int wp22073, .int wp22074, .int wp22075, .int wp22076, .ref h57, .ref h58, .int wp22077, .ref h60, .int 0, .ref h61, .int wp22078, .ref h63, .ref h64, .int wp22079, .ref h66, .ref h67, .int wp22080, .ref h69, .ref h70, .ref h71, .ref h72, .int wp22081, .int wp22082, .int wp22083, .int wp22084, .ref h77, .ref h78, .ref h79, .ref h80, .ref h81, .ref h82, .ref h83, .ref h84, .ref h85]))), (h57, .inl (y 0, 3, .inl (upd (fun _ => 0) ((0 : Int32).toNatClampNeg) 5))), (h58, .inl (y 0, 18, .inl (upd fn22167 ((2 : Int32).toNatClampNeg) ((p2 / 100) - (p2 / 100) / 10 * 10))))] H) (hD : va_D A [(h0, .inr (12, (.ref h4 :: .int wp22065 :: .int wp22066 :: .ref h7 :: .ref h8 :: .ref h9 :: .ref h10 :: .ref h11 :: .ref h12 :: .ref h13 :: .ref h14 :: .ref h15 :: .int wp22067 :: .ref h17 :: .int wp22068 :: .ref h19 :: .int wp22069 :: .ref h21 :: .ref h22 :: .ref h23 :: .ref h24 :: .ref h25 :: .ref h26 :: .ref h27 :: .ref h28 :: .ref h29 :: .ref h30 :: .ref h31 :: .int wp22070 :: .ref h33 :: .ref h34 :: .ref h35 :: .int wp22071 :: [.ref h37, .ref h38, .ref h39, .ref h40, .ref h41, .ref h42, .ref h43, .ref h44, .ref h45, .ref h46, .ref h47, .ref h48, .ref h49, .ref h50, .ref h51, .int wp22072, .int wp22073, .int wp22074, .int wp22075, .int wp22076, .ref h57, .ref h58, .int wp22077, .ref h60, .int 0, .ref h61, .int wp22078, .ref h63, .ref h64, .int wp22079, .ref h66, .ref h67, .int wp22080, .ref h69, .ref h70, .ref h71, .ref h72, .int wp22081, .int wp22082, .int wp22083, .int wp22084, .ref h77, .ref h78, .ref h79, .ref h80, .ref h81, .ref h82, .ref h83, .ref h84, .ref h85]))), (h57, .inl (y 0, 3, .inl (upd (fun _ => 0) ((0 : Int32).toNatClampNeg) 5))), (h58, .inl (y 0, 18, .inl (upd fn22167 ((2 : Int32).toNatClampNeg) ((p2 / 100) - (p2 / 100) / 10 * 10))))]) hS => ?_
              obtain ⟨fn22169, hfn22169⟩ : ∃ f9 : Nat → Int32, f9 = (upd fn22167 ((2 : Int32).toNatClampNeg) ((p2 / 100) - (p2 / 100) / 10 * 10)) := ⟨_, rfl⟩
              rw [← hfn22169] at hP hD
              clear hfn22169
              refine lv_iinc (v := 3) (lv' := [(4, .int 3), (0, .ref h0), (1, .int 0), (2, .int p2), (3, .int 5)]) hx hb dX12_secret_88 hl (k := 0) rfl (by decide +kernel) (by decide) rfl ?_
              clear hl
              clear ls
              intro ls hl
              refine lv_goto (tgt := 63) hx hb dX12_secret_91 (by decide) ?_
              refine lv_iload hx hb dX12_secret_63 (lv_at hl 0 rfl) ?_
              refine lv_iload_n hx hb dX12_secret_65 rfl (lv_at hl 4 rfl) ?_
              refine lv_icmp_ge (tgt := 94) hx hb dX12_secret_66 (by decide) (fun c9 => absurd c9 (by decide +kernel)) (fun _ => ?_)
              refine lv_aload_n hx hb dX12_secret_69 rfl (lv_at hl 1 rfl) ?_
              refine gm_get (D := D) (ci := 12) (v := .ref h58) (C := RX12) (T := TX12) (N := 83) hx hb hg inlX12 hown hK.1 hP 0 rfl rfl 54 (by decide) tX12_54 (hg _ gw_208) rfl dX12_secret_70 ?_
              refine lv_bipush (v := 6) hx hb dX12_secret_73 (by decide +kernel) ?_
              refine lv_iload_n hx hb dX12_secret_75 rfl (lv_at hl 2 rfl) ?_
              refine lv_imul hx hb dX12_secret_76 ?_
              refine g_fi (v := 0) (by decide +kernel) ?_
              refine lv_iload hx hb dX12_secret_77 (lv_at hl 0 rfl) ?_
              refine lv_iadd hx hb dX12_secret_79 ?_
              refine g_fi (v := 3) (by decide +kernel) ?_
              refine lv_iload_n hx hb dX12_secret_80 rfl (lv_at hl 3 rfl) ?_
              refine lv_iload_n hx hb dX12_secret_81 rfl (lv_at hl 4 rfl) ?_
              refine lv_iload hx hb dX12_secret_82 (lv_at hl 0 rfl) ?_
              refine g_ai (wr := [(h0, .inr (12, (.ref h4 :: .int wp22065 :: .int wp22066 :: .ref h7 :: .ref h8 :: .ref h9 :: .ref h10 :: .ref h11 :: .ref h12 :: .ref h13 :: .ref h14 :: .ref h15 :: .int wp22067 :: .ref h17 :: .int wp22068 :: .ref h19 :: .int wp22069 :: .ref h21 :: .ref h22 :: .ref h23 :: .ref h24 :: .ref h25 :: .ref h26 :: .ref h27 :: .ref h28 :: .ref h29 :: .ref h30 :: .ref h31 :: .int wp22070 :: .ref h33 :: .ref h34 :: .ref h35 :: .int wp22071 :: [.ref h37, .ref h38, .ref h39, .ref h40, .ref h41, .ref h42, .ref h43, .ref h44, .ref h45, .ref h46, .ref h47, .ref h48, .ref h49, .ref h50, .ref h51, .int wp22072, .int wp22073, .int wp22074, .int wp22075, .int wp22076, .ref h57, .ref h58, .int wp22077, .ref h60, .int 0, .ref h61, .int wp22078, .ref h63, .ref h64, .int wp22079, .ref h66, .ref h67, .int wp22080, .ref h69, .ref h70, .ref h71, .ref h72, .int wp22081, .int wp22082, .int wp22083, .int wp22084, .ref h77, .ref h78, .ref h79, .ref h80, .ref h81, .ref h82, .ref h83, .ref h84, .ref h85]))), (h57, .inl (y 0, 3, .inl (upd (fun _ => 0) ((0 : Int32).toNatClampNeg) 5))), (h58, .inl (y 0, 18, .inl fn22169))]) (va_runS (As := [.int p2, .int 5, .int 3]) (rest := [.int 3, .ref h58]) ⟨hx, hb, hml, hown, hg⟩ (k_X12_digitOf_12 l D y aS H.size p2) (va_cwS 3 hg ggS_RX12_484_X12_digitOf rfl rfl rfl (by decide +kernel) ⟨Nat.le_of_ble_eq_true rfl, Nat.le_of_ble_eq_true rfl⟩) (g_preS hK hP hD [] rfl (by decide)) rfl rfl hl.1 rfl (lv_room (Nat.le_of_ble_eq_true rfl)) dX12_secret_84 ⟨Nat.le_of_ble_eq_true rfl, Nat.le_of_ble_eq_true rfl⟩) hP hD hS hA [] [0, 1, 2] rfl rfl (by decide) (by decide) ?_
              clear hP hD hS H locs
              refine fun r22170 u H locs hq hP hD hS => ?_
              subst hq
              replace hP : va_P D vwCl [(h0, .inr (12, (.ref h4 :: .int wp22065 :: .int wp22066 :: .ref h7 :: .ref h8 :: .ref h9 :: .ref h10 :: .ref h11 :: .ref h12 :: .ref h13 :: .ref h14 :: .ref h15 :: .int wp22067 :: .ref h17 :: .int wp22068 :: .ref h19 :: .int wp22069 :: .ref h21 :: .ref h22 :: .ref h23 :: .ref h24 :: .ref h25 :: .ref h26 :: .ref h27 :: .ref h28 :: .ref h29 :: .ref h30 :: .ref h31 :: .int wp22070 :: .ref h33 :: .ref h34 :: .ref h35 :: .int wp22071 :: [.ref h37, .ref h38, .ref h39, .ref h40, .ref h41, .ref h42, .ref h43, .ref h44, .ref h45, .ref h46, .ref h47, .ref h48, .ref h49, .ref h50, .ref h51, .int wp22072, .int wp22073, .int wp22074, .int wp22075, .int wp22076, .ref h57, .ref h58, .int wp22077, .ref h60, .int 0, .ref h61, .int wp22078, .ref h63, .ref h64, .int wp22079, .ref h66, .ref h67, .int wp22080, .ref h69, .ref h70, .ref h71, .ref h72, .int wp22081, .int wp22082, .int wp22083, .int wp22084, .ref h77, .ref h78, .ref h79, .ref h80, .ref h81, .ref h82, .ref h83, .ref h84, .ref h85]))), (h57, .inl (y 0, 3, .inl (upd (fun _ => 0) ((0 : Int32).toNatClampNeg) 5))), (h58, .inl (y 0, 18, .inl fn22169))] H := hP
              replace hD : va_D A [(h0, .inr (12, (.ref h4 :: .int wp22065 :: .int wp22066 :: .ref h7 :: .ref h8 :: .ref h9 :: .ref h10 :: .ref h11 :: .ref h12 :: .ref h13 :: .ref h14 :: .ref h15 :: .int wp22067 :: .ref h17 :: .int wp22068 :: .ref h19 :: .int wp22069 :: .ref h21 :: .ref h22 :: .ref h23 :: .ref h24 :: .ref h25 :: .ref h26 :: .ref h27 :: .ref h28 :: .ref h29 :: .ref h30 :: .ref h31 :: .int wp22070 :: .ref h33 :: .ref h34 :: .ref h35 :: .int wp22071 :: [.ref h37, .ref h38, .ref h39, .ref h40, .ref h41, .ref h42, .ref h43, .ref h44, .ref h45, .ref h46, .ref h47, .ref h48, .ref h49, .ref h50, .ref h51, .int wp22072, .int wp22073, .int wp22074, .int wp22075, .int wp22076, .ref h57, .ref h58, .int wp22077, .ref h60, .int 0, .ref h61, .int wp22078, .ref h63, .ref h64, .int wp22079, .ref h66, .ref h67, .int wp22080, .ref h69, .ref h70, .ref h71, .ref h72, .int wp22081, .int wp22082, .int wp22083, .int wp22084, .ref h77, .ref h78, .ref h79, .ref h80, .ref h81, .ref h82, .ref h83, .ref h84, .ref h85]))), (h57, .inl (y 0, 3, .inl (upd (fun _ => 0) ((0 : Int32).toNatClampNeg) 5))), (h58, .inl (y 0, 18, .inl fn22169))] := hD
              refine va_iast hx hb hK.1 hP hD hS 2 0 rfl rfl (by unfold vp_in; decide +kernel) dX12_secret_87 ?_
              clear hP hD hS H locs
              refine fun H locs (hP : va_P D vwCl [(h0, .inr (12, (.ref h4 :: .int wp22065 :: .int wp22066 :: .ref h7 :: .ref h8 :: .ref h9 :: .ref h10 :: .ref h11 :: .ref h12 :: .ref h13 :: .ref h14 :: .ref h15 :: .int wp22067 :: .ref h17 :: .int wp22068 :: .ref h19 :: .int wp22069 :: .ref h21 :: .ref h22 :: .ref h23 :: .ref h24 :: .ref h25 :: .ref h26 :: .ref h27 :: .ref h28 :: .ref h29 :: .ref h30 :: .ref h31 :: .int wp22070 :: .ref h33 :: .ref h34 :: .ref h35 :: .int wp22071 :: [.ref h37, .ref h38, .ref h39, .ref h40, .ref h41, .ref h42, .ref h43, .ref h44, .ref h45, .ref h46, .ref h47, .ref h48, .ref h49, .ref h50, .ref h51, .int wp22072, .int wp22073, .int wp22074, .int wp22075, .int wp22076, .ref h57, .ref h58, .int wp22077, .ref h60, .int 0, .ref h61, .int wp22078, .ref h63, .ref h64, .int wp22079, .ref h66, .ref h67, .int wp22080, .ref h69, .ref h70, .ref h71, .ref h72, .int wp22081, .int wp22082, .int wp22083, .int wp22084, .ref h77, .ref h78, .ref h79, .ref h80, .ref h81, .ref h82, .ref h83, .ref h84, .ref h85]))), (h57, .inl (y 0, 3, .inl (upd (fun _ => 0) ((0 : Int32).toNatClampNeg) 5))), (h58, .inl (y 0, 18, .inl (upd fn22169 ((3 : Int32).toNatClampNeg) ((p2 / 10) - (p2 / 10) / 10 * 10))))] H) (hD : va_D A [(h0, .inr (12, (.ref h4 :: .int wp22065 :: .int wp22066 :: .ref h7 :: .ref h8 :: .ref h9 :: .ref h10 :: .ref h11 :: .ref h12 :: .ref h13 :: .ref h14 :: .ref h15 :: .int wp22067 :: .ref h17 :: .int wp22068 :: .ref h19 :: .int wp22069 :: .ref h21 :: .ref h22 :: .ref h23 :: .ref h24 :: .ref h25 :: .ref h26 :: .ref h27 :: .ref h28 :: .ref h29 :: .ref h30 :: .ref h31 :: .int wp22070 :: .ref h33 :: .ref h34 :: .ref h35 :: .int wp22071 :: [.ref h37, .ref h38, .ref h39, .ref h40, .ref h41, .ref h42, .ref h43, .ref h44, .ref h45, .ref h46, .ref h47, .ref h48, .ref h49, .ref h50, .ref h51, .int wp22072, .int wp22073, .int wp22074, .int wp22075, .int wp22076, .ref h57, .ref h58, .int wp22077, .ref h60, .int 0, .ref h61, .int wp22078, .ref h63, .ref h64, .int wp22079, .ref h66, .ref h67, .int wp22080, .ref h69, .ref h70, .ref h71, .ref h72, .int wp22081, .int wp22082, .int wp22083, .int wp22084, .ref h77, .ref h78, .ref h79, .ref h80, .ref h81, .ref h82, .ref h83, .ref h84, .ref h85]))), (h57, .inl (y 0, 3, .inl (upd (fun _ => 0) ((0 : Int32).toNatClampNeg) 5))), (h58, .inl (y 0, 18, .inl (upd fn22169 ((3 : Int32).toNatClampNeg) ((p2 / 10) - (p2 / 10) / 10 * 10))))]) hS => ?_
              obtain ⟨fn22171, hfn22171⟩ : ∃ f9 : Nat → Int32, f9 = (upd fn22169 ((3 : Int32).toNatClampNeg) ((p2 / 10) - (p2 / 10) / 10 * 10)) := ⟨_, rfl⟩
              rw [← hfn22171] at hP hD
              clear hfn22171
              refine lv_iinc (v := 4) (lv' := [(4, .int 4), (0, .ref h0), (1, .int 0), (2, .int p2), (3, .int 5)]) hx hb dX12_secret_88 hl (k := 0) rfl (by decide +kernel) (by decide) rfl ?_
              clear hl
              clear ls
              intro ls hl
              refine lv_goto (tgt := 63) hx hb dX12_secret_91 (by decide) ?_
              refine lv_iload hx hb dX12_secret_63 (lv_at hl 0 rfl) ?_
              refine lv_iload_n hx hb dX12_secret_65 rfl (lv_at hl 4 rfl) ?_
              refine lv_icmp_ge (tgt := 94) hx hb dX12_secret_66 (by decide) (fun c9 => absurd c9 (by decide +kernel)) (fun _ => ?_)
              refine lv_aload_n hx hb dX12_secret_69 rfl (lv_at hl 1 rfl) ?_
              refine gm_get (D := D) (ci := 12) (v := .ref h58) (C := RX12) (T := TX12) (N := 83) hx hb hg inlX12 hown hK.1 hP 0 rfl rfl 54 (by decide) tX12_54 (hg _ gw_208) rfl dX12_secret_70 ?_
              refine lv_bipush (v := 6) hx hb dX12_secret_73 (by decide +kernel) ?_
              refine lv_iload_n hx hb dX12_secret_75 rfl (lv_at hl 2 rfl) ?_
              refine lv_imul hx hb dX12_secret_76 ?_
              refine g_fi (v := 0) (by decide +kernel) ?_
              refine lv_iload hx hb dX12_secret_77 (lv_at hl 0 rfl) ?_
              refine lv_iadd hx hb dX12_secret_79 ?_
              refine g_fi (v := 4) (by decide +kernel) ?_
              refine lv_iload_n hx hb dX12_secret_80 rfl (lv_at hl 3 rfl) ?_
              refine lv_iload_n hx hb dX12_secret_81 rfl (lv_at hl 4 rfl) ?_
              refine lv_iload hx hb dX12_secret_82 (lv_at hl 0 rfl) ?_
              refine g_ai (wr := [(h0, .inr (12, (.ref h4 :: .int wp22065 :: .int wp22066 :: .ref h7 :: .ref h8 :: .ref h9 :: .ref h10 :: .ref h11 :: .ref h12 :: .ref h13 :: .ref h14 :: .ref h15 :: .int wp22067 :: .ref h17 :: .int wp22068 :: .ref h19 :: .int wp22069 :: .ref h21 :: .ref h22 :: .ref h23 :: .ref h24 :: .ref h25 :: .ref h26 :: .ref h27 :: .ref h28 :: .ref h29 :: .ref h30 :: .ref h31 :: .int wp22070 :: .ref h33 :: .ref h34 :: .ref h35 :: .int wp22071 :: [.ref h37, .ref h38, .ref h39, .ref h40, .ref h41, .ref h42, .ref h43, .ref h44, .ref h45, .ref h46, .ref h47, .ref h48, .ref h49, .ref h50, .ref h51, .int wp22072, .int wp22073, .int wp22074, .int wp22075, .int wp22076, .ref h57, .ref h58, .int wp22077, .ref h60, .int 0, .ref h61, .int wp22078, .ref h63, .ref h64, .int wp22079, .ref h66, .ref h67, .int wp22080, .ref h69, .ref h70, .ref h71, .ref h72, .int wp22081, .int wp22082, .int wp22083, .int wp22084, .ref h77, .ref h78, .ref h79, .ref h80, .ref h81, .ref h82, .ref h83, .ref h84, .ref h85]))), (h57, .inl (y 0, 3, .inl (upd (fun _ => 0) ((0 : Int32).toNatClampNeg) 5))), (h58, .inl (y 0, 18, .inl fn22171))]) (va_runS (As := [.int p2, .int 5, .int 4]) (rest := [.int 4, .ref h58]) ⟨hx, hb, hml, hown, hg⟩ (k_X12_digitOf_13 l D y aS H.size p2) (va_cwS 3 hg ggS_RX12_484_X12_digitOf rfl rfl rfl (by decide +kernel) ⟨Nat.le_of_ble_eq_true rfl, Nat.le_of_ble_eq_true rfl⟩) (g_preS hK hP hD [] rfl (by decide)) rfl rfl hl.1 rfl (lv_room (Nat.le_of_ble_eq_true rfl)) dX12_secret_84 ⟨Nat.le_of_ble_eq_true rfl, Nat.le_of_ble_eq_true rfl⟩) hP hD hS hA [] [0, 1, 2] rfl rfl (by decide) (by decide) ?_
              clear hP hD hS H locs
              refine fun r22172 u H locs hq hP hD hS => ?_
              subst hq
              replace hP : va_P D vwCl [(h0, .inr (12, (.ref h4 :: .int wp22065 :: .int wp22066 :: .ref h7 :: .ref h8 :: .ref h9 :: .ref h10 :: .ref h11 :: .ref h12 :: .ref h13 :: .ref h14 :: .ref h15 :: .int wp22067 :: .ref h17 :: .int wp22068 :: .ref h19 :: .int wp22069 :: .ref h21 :: .ref h22 :: .ref h23 :: .ref h24 :: .ref h25 :: .ref h26 :: .ref h27 :: .ref h28 :: .ref h29 :: .ref h30 :: .ref h31 :: .int wp22070 :: .ref h33 :: .ref h34 :: .ref h35 :: .int wp22071 :: [.ref h37, .ref h38, .ref h39, .ref h40, .ref h41, .ref h42, .ref h43, .ref h44, .ref h45, .ref h46, .ref h47, .ref h48, .ref h49, .ref h50, .ref h51, .int wp22072, .int wp22073, .int wp22074, .int wp22075, .int wp22076, .ref h57, .ref h58, .int wp22077, .ref h60, .int 0, .ref h61, .int wp22078, .ref h63, .ref h64, .int wp22079, .ref h66, .ref h67, .int wp22080, .ref h69, .ref h70, .ref h71, .ref h72, .int wp22081, .int wp22082, .int wp22083, .int wp22084, .ref h77, .ref h78, .ref h79, .ref h80, .ref h81, .ref h82, .ref h83, .ref h84, .ref h85]))), (h57, .inl (y 0, 3, .inl (upd (fun _ => 0) ((0 : Int32).toNatClampNeg) 5))), (h58, .inl (y 0, 18, .inl fn22171))] H := hP
              replace hD : va_D A [(h0, .inr (12, (.ref h4 :: .int wp22065 :: .int wp22066 :: .ref h7 :: .ref h8 :: .ref h9 :: .ref h10 :: .ref h11 :: .ref h12 :: .ref h13 :: .ref h14 :: .ref h15 :: .int wp22067 :: .ref h17 :: .int wp22068 :: .ref h19 :: .int wp22069 :: .ref h21 :: .ref h22 :: .ref h23 :: .ref h24 :: .ref h25 :: .ref h26 :: .ref h27 :: .ref h28 :: .ref h29 :: .ref h30 :: .ref h31 :: .int wp22070 :: .ref h33 :: .ref h34 :: .ref h35 :: .int wp22071 :: [.ref h37, .ref h38, .ref h39, .ref h40, .ref h41, .ref h42, .ref h43, .ref h44, .ref h45, .ref h46, .ref h47, .ref h48, .ref h49, .ref h50, .ref h51, .int wp22072, .int wp22073, .int wp22074, .int wp22075, .int wp22076, .ref h57, .ref h58, .int wp22077, .ref h60, .int 0, .ref h61, .int wp22078, .ref h63, .ref h64, .int wp22079, .ref h66, .ref h67, .int wp22080, .ref h69, .ref h70, .ref h71, .ref h72, .int wp22081, .int wp22082, .int wp22083, .int wp22084, .ref h77, .ref h78, .ref h79, .ref h80, .ref h81, .ref h82, .ref h83, .ref h84, .ref h85]))), (h57, .inl (y 0, 3, .inl (upd (fun _ => 0) ((0 : Int32).toNatClampNeg) 5))), (h58, .inl (y 0, 18, .inl fn22171))] := hD
              refine va_iast hx hb hK.1 hP hD hS 2 0 rfl rfl (by unfold vp_in; decide +kernel) dX12_secret_87 ?_
              clear hP hD hS H locs
              refine fun H locs (hP : va_P D vwCl [(h0, .inr (12, (.ref h4 :: .int wp22065 :: .int wp22066 :: .ref h7 :: .ref h8 :: .ref h9 :: .ref h10 :: .ref h11 :: .ref h12 :: .ref h13 :: .ref h14 :: .ref h15 :: .int wp22067 :: .ref h17 :: .int wp22068 :: .ref h19 :: .int wp22069 :: .ref h21 :: .ref h22 :: .ref h23 :: .ref h24 :: .ref h25 :: .ref h26 :: .ref h27 :: .ref h28 :: .ref h29 :: .ref h30 :: .ref h31 :: .int wp22070 :: .ref h33 :: .ref h34 :: .ref h35 :: .int wp22071 :: [.ref h37, .ref h38, .ref h39, .ref h40, .ref h41, .ref h42, .ref h43, .ref h44, .ref h45, .ref h46, .ref h47, .ref h48, .ref h49, .ref h50, .ref h51, .int wp22072, .int wp22073, .int wp22074, .int wp22075, .int wp22076, .ref h57, .ref h58, .int wp22077, .ref h60, .int 0, .ref h61, .int wp22078, .ref h63, .ref h64, .int wp22079, .ref h66, .ref h67, .int wp22080, .ref h69, .ref h70, .ref h71, .ref h72, .int wp22081, .int wp22082, .int wp22083, .int wp22084, .ref h77, .ref h78, .ref h79, .ref h80, .ref h81, .ref h82, .ref h83, .ref h84, .ref h85]))), (h57, .inl (y 0, 3, .inl (upd (fun _ => 0) ((0 : Int32).toNatClampNeg) 5))), (h58, .inl (y 0, 18, .inl (upd fn22171 ((4 : Int32).toNatClampNeg) ((p2 / 1) - (p2 / 1) / 10 * 10))))] H) (hD : va_D A [(h0, .inr (12, (.ref h4 :: .int wp22065 :: .int wp22066 :: .ref h7 :: .ref h8 :: .ref h9 :: .ref h10 :: .ref h11 :: .ref h12 :: .ref h13 :: .ref h14 :: .ref h15 :: .int wp22067 :: .ref h17 :: .int wp22068 :: .ref h19 :: .int wp22069 :: .ref h21 :: .ref h22 :: .ref h23 :: .ref h24 :: .ref h25 :: .ref h26 :: .ref h27 :: .ref h28 :: .ref h29 :: .ref h30 :: .ref h31 :: .int wp22070 :: .ref h33 :: .ref h34 :: .ref h35 :: .int wp22071 :: [.ref h37, .ref h38, .ref h39, .ref h40, .ref h41, .ref h42, .ref h43, .ref h44, .ref h45, .ref h46, .ref h47, .ref h48, .ref h49, .ref h50, .ref h51, .int wp22072, .int wp22073, .int wp22074, .int wp22075, .int wp22076, .ref h57, .ref h58, .int wp22077, .ref h60, .int 0, .ref h61, .int wp22078, .ref h63, .ref h64, .int wp22079, .ref h66, .ref h67, .int wp22080, .ref h69, .ref h70, .ref h71, .ref h72, .int wp22081, .int wp22082, .int wp22083, .int wp22084, .ref h77, .ref h78, .ref h79, .ref h80, .ref h81, .ref h82, .ref h83, .ref h84, .ref h85]))), (h57, .inl (y 0, 3, .inl (upd (fun _ => 0) ((0 : Int32).toNatClampNeg) 5))), (h58, .inl (y 0, 18, .inl (upd fn22171 ((4 : Int32).toNatClampNeg) ((p2 / 1) - (p2 / 1) / 10 * 10))))]) hS => ?_
              obtain ⟨fn22173, hfn22173⟩ : ∃ f9 : Nat → Int32, f9 = (upd fn22171 ((4 : Int32).toNatClampNeg) ((p2 / 1) - (p2 / 1) / 10 * 10)) := ⟨_, rfl⟩
              rw [← hfn22173] at hP hD
              clear hfn22173
              refine lv_iinc (v := 5) (lv' := [(4, .int 5), (0, .ref h0), (1, .int 0), (2, .int p2), (3, .int 5)]) hx hb dX12_secret_88 hl (k := 0) rfl (by decide +kernel) (by decide) rfl ?_
              clear hl
              clear ls
              intro ls hl
              refine lv_goto (tgt := 63) hx hb dX12_secret_91 (by decide) ?_
              refine lv_iload hx hb dX12_secret_63 (lv_at hl 0 rfl) ?_
              refine lv_iload_n hx hb dX12_secret_65 rfl (lv_at hl 4 rfl) ?_
              refine lv_icmp_ge (tgt := 94) hx hb dX12_secret_66 (by decide) (fun _ => ?_) (fun c9 => absurd c9 (by decide +kernel))
              refine lv_iconst (v := 0) hx hb dX12_secret_94 (by decide) ?_
              refine lv_istore (lv' := [(4, .int 0), (0, .ref h0), (1, .int 0), (2, .int p2), (3, .int 5)]) hx hb dX12_secret_95 hl (by decide) rfl ?_
              clear hl
              clear ls
              intro ls hl
              refine lv_iconst (v := 0) hx hb dX12_secret_97 (by decide) ?_
              refine lv_istore (lv' := [(5, .int 0), (4, .int 0), (0, .ref h0), (1, .int 0), (2, .int p2), (3, .int 5)]) hx hb dX12_secret_98 hl (by decide) rfl ?_
              clear hl
              clear ls
              intro ls hl
              refine lv_iload hx hb dX12_secret_100 (lv_at hl 0 rfl) ?_
              refine lv_iconst (v := 3) hx hb dX12_secret_102 (by decide) ?_
              refine lv_icmp_ge (tgt := 132) hx hb dX12_secret_103 (by decide) (fun c9 => absurd c9 (by decide +kernel)) (fun _ => ?_)
              refine lv_iload hx hb dX12_secret_106 (lv_at hl 1 rfl) ?_
              refine lv_aload_n hx hb dX12_secret_108 rfl (lv_at hl 2 rfl) ?_
              refine gm_get (D := D) (ci := 12) (v := .ref h57) (C := RX12) (T := TX12) (N := 83) hx hb hg inlX12 hown hK.1 hP 0 rfl rfl 53 (by decide) tX12_53 (hg _ gw_207) rfl dX12_secret_109 ?_
              refine lv_iload hx hb dX12_secret_112 (lv_at hl 0 rfl) ?_
              refine va_iald hx hb hK.1 hP 1 0 rfl rfl (by unfold vp_in; decide +kernel) dX12_secret_114 ?_
              refine g_fi (v := 5) (by rfl) ?_
              refine lv_if_le (tgt := 122) hx hb dX12_secret_115 (by decide) (fun c9 => absurd c9 (by decide +kernel)) (fun _ => ?_)
              refine lv_iconst (v := 1) hx hb dX12_secret_118 (by decide) ?_
              refine lv_goto (tgt := 123) hx hb dX12_secret_119 (by decide) ?_
              refine lv_iadd hx hb dX12_secret_123 ?_
              refine g_fi (v := 1) (by decide +kernel) ?_
              refine lv_istore (lv' := [(4, .int 1), (5, .int 0), (0, .ref h0), (1, .int 0), (2, .int p2), (3, .int 5)]) hx hb dX12_secret_124 hl (by decide) rfl ?_
              clear hl
              clear ls
              intro ls hl
              refine lv_iinc (v := 1) (lv' := [(5, .int 1), (4, .int 1), (0, .ref h0), (1, .int 0), (2, .int p2), (3, .int 5)]) hx hb dX12_secret_126 hl (k := 1) rfl (by decide +kernel) (by decide) rfl ?_
              clear hl
              clear ls
              intro ls hl
              refine lv_goto (tgt := 100) hx hb dX12_secret_129 (by decide) ?_
              refine lv_iload hx hb dX12_secret_100 (lv_at hl 0 rfl) ?_
              refine lv_iconst (v := 3) hx hb dX12_secret_102 (by decide) ?_
              refine lv_icmp_ge (tgt := 132) hx hb dX12_secret_103 (by decide) (fun c9 => absurd c9 (by decide +kernel)) (fun _ => ?_)
              refine lv_iload hx hb dX12_secret_106 (lv_at hl 1 rfl) ?_
              refine lv_aload_n hx hb dX12_secret_108 rfl (lv_at hl 2 rfl) ?_
              refine gm_get (D := D) (ci := 12) (v := .ref h57) (C := RX12) (T := TX12) (N := 83) hx hb hg inlX12 hown hK.1 hP 0 rfl rfl 53 (by decide) tX12_53 (hg _ gw_207) rfl dX12_secret_109 ?_
              refine lv_iload hx hb dX12_secret_112 (lv_at hl 0 rfl) ?_
              refine va_iald hx hb hK.1 hP 1 0 rfl rfl (by unfold vp_in; decide +kernel) dX12_secret_114 ?_
              refine g_fi (v := 0) (by rfl) ?_
              refine lv_if_le (tgt := 122) hx hb dX12_secret_115 (by decide) (fun _ => ?_) (fun c9 => absurd c9 (by decide +kernel))
              refine lv_iconst (v := 0) hx hb dX12_secret_122 (by decide) ?_
              refine lv_iadd hx hb dX12_secret_123 ?_
              refine g_fi (v := 1) (by decide +kernel) ?_
              refine lv_istore (lv' := [(4, .int 1), (5, .int 1), (0, .ref h0), (1, .int 0), (2, .int p2), (3, .int 5)]) hx hb dX12_secret_124 hl (by decide) rfl ?_
              clear hl
              clear ls
              intro ls hl
              refine lv_iinc (v := 2) (lv' := [(5, .int 2), (4, .int 1), (0, .ref h0), (1, .int 0), (2, .int p2), (3, .int 5)]) hx hb dX12_secret_126 hl (k := 1) rfl (by decide +kernel) (by decide) rfl ?_
              clear hl
              clear ls
              intro ls hl
              refine lv_goto (tgt := 100) hx hb dX12_secret_129 (by decide) ?_
              refine lv_iload hx hb dX12_secret_100 (lv_at hl 0 rfl) ?_
              refine lv_iconst (v := 3) hx hb dX12_secret_102 (by decide) ?_
              refine lv_icmp_ge (tgt := 132) hx hb dX12_secret_103 (by decide) (fun c9 => absurd c9 (by decide +kernel)) (fun _ => ?_)
              refine lv_iload hx hb dX12_secret_106 (lv_at hl 1 rfl) ?_
              refine lv_aload_n hx hb dX12_secret_108 rfl (lv_at hl 2 rfl) ?_
              refine gm_get (D := D) (ci := 12) (v := .ref h57) (C := RX12) (T := TX12) (N := 83) hx hb hg inlX12 hown hK.1 hP 0 rfl rfl 53 (by decide) tX12_53 (hg _ gw_207) rfl dX12_secret_109 ?_
              refine lv_iload hx hb dX12_secret_112 (lv_at hl 0 rfl) ?_
              refine va_iald hx hb hK.1 hP 1 0 rfl rfl (by unfold vp_in; decide +kernel) dX12_secret_114 ?_
              refine g_fi (v := 0) (by rfl) ?_
              refine lv_if_le (tgt := 122) hx hb dX12_secret_115 (by decide) (fun _ => ?_) (fun c9 => absurd c9 (by decide +kernel))
              refine lv_iconst (v := 0) hx hb dX12_secret_122 (by decide) ?_
              refine lv_iadd hx hb dX12_secret_123 ?_
              refine g_fi (v := 1) (by decide +kernel) ?_
              refine lv_istore (lv' := [(4, .int 1), (5, .int 2), (0, .ref h0), (1, .int 0), (2, .int p2), (3, .int 5)]) hx hb dX12_secret_124 hl (by decide) rfl ?_
              clear hl
              clear ls
              intro ls hl
              refine lv_iinc (v := 3) (lv' := [(5, .int 3), (4, .int 1), (0, .ref h0), (1, .int 0), (2, .int p2), (3, .int 5)]) hx hb dX12_secret_126 hl (k := 1) rfl (by decide +kernel) (by decide) rfl ?_
              clear hl
              clear ls
              intro ls hl
              refine lv_goto (tgt := 100) hx hb dX12_secret_129 (by decide) ?_
              refine lv_iload hx hb dX12_secret_100 (lv_at hl 0 rfl) ?_
              refine lv_iconst (v := 3) hx hb dX12_secret_102 (by decide) ?_
              refine lv_icmp_ge (tgt := 132) hx hb dX12_secret_103 (by decide) (fun _ => ?_) (fun c9 => absurd c9 (by decide +kernel))
              refine lv_iload hx hb dX12_secret_132 (lv_at hl 1 rfl) ?_
              exact g_iret hx hb hr hlocks ⟨0, (upd (fun _ => 0) ((0 : Int32).toNatClampNeg) 5), fn22173⟩ hP hD hS rfl (Or.inr (Or.inr (Or.inr (Or.inr (Or.inr (Or.inr (Or.inr (Or.inr (Or.inr (Or.inr (Or.inr (Or.inr (Or.inr (Or.inr (Or.inr (Or.inr (Or.inr (Or.inl ⟨rfl, rfl, rfl, (by first | omega | (simp_all; done)), (by first | omega | (simp_all; done)), (by first | omega | (simp_all; done)), (by first | omega | (simp_all; done)), (by first | omega | (simp_all; done)), (by first | omega | (simp_all; done))⟩)))))))))))))))))) (Nat.le_of_ble_eq_true rfl) (Nat.le_of_ble_eq_true rfl) dX12_secret_134
            ·
              refine lv_aload_n hx hb dX12_secret_53 rfl (lv_at hl 0 rfl) ?_
              refine gm_get (D := D) (ci := 12) (v := .ref h57) (C := RX12) (T := TX12) (N := 83) hx hb hg inlX12 hown hK.1 hP 0 rfl rfl 53 (by decide) tX12_53 (hg _ gw_207) rfl dX12_secret_54 ?_
              refine lv_iload_n hx hb dX12_secret_57 rfl (lv_at hl 1 rfl) ?_
              refine lv_iload_n hx hb dX12_secret_58 rfl (lv_at hl 3 rfl) ?_
              refine va_iast hx hb hK.1 hP hD hS 1 0 rfl rfl (by unfold vp_in; decide +kernel) dX12_secret_59 ?_
              clear hP hD hS H locs
              refine fun H locs (hP : va_P D vwCl [(h0, .inr (12, (.ref h4 :: .int wp22065 :: .int wp22066 :: .ref h7 :: .ref h8 :: .ref h9 :: .ref h10 :: .ref h11 :: .ref h12 :: .ref h13 :: .ref h14 :: .ref h15 :: .int wp22067 :: .ref h17 :: .int wp22068 :: .ref h19 :: .int wp22069 :: .ref h21 :: .ref h22 :: .ref h23 :: .ref h24 :: .ref h25 :: .ref h26 :: .ref h27 :: .ref h28 :: .ref h29 :: .ref h30 :: .ref h31 :: .int wp22070 :: .ref h33 :: .ref h34 :: .ref h35 :: .int wp22071 :: [.ref h37, .ref h38, .ref h39, .ref h40, .ref h41, .ref h42, .ref h43, .ref h44, .ref h45, .ref h46, .ref h47, .ref h48, .ref h49, .ref h50, .ref h51, .int wp22072, .int wp22073, .int wp22074, .int wp22075, .int wp22076, .ref h57, .ref h58, .int wp22077, .ref h60, .int 0, .ref h61, .int wp22078, .ref h63, .ref h64, .int wp22079, .ref h66, .ref h67, .int wp22080, .ref h69, .ref h70, .ref h71, .ref h72, .int wp22081, .int wp22082, .int wp22083, .int wp22084, .ref h77, .ref h78, .ref h79, .ref h80, .ref h81, .ref h82, .ref h83, .ref h84, .ref h85]))), (h57, .inl (y 0, 3, .inl (upd (fun _ => 0) ((1 : Int32).toNatClampNeg) 5))), (h58, .inl (y 0, 18, .inl wf22085))] H) (hD : va_D A [(h0, .inr (12, (.ref h4 :: .int wp22065 :: .int wp22066 :: .ref h7 :: .ref h8 :: .ref h9 :: .ref h10 :: .ref h11 :: .ref h12 :: .ref h13 :: .ref h14 :: .ref h15 :: .int wp22067 :: .ref h17 :: .int wp22068 :: .ref h19 :: .int wp22069 :: .ref h21 :: .ref h22 :: .ref h23 :: .ref h24 :: .ref h25 :: .ref h26 :: .ref h27 :: .ref h28 :: .ref h29 :: .ref h30 :: .ref h31 :: .int wp22070 :: .ref h33 :: .ref h34 :: .ref h35 :: .int wp22071 :: [.ref h37, .ref h38, .ref h39, .ref h40, .ref h41, .ref h42, .ref h43, .ref h44, .ref h45, .ref h46, .ref h47, .ref h48, .ref h49, .ref h50, .ref h51, .int wp22072, .int wp22073, .int wp22074, .int wp22075, .int wp22076, .ref h57, .ref h58, .int wp22077, .ref h60, .int 0, .ref h61, .int wp22078, .ref h63, .ref h64, .int wp22079, .ref h66, .ref h67, .int wp22080, .ref h69, .ref h70, .ref h71, .ref h72, .int wp22081, .int wp22082, .int wp22083, .int wp22084, .ref h77, .ref h78, .ref h79, .ref h80, .ref h81, .ref h82, .ref h83, .ref h84, .ref h85]))), (h57, .inl (y 0, 3, .inl (upd (fun _ => 0) ((1 : Int32).toNatClampNeg) 5))), (h58, .inl (y 0, 18, .inl wf22085))]) hS => ?_
              refine lv_iconst (v := 0) hx hb dX12_secret_60 (by decide) ?_
              refine lv_istore (lv' := [(4, .int 0), (0, .ref h0), (1, .int 1), (2, .int p2), (3, .int 5)]) hx hb dX12_secret_61 hl (by decide) rfl ?_
              clear hl
              clear ls
              intro ls hl
              refine lv_iload hx hb dX12_secret_63 (lv_at hl 0 rfl) ?_
              refine lv_iload_n hx hb dX12_secret_65 rfl (lv_at hl 4 rfl) ?_
              refine lv_icmp_ge (tgt := 94) hx hb dX12_secret_66 (by decide) (fun c9 => absurd c9 (by decide +kernel)) (fun _ => ?_)
              refine lv_aload_n hx hb dX12_secret_69 rfl (lv_at hl 1 rfl) ?_
              refine gm_get (D := D) (ci := 12) (v := .ref h58) (C := RX12) (T := TX12) (N := 83) hx hb hg inlX12 hown hK.1 hP 0 rfl rfl 54 (by decide) tX12_54 (hg _ gw_208) rfl dX12_secret_70 ?_
              refine lv_bipush (v := 6) hx hb dX12_secret_73 (by decide +kernel) ?_
              refine lv_iload_n hx hb dX12_secret_75 rfl (lv_at hl 2 rfl) ?_
              refine lv_imul hx hb dX12_secret_76 ?_
              refine g_fi (v := 6) (by decide +kernel) ?_
              refine lv_iload hx hb dX12_secret_77 (lv_at hl 0 rfl) ?_
              refine lv_iadd hx hb dX12_secret_79 ?_
              refine g_fi (v := 6) (by decide +kernel) ?_
              refine lv_iload_n hx hb dX12_secret_80 rfl (lv_at hl 3 rfl) ?_
              refine lv_iload_n hx hb dX12_secret_81 rfl (lv_at hl 4 rfl) ?_
              refine lv_iload hx hb dX12_secret_82 (lv_at hl 0 rfl) ?_
              refine g_ai (wr := [(h0, .inr (12, (.ref h4 :: .int wp22065 :: .int wp22066 :: .ref h7 :: .ref h8 :: .ref h9 :: .ref h10 :: .ref h11 :: .ref h12 :: .ref h13 :: .ref h14 :: .ref h15 :: .int wp22067 :: .ref h17 :: .int wp22068 :: .ref h19 :: .int wp22069 :: .ref h21 :: .ref h22 :: .ref h23 :: .ref h24 :: .ref h25 :: .ref h26 :: .ref h27 :: .ref h28 :: .ref h29 :: .ref h30 :: .ref h31 :: .int wp22070 :: .ref h33 :: .ref h34 :: .ref h35 :: .int wp22071 :: [.ref h37, .ref h38, .ref h39, .ref h40, .ref h41, .ref h42, .ref h43, .ref h44, .ref h45, .ref h46, .ref h47, .ref h48, .ref h49, .ref h50, .ref h51, .int wp22072, .int wp22073, .int wp22074, .int wp22075, .int wp22076, .ref h57, .ref h58, .int wp22077, .ref h60, .int 0, .ref h61, .int wp22078, .ref h63, .ref h64, .int wp22079, .ref h66, .ref h67, .int wp22080, .ref h69, .ref h70, .ref h71, .ref h72, .int wp22081, .int wp22082, .int wp22083, .int wp22084, .ref h77, .ref h78, .ref h79, .ref h80, .ref h81, .ref h82, .ref h83, .ref h84, .ref h85]))), (h57, .inl (y 0, 3, .inl (upd (fun _ => 0) ((1 : Int32).toNatClampNeg) 5))), (h58, .inl (y 0, 18, .inl wf22085))]) (va_runS (As := [.int p2, .int 5, .int 0]) (rest := [.int 6, .ref h58]) ⟨hx, hb, hml, hown, hg⟩ (k_X12_digitOf_9 l D y aS H.size p2) (va_cwS 3 hg ggS_RX12_484_X12_digitOf rfl rfl rfl (by decide +kernel) ⟨Nat.le_of_ble_eq_true rfl, Nat.le_of_ble_eq_true rfl⟩) (g_preS hK hP hD [] rfl (by decide)) rfl rfl hl.1 rfl (lv_room (Nat.le_of_ble_eq_true rfl)) dX12_secret_84 ⟨Nat.le_of_ble_eq_true rfl, Nat.le_of_ble_eq_true rfl⟩) hP hD hS hA [] [0, 1, 2] rfl rfl (by decide) (by decide) ?_
              clear hP hD hS H locs
              refine fun r22174 u H locs hq hP hD hS => ?_
              subst hq
              replace hP : va_P D vwCl [(h0, .inr (12, (.ref h4 :: .int wp22065 :: .int wp22066 :: .ref h7 :: .ref h8 :: .ref h9 :: .ref h10 :: .ref h11 :: .ref h12 :: .ref h13 :: .ref h14 :: .ref h15 :: .int wp22067 :: .ref h17 :: .int wp22068 :: .ref h19 :: .int wp22069 :: .ref h21 :: .ref h22 :: .ref h23 :: .ref h24 :: .ref h25 :: .ref h26 :: .ref h27 :: .ref h28 :: .ref h29 :: .ref h30 :: .ref h31 :: .int wp22070 :: .ref h33 :: .ref h34 :: .ref h35 :: .int wp22071 :: [.ref h37, .ref h38, .ref h39, .ref h40, .ref h41, .ref h42, .ref h43, .ref h44, .ref h45, .ref h46, .ref h47, .ref h48, .ref h49, .ref h50, .ref h51, .int wp22072, .int wp22073, .int wp22074, .int wp22075, .int wp22076, .ref h57, .ref h58, .int wp22077, .ref h60, .int 0, .ref h61, .int wp22078, .ref h63, .ref h64, .int wp22079, .ref h66, .ref h67, .int wp22080, .ref h69, .ref h70, .ref h71, .ref h72, .int wp22081, .int wp22082, .int wp22083, .int wp22084, .ref h77, .ref h78, .ref h79, .ref h80, .ref h81, .ref h82, .ref h83, .ref h84, .ref h85]))), (h57, .inl (y 0, 3, .inl (upd (fun _ => 0) ((1 : Int32).toNatClampNeg) 5))), (h58, .inl (y 0, 18, .inl wf22085))] H := hP
              replace hD : va_D A [(h0, .inr (12, (.ref h4 :: .int wp22065 :: .int wp22066 :: .ref h7 :: .ref h8 :: .ref h9 :: .ref h10 :: .ref h11 :: .ref h12 :: .ref h13 :: .ref h14 :: .ref h15 :: .int wp22067 :: .ref h17 :: .int wp22068 :: .ref h19 :: .int wp22069 :: .ref h21 :: .ref h22 :: .ref h23 :: .ref h24 :: .ref h25 :: .ref h26 :: .ref h27 :: .ref h28 :: .ref h29 :: .ref h30 :: .ref h31 :: .int wp22070 :: .ref h33 :: .ref h34 :: .ref h35 :: .int wp22071 :: [.ref h37, .ref h38, .ref h39, .ref h40, .ref h41, .ref h42, .ref h43, .ref h44, .ref h45, .ref h46, .ref h47, .ref h48, .ref h49, .ref h50, .ref h51, .int wp22072, .int wp22073, .int wp22074, .int wp22075, .int wp22076, .ref h57, .ref h58, .int wp22077, .ref h60, .int 0, .ref h61, .int wp22078, .ref h63, .ref h64, .int wp22079, .ref h66, .ref h67, .int wp22080, .ref h69, .ref h70, .ref h71, .ref h72, .int wp22081, .int wp22082, .int wp22083, .int wp22084, .ref h77, .ref h78, .ref h79, .ref h80, .ref h81, .ref h82, .ref h83, .ref h84, .ref h85]))), (h57, .inl (y 0, 3, .inl (upd (fun _ => 0) ((1 : Int32).toNatClampNeg) 5))), (h58, .inl (y 0, 18, .inl wf22085))] := hD
              refine va_iast hx hb hK.1 hP hD hS 2 0 rfl rfl (by unfold vp_in; decide +kernel) dX12_secret_87 ?_
              clear hP hD hS H locs
              refine fun H locs (hP : va_P D vwCl [(h0, .inr (12, (.ref h4 :: .int wp22065 :: .int wp22066 :: .ref h7 :: .ref h8 :: .ref h9 :: .ref h10 :: .ref h11 :: .ref h12 :: .ref h13 :: .ref h14 :: .ref h15 :: .int wp22067 :: .ref h17 :: .int wp22068 :: .ref h19 :: .int wp22069 :: .ref h21 :: .ref h22 :: .ref h23 :: .ref h24 :: .ref h25 :: .ref h26 :: .ref h27 :: .ref h28 :: .ref h29 :: .ref h30 :: .ref h31 :: .int wp22070 :: .ref h33 :: .ref h34 :: .ref h35 :: .int wp22071 :: [.ref h37, .ref h38, .ref h39, .ref h40, .ref h41, .ref h42, .ref h43, .ref h44, .ref h45, .ref h46, .ref h47, .ref h48, .ref h49, .ref h50, .ref h51, .int wp22072, .int wp22073, .int wp22074, .int wp22075, .int wp22076, .ref h57, .ref h58, .int wp22077, .ref h60, .int 0, .ref h61, .int wp22078, .ref h63, .ref h64, .int wp22079, .ref h66, .ref h67, .int wp22080, .ref h69, .ref h70, .ref h71, .ref h72, .int wp22081, .int wp22082, .int wp22083, .int wp22084, .ref h77, .ref h78, .ref h79, .ref h80, .ref h81, .ref h82, .ref h83, .ref h84, .ref h85]))), (h57, .inl (y 0, 3, .inl (upd (fun _ => 0) ((1 : Int32).toNatClampNeg) 5))), (h58, .inl (y 0, 18, .inl (upd wf22085 ((6 : Int32).toNatClampNeg) ((p2 / 10000) - (p2 / 10000) / 10 * 10))))] H) (hD : va_D A [(h0, .inr (12, (.ref h4 :: .int wp22065 :: .int wp22066 :: .ref h7 :: .ref h8 :: .ref h9 :: .ref h10 :: .ref h11 :: .ref h12 :: .ref h13 :: .ref h14 :: .ref h15 :: .int wp22067 :: .ref h17 :: .int wp22068 :: .ref h19 :: .int wp22069 :: .ref h21 :: .ref h22 :: .ref h23 :: .ref h24 :: .ref h25 :: .ref h26 :: .ref h27 :: .ref h28 :: .ref h29 :: .ref h30 :: .ref h31 :: .int wp22070 :: .ref h33 :: .ref h34 :: .ref h35 :: .int wp22071 :: [.ref h37, .ref h38, .ref h39, .ref h40, .ref h41, .ref h42, .ref h43, .ref h44, .ref h45, .ref h46, .ref h47, .ref h48, .ref h49, .ref h50, .ref h51, .int wp22072, .int wp22073, .int wp22074, .int wp22075, .int wp22076, .ref h57, .ref h58, .int wp22077, .ref h60, .int 0, .ref h61, .int wp22078, .ref h63, .ref h64, .int wp22079, .ref h66, .ref h67, .int wp22080, .ref h69, .ref h70, .ref h71, .ref h72, .int wp22081, .int wp22082, .int wp22083, .int wp22084, .ref h77, .ref h78, .ref h79, .ref h80, .ref h81, .ref h82, .ref h83, .ref h84, .ref h85]))), (h57, .inl (y 0, 3, .inl (upd (fun _ => 0) ((1 : Int32).toNatClampNeg) 5))), (h58, .inl (y 0, 18, .inl (upd wf22085 ((6 : Int32).toNatClampNeg) ((p2 / 10000) - (p2 / 10000) / 10 * 10))))]) hS => ?_
              obtain ⟨fn22175, hfn22175⟩ : ∃ f9 : Nat → Int32, f9 = (upd wf22085 ((6 : Int32).toNatClampNeg) ((p2 / 10000) - (p2 / 10000) / 10 * 10)) := ⟨_, rfl⟩
              rw [← hfn22175] at hP hD
              clear hfn22175
              refine lv_iinc (v := 1) (lv' := [(4, .int 1), (0, .ref h0), (1, .int 1), (2, .int p2), (3, .int 5)]) hx hb dX12_secret_88 hl (k := 0) rfl (by decide +kernel) (by decide) rfl ?_
              clear hl
              clear ls
              intro ls hl
              refine lv_goto (tgt := 63) hx hb dX12_secret_91 (by decide) ?_
              refine lv_iload hx hb dX12_secret_63 (lv_at hl 0 rfl) ?_
              refine lv_iload_n hx hb dX12_secret_65 rfl (lv_at hl 4 rfl) ?_
              refine lv_icmp_ge (tgt := 94) hx hb dX12_secret_66 (by decide) (fun c9 => absurd c9 (by decide +kernel)) (fun _ => ?_)
              refine lv_aload_n hx hb dX12_secret_69 rfl (lv_at hl 1 rfl) ?_
              refine gm_get (D := D) (ci := 12) (v := .ref h58) (C := RX12) (T := TX12) (N := 83) hx hb hg inlX12 hown hK.1 hP 0 rfl rfl 54 (by decide) tX12_54 (hg _ gw_208) rfl dX12_secret_70 ?_
              refine lv_bipush (v := 6) hx hb dX12_secret_73 (by decide +kernel) ?_
              refine lv_iload_n hx hb dX12_secret_75 rfl (lv_at hl 2 rfl) ?_
              refine lv_imul hx hb dX12_secret_76 ?_
              refine g_fi (v := 6) (by decide +kernel) ?_
              refine lv_iload hx hb dX12_secret_77 (lv_at hl 0 rfl) ?_
              refine lv_iadd hx hb dX12_secret_79 ?_
              refine g_fi (v := 7) (by decide +kernel) ?_
              refine lv_iload_n hx hb dX12_secret_80 rfl (lv_at hl 3 rfl) ?_
              refine lv_iload_n hx hb dX12_secret_81 rfl (lv_at hl 4 rfl) ?_
              refine lv_iload hx hb dX12_secret_82 (lv_at hl 0 rfl) ?_
              refine g_ai (wr := [(h0, .inr (12, (.ref h4 :: .int wp22065 :: .int wp22066 :: .ref h7 :: .ref h8 :: .ref h9 :: .ref h10 :: .ref h11 :: .ref h12 :: .ref h13 :: .ref h14 :: .ref h15 :: .int wp22067 :: .ref h17 :: .int wp22068 :: .ref h19 :: .int wp22069 :: .ref h21 :: .ref h22 :: .ref h23 :: .ref h24 :: .ref h25 :: .ref h26 :: .ref h27 :: .ref h28 :: .ref h29 :: .ref h30 :: .ref h31 :: .int wp22070 :: .ref h33 :: .ref h34 :: .ref h35 :: .int wp22071 :: [.ref h37, .ref h38, .ref h39, .ref h40, .ref h41, .ref h42, .ref h43, .ref h44, .ref h45, .ref h46, .ref h47, .ref h48, .ref h49, .ref h50, .ref h51, .int wp22072, .int wp22073, .int wp22074, .int wp22075, .int wp22076, .ref h57, .ref h58, .int wp22077, .ref h60, .int 0, .ref h61, .int wp22078, .ref h63, .ref h64, .int wp22079, .ref h66, .ref h67, .int wp22080, .ref h69, .ref h70, .ref h71, .ref h72, .int wp22081, .int wp22082, .int wp22083, .int wp22084, .ref h77, .ref h78, .ref h79, .ref h80, .ref h81, .ref h82, .ref h83, .ref h84, .ref h85]))), (h57, .inl (y 0, 3, .inl (upd (fun _ => 0) ((1 : Int32).toNatClampNeg) 5))), (h58, .inl (y 0, 18, .inl fn22175))]) (va_runS (As := [.int p2, .int 5, .int 1]) (rest := [.int 7, .ref h58]) ⟨hx, hb, hml, hown, hg⟩ (k_X12_digitOf_10 l D y aS H.size p2) (va_cwS 3 hg ggS_RX12_484_X12_digitOf rfl rfl rfl (by decide +kernel) ⟨Nat.le_of_ble_eq_true rfl, Nat.le_of_ble_eq_true rfl⟩) (g_preS hK hP hD [] rfl (by decide)) rfl rfl hl.1 rfl (lv_room (Nat.le_of_ble_eq_true rfl)) dX12_secret_84 ⟨Nat.le_of_ble_eq_true rfl, Nat.le_of_ble_eq_true rfl⟩) hP hD hS hA [] [0, 1, 2] rfl rfl (by decide) (by decide) ?_
              clear hP hD hS H locs
              refine fun r22176 u H locs hq hP hD hS => ?_
              subst hq
              replace hP : va_P D vwCl [(h0, .inr (12, (.ref h4 :: .int wp22065 :: .int wp22066 :: .ref h7 :: .ref h8 :: .ref h9 :: .ref h10 :: .ref h11 :: .ref h12 :: .ref h13 :: .ref h14 :: .ref h15 :: .int wp22067 :: .ref h17 :: .int wp22068 :: .ref h19 :: .int wp22069 :: .ref h21 :: .ref h22 :: .ref h23 :: .ref h24 :: .ref h25 :: .ref h26 :: .ref h27 :: .ref h28 :: .ref h29 :: .ref h30 :: .ref h31 :: .int wp22070 :: .ref h33 :: .ref h34 :: .ref h35 :: .int wp22071 :: [.ref h37, .ref h38, .ref h39, .ref h40, .ref h41, .ref h42, .ref h43, .ref h44, .ref h45, .ref h46, .ref h47, .ref h48, .ref h49, .ref h50, .ref h51, .int wp22072, .int wp22073, .int wp22074, .int wp22075, .int wp22076, .ref h57, .ref h58, .int wp22077, .ref h60, .int 0, .ref h61, .int wp22078, .ref h63, .ref h64, .int wp22079, .ref h66, .ref h67, .int wp22080, .ref h69, .ref h70, .ref h71, .ref h72, .int wp22081, .int wp22082, .int wp22083, .int wp22084, .ref h77, .ref h78, .ref h79, .ref h80, .ref h81, .ref h82, .ref h83, .ref h84, .ref h85]))), (h57, .inl (y 0, 3, .inl (upd (fun _ => 0) ((1 : Int32).toNatClampNeg) 5))), (h58, .inl (y 0, 18, .inl fn22175))] H := hP
              replace hD : va_D A [(h0, .inr (12, (.ref h4 :: .int wp22065 :: .int wp22066 :: .ref h7 :: .ref h8 :: .ref h9 :: .ref h10 :: .ref h11 :: .ref h12 :: .ref h13 :: .ref h14 :: .ref h15 :: .int wp22067 :: .ref h17 :: .int wp22068 :: .ref h19 :: .int wp22069 :: .ref h21 :: .ref h22 :: .ref h23 :: .ref h24 :: .ref h25 :: .ref h26 :: .ref h27 :: .ref h28 :: .ref h29 :: .ref h30 :: .ref h31 :: .int wp22070 :: .ref h33 :: .ref h34 :: .ref h35 :: .int wp22071 :: [.ref h37, .ref h38, .ref h39, .ref h40, .ref h41, .ref h42, .ref h43, .ref h44, .ref h45, .ref h46, .ref h47, .ref h48, .ref h49, .ref h50, .ref h51, .int wp22072, .int wp22073, .int wp22074, .int wp22075, .int wp22076, .ref h57, .ref h58, .int wp22077, .ref h60, .int 0, .ref h61, .int wp22078, .ref h63, .ref h64, .int wp22079, .ref h66, .ref h67, .int wp22080, .ref h69, .ref h70, .ref h71, .ref h72, .int wp22081, .int wp22082, .int wp22083, .int wp22084, .ref h77, .ref h78, .ref h79, .ref h80, .ref h81, .ref h82, .ref h83, .ref h84, .ref h85]))), (h57, .inl (y 0, 3, .inl (upd (fun _ => 0) ((1 : Int32).toNatClampNeg) 5))), (h58, .inl (y 0, 18, .inl fn22175))] := hD
              refine va_iast hx hb hK.1 hP hD hS 2 0 rfl rfl (by unfold vp_in; decide +kernel) dX12_secret_87 ?_
              clear hP hD hS H locs
              refine fun H locs (hP : va_P D vwCl [(h0, .inr (12, (.ref h4 :: .int wp22065 :: .int wp22066 :: .ref h7 :: .ref h8 :: .ref h9 :: .ref h10 :: .ref h11 :: .ref h12 :: .ref h13 :: .ref h14 :: .ref h15 :: .int wp22067 :: .ref h17 :: .int wp22068 :: .ref h19 :: .int wp22069 :: .ref h21 :: .ref h22 :: .ref h23 :: .ref h24 :: .ref h25 :: .ref h26 :: .ref h27 :: .ref h28 :: .ref h29 :: .ref h30 :: .ref h31 :: .int wp22070 :: .ref h33 :: .ref h34 :: .ref h35 :: .int wp22071 :: [.ref h37, .ref h38, .ref h39, .ref h40, .ref h41, .ref h42, .ref h43, .ref h44, .ref h45, .ref h46, .ref h47, .ref h48, .ref h49, .ref h50, .ref h51, .int wp22072, .int wp22073, .int wp22074, .int wp22075, .int wp22076, .ref h57, .ref h58, .int wp22077, .ref h60, .int 0, .ref h61, .int wp22078, .ref h63, .ref h64, .int wp22079, .ref h66, .ref h67, .int wp22080, .ref h69, .ref h70, .ref h71, .ref h72, .int wp22081, .int wp22082, .int wp22083, .int wp22084, .ref h77, .ref h78, .ref h79, .ref h80, .ref h81, .ref h82, .ref h83, .ref h84, .ref h85]))), (h57, .inl (y 0, 3, .inl (upd (fun _ => 0) ((1 : Int32).toNatClampNeg) 5))), (h58, .inl (y 0, 18, .inl (upd fn22175 ((7 : Int32).toNatClampNeg) ((p2 / 1000) - (p2 / 1000) / 10 * 10))))] H) (hD : va_D A [(h0, .inr (12, (.ref h4 :: .int wp22065 :: .int wp22066 :: .ref h7 :: .ref h8 :: .ref h9 :: .ref h10 :: .ref h11 :: .ref h12 :: .ref h13 :: .ref h14 :: .ref h15 :: .int wp22067 :: .ref h17 :: .int wp22068 :: .ref h19 :: .int wp22069 :: .ref h21 :: .ref h22 :: .ref h23 :: .ref h24 :: .ref h25 :: .ref h26 :: .ref h27 :: .ref h28 :: .ref h29 :: .ref h30 :: .ref h31 :: .int wp22070 :: .ref h33 :: .ref h34 :: .ref h35 :: .int wp22071 :: [.ref h37, .ref h38, .ref h39, .ref h40, .ref h41, .ref h42, .ref h43, .ref h44, .ref h45, .ref h46, .ref h47, .ref h48, .ref h49, .ref h50, .ref h51, .int wp22072, .int wp22073, .int wp22074, .int wp22075, .int wp22076, .ref h57, .ref h58, .int wp22077, .ref h60, .int 0, .ref h61, .int wp22078, .ref h63, .ref h64, .int wp22079, .ref h66, .ref h67, .int wp22080, .ref h69, .ref h70, .ref h71, .ref h72, .int wp22081, .int wp22082, .int wp22083, .int wp22084, .ref h77, .ref h78, .ref h79, .ref h80, .ref h81, .ref h82, .ref h83, .ref h84, .ref h85]))), (h57, .inl (y 0, 3, .inl (upd (fun _ => 0) ((1 : Int32).toNatClampNeg) 5))), (h58, .inl (y 0, 18, .inl (upd fn22175 ((7 : Int32).toNatClampNeg) ((p2 / 1000) - (p2 / 1000) / 10 * 10))))]) hS => ?_
              obtain ⟨fn22177, hfn22177⟩ : ∃ f9 : Nat → Int32, f9 = (upd fn22175 ((7 : Int32).toNatClampNeg) ((p2 / 1000) - (p2 / 1000) / 10 * 10)) := ⟨_, rfl⟩
              rw [← hfn22177] at hP hD
              clear hfn22177
              refine lv_iinc (v := 2) (lv' := [(4, .int 2), (0, .ref h0), (1, .int 1), (2, .int p2), (3, .int 5)]) hx hb dX12_secret_88 hl (k := 0) rfl (by decide +kernel) (by decide) rfl ?_
              clear hl
              clear ls
              intro ls hl
              refine lv_goto (tgt := 63) hx hb dX12_secret_91 (by decide) ?_
              refine lv_iload hx hb dX12_secret_63 (lv_at hl 0 rfl) ?_
              refine lv_iload_n hx hb dX12_secret_65 rfl (lv_at hl 4 rfl) ?_
              refine lv_icmp_ge (tgt := 94) hx hb dX12_secret_66 (by decide) (fun c9 => absurd c9 (by decide +kernel)) (fun _ => ?_)
              refine lv_aload_n hx hb dX12_secret_69 rfl (lv_at hl 1 rfl) ?_
              refine gm_get (D := D) (ci := 12) (v := .ref h58) (C := RX12) (T := TX12) (N := 83) hx hb hg inlX12 hown hK.1 hP 0 rfl rfl 54 (by decide) tX12_54 (hg _ gw_208) rfl dX12_secret_70 ?_
              refine lv_bipush (v := 6) hx hb dX12_secret_73 (by decide +kernel) ?_
              refine lv_iload_n hx hb dX12_secret_75 rfl (lv_at hl 2 rfl) ?_
              refine lv_imul hx hb dX12_secret_76 ?_
              refine g_fi (v := 6) (by decide +kernel) ?_
              refine lv_iload hx hb dX12_secret_77 (lv_at hl 0 rfl) ?_
              refine lv_iadd hx hb dX12_secret_79 ?_
              refine g_fi (v := 8) (by decide +kernel) ?_
              refine lv_iload_n hx hb dX12_secret_80 rfl (lv_at hl 3 rfl) ?_
              refine lv_iload_n hx hb dX12_secret_81 rfl (lv_at hl 4 rfl) ?_
              refine lv_iload hx hb dX12_secret_82 (lv_at hl 0 rfl) ?_
              refine g_ai (wr := [(h0, .inr (12, (.ref h4 :: .int wp22065 :: .int wp22066 :: .ref h7 :: .ref h8 :: .ref h9 :: .ref h10 :: .ref h11 :: .ref h12 :: .ref h13 :: .ref h14 :: .ref h15 :: .int wp22067 :: .ref h17 :: .int wp22068 :: .ref h19 :: .int wp22069 :: .ref h21 :: .ref h22 :: .ref h23 :: .ref h24 :: .ref h25 :: .ref h26 :: .ref h27 :: .ref h28 :: .ref h29 :: .ref h30 :: .ref h31 :: .int wp22070 :: .ref h33 :: .ref h34 :: .ref h35 :: .int wp22071 :: [.ref h37, .ref h38, .ref h39, .ref h40, .ref h41, .ref h42, .ref h43, .ref h44, .ref h45, .ref h46, .ref h47, .ref h48, .ref h49, .ref h50, .ref h51, .int wp22072, .int wp22073, .int wp22074, .int wp22075, .int wp22076, .ref h57, .ref h58, .int wp22077, .ref h60, .int 0, .ref h61, .int wp22078, .ref h63, .ref h64, .int wp22079, .ref h66, .ref h67, .int wp22080, .ref h69, .ref h70, .ref h71, .ref h72, .int wp22081, .int wp22082, .int wp22083, .int wp22084, .ref h77, .ref h78, .ref h79, .ref h80, .ref h81, .ref h82, .ref h83, .ref h84, .ref h85]))), (h57, .inl (y 0, 3, .inl (upd (fun _ => 0) ((1 : Int32).toNatClampNeg) 5))), (h58, .inl (y 0, 18, .inl fn22177))]) (va_runS (As := [.int p2, .int 5, .int 2]) (rest := [.int 8, .ref h58]) ⟨hx, hb, hml, hown, hg⟩ (k_X12_digitOf_11 l D y aS H.size p2) (va_cwS 3 hg ggS_RX12_484_X12_digitOf rfl rfl rfl (by decide +kernel) ⟨Nat.le_of_ble_eq_true rfl, Nat.le_of_ble_eq_true rfl⟩) (g_preS hK hP hD [] rfl (by decide)) rfl rfl hl.1 rfl (lv_room (Nat.le_of_ble_eq_true rfl)) dX12_secret_84 ⟨Nat.le_of_ble_eq_true rfl, Nat.le_of_ble_eq_true rfl⟩) hP hD hS hA [] [0, 1, 2] rfl rfl (by decide) (by decide) ?_
              clear hP hD hS H locs
              refine fun r22178 u H locs hq hP hD hS => ?_
              subst hq
              replace hP : va_P D vwCl [(h0, .inr (12, (.ref h4 :: .int wp22065 :: .int wp22066 :: .ref h7 :: .ref h8 :: .ref h9 :: .ref h10 :: .ref h11 :: .ref h12 :: .ref h13 :: .ref h14 :: .ref h15 :: .int wp22067 :: .ref h17 :: .int wp22068 :: .ref h19 :: .int wp22069 :: .ref h21 :: .ref h22 :: .ref h23 :: .ref h24 :: .ref h25 :: .ref h26 :: .ref h27 :: .ref h28 :: .ref h29 :: .ref h30 :: .ref h31 :: .int wp22070 :: .ref h33 :: .ref h34 :: .ref h35 :: .int wp22071 :: [.ref h37, .ref h38, .ref h39, .ref h40, .ref h41, .ref h42, .ref h43, .ref h44, .ref h45, .ref h46, .ref h47, .ref h48, .ref h49, .ref h50, .ref h51, .int wp22072, .int wp22073, .int wp22074, .int wp22075, .int wp22076, .ref h57, .ref h58, .int wp22077, .ref h60, .int 0, .ref h61, .int wp22078, .ref h63, .ref h64, .int wp22079, .ref h66, .ref h67, .int wp22080, .ref h69, .ref h70, .ref h71, .ref h72, .int wp22081, .int wp22082, .int wp22083, .int wp22084, .ref h77, .ref h78, .ref h79, .ref h80, .ref h81, .ref h82, .ref h83, .ref h84, .ref h85]))), (h57, .inl (y 0, 3, .inl (upd (fun _ => 0) ((1 : Int32).toNatClampNeg) 5))), (h58, .inl (y 0, 18, .inl fn22177))] H := hP
              replace hD : va_D A [(h0, .inr (12, (.ref h4 :: .int wp22065 :: .int wp22066 :: .ref h7 :: .ref h8 :: .ref h9 :: .ref h10 :: .ref h11 :: .ref h12 :: .ref h13 :: .ref h14 :: .ref h15 :: .int wp22067 :: .ref h17 :: .int wp22068 :: .ref h19 :: .int wp22069 :: .ref h21 :: .ref h22 :: .ref h23 :: .ref h24 :: .ref h25 :: .ref h26 :: .ref h27 :: .ref h28 :: .ref h29 :: .ref h30 :: .ref h31 :: .int wp22070 :: .ref h33 :: .ref h34 :: .ref h35 :: .int wp22071 :: [.ref h37, .ref h38, .ref h39, .ref h40, .ref h41, .ref h42, .ref h43, .ref h44, .ref h45, .ref h46, .ref h47, .ref h48, .ref h49, .ref h50, .ref h51, .int wp22072, .int wp22073, .int wp22074, .int wp22075, .int wp22076, .ref h57, .ref h58, .int wp22077, .ref h60, .int 0, .ref h61, .int wp22078, .ref h63, .ref h64, .int wp22079, .ref h66, .ref h67, .int wp22080, .ref h69, .ref h70, .ref h71, .ref h72, .int wp22081, .int wp22082, .int wp22083, .int wp22084, .ref h77, .ref h78, .ref h79, .ref h80, .ref h81, .ref h82, .ref h83, .ref h84, .ref h85]))), (h57, .inl (y 0, 3, .inl (upd (fun _ => 0) ((1 : Int32).toNatClampNeg) 5))), (h58, .inl (y 0, 18, .inl fn22177))] := hD
              refine va_iast hx hb hK.1 hP hD hS 2 0 rfl rfl (by unfold vp_in; decide +kernel) dX12_secret_87 ?_
              clear hP hD hS H locs
              refine fun H locs (hP : va_P D vwCl [(h0, .inr (12, (.ref h4 :: .int wp22065 :: .int wp22066 :: .ref h7 :: .ref h8 :: .ref h9 :: .ref h10 :: .ref h11 :: .ref h12 :: .ref h13 :: .ref h14 :: .ref h15 :: .int wp22067 :: .ref h17 :: .int wp22068 :: .ref h19 :: .int wp22069 :: .ref h21 :: .ref h22 :: .ref h23 :: .ref h24 :: .ref h25 :: .ref h26 :: .ref h27 :: .ref h28 :: .ref h29 :: .ref h30 :: .ref h31 :: .int wp22070 :: .ref h33 :: .ref h34 :: .ref h35 :: .int wp22071 :: [.ref h37, .ref h38, .ref h39, .ref h40, .ref h41, .ref h42, .ref h43, .ref h44, .ref h45, .ref h46, .ref h47, .ref h48, .ref h49, .ref h50, .ref h51, .int wp22072, .int wp22073, .int wp22074, .int wp22075, .int wp22076, .ref h57, .ref h58, .int wp22077, .ref h60, .int 0, .ref h61, .int wp22078, .ref h63, .ref h64, .int wp22079, .ref h66, .ref h67, .int wp22080, .ref h69, .ref h70, .ref h71, .ref h72, .int wp22081, .int wp22082, .int wp22083, .int wp22084, .ref h77, .ref h78, .ref h79, .ref h80, .ref h81, .ref h82, .ref h83, .ref h84, .ref h85]))), (h57, .inl (y 0, 3, .inl (upd (fun _ => 0) ((1 : Int32).toNatClampNeg) 5))), (h58, .inl (y 0, 18, .inl (upd fn22177 ((8 : Int32).toNatClampNeg) ((p2 / 100) - (p2 / 100) / 10 * 10))))] H) (hD : va_D A [(h0, .inr (12, (.ref h4 :: .int wp22065 :: .int wp22066 :: .ref h7 :: .ref h8 :: .ref h9 :: .ref h10 :: .ref h11 :: .ref h12 :: .ref h13 :: .ref h14 :: .ref h15 :: .int wp22067 :: .ref h17 :: .int wp22068 :: .ref h19 :: .int wp22069 :: .ref h21 :: .ref h22 :: .ref h23 :: .ref h24 :: .ref h25 :: .ref h26 :: .ref h27 :: .ref h28 :: .ref h29 :: .ref h30 :: .ref h31 :: .int wp22070 :: .ref h33 :: .ref h34 :: .ref h35 :: .int wp22071 :: [.ref h37, .ref h38, .ref h39, .ref h40, .ref h41, .ref h42, .ref h43, .ref h44, .ref h45, .ref h46, .ref h47, .ref h48, .ref h49, .ref h50, .ref h51, .int wp22072, .int wp22073, .int wp22074, .int wp22075, .int wp22076, .ref h57, .ref h58, .int wp22077, .ref h60, .int 0, .ref h61, .int wp22078, .ref h63, .ref h64, .int wp22079, .ref h66, .ref h67, .int wp22080, .ref h69, .ref h70, .ref h71, .ref h72, .int wp22081, .int wp22082, .int wp22083, .int wp22084, .ref h77, .ref h78, .ref h79, .ref h80, .ref h81, .ref h82, .ref h83, .ref h84, .ref h85]))), (h57, .inl (y 0, 3, .inl (upd (fun _ => 0) ((1 : Int32).toNatClampNeg) 5))), (h58, .inl (y 0, 18, .inl (upd fn22177 ((8 : Int32).toNatClampNeg) ((p2 / 100) - (p2 / 100) / 10 * 10))))]) hS => ?_
              obtain ⟨fn22179, hfn22179⟩ : ∃ f9 : Nat → Int32, f9 = (upd fn22177 ((8 : Int32).toNatClampNeg) ((p2 / 100) - (p2 / 100) / 10 * 10)) := ⟨_, rfl⟩
              rw [← hfn22179] at hP hD
              clear hfn22179
              refine lv_iinc (v := 3) (lv' := [(4, .int 3), (0, .ref h0), (1, .int 1), (2, .int p2), (3, .int 5)]) hx hb dX12_secret_88 hl (k := 0) rfl (by decide +kernel) (by decide) rfl ?_
              clear hl
              clear ls
              intro ls hl
              refine lv_goto (tgt := 63) hx hb dX12_secret_91 (by decide) ?_
              refine lv_iload hx hb dX12_secret_63 (lv_at hl 0 rfl) ?_
              refine lv_iload_n hx hb dX12_secret_65 rfl (lv_at hl 4 rfl) ?_
              refine lv_icmp_ge (tgt := 94) hx hb dX12_secret_66 (by decide) (fun c9 => absurd c9 (by decide +kernel)) (fun _ => ?_)
              refine lv_aload_n hx hb dX12_secret_69 rfl (lv_at hl 1 rfl) ?_
              refine gm_get (D := D) (ci := 12) (v := .ref h58) (C := RX12) (T := TX12) (N := 83) hx hb hg inlX12 hown hK.1 hP 0 rfl rfl 54 (by decide) tX12_54 (hg _ gw_208) rfl dX12_secret_70 ?_
              refine lv_bipush (v := 6) hx hb dX12_secret_73 (by decide +kernel) ?_
              refine lv_iload_n hx hb dX12_secret_75 rfl (lv_at hl 2 rfl) ?_
              refine lv_imul hx hb dX12_secret_76 ?_
              refine g_fi (v := 6) (by decide +kernel) ?_
              refine lv_iload hx hb dX12_secret_77 (lv_at hl 0 rfl) ?_
              refine lv_iadd hx hb dX12_secret_79 ?_
              refine g_fi (v := 9) (by decide +kernel) ?_
              refine lv_iload_n hx hb dX12_secret_80 rfl (lv_at hl 3 rfl) ?_
              refine lv_iload_n hx hb dX12_secret_81 rfl (lv_at hl 4 rfl) ?_
              refine lv_iload hx hb dX12_secret_82 (lv_at hl 0 rfl) ?_
              refine g_ai (wr := [(h0, .inr (12, (.ref h4 :: .int wp22065 :: .int wp22066 :: .ref h7 :: .ref h8 :: .ref h9 :: .ref h10 :: .ref h11 :: .ref h12 :: .ref h13 :: .ref h14 :: .ref h15 :: .int wp22067 :: .ref h17 :: .int wp22068 :: .ref h19 :: .int wp22069 :: .ref h21 :: .ref h22 :: .ref h23 :: .ref h24 :: .ref h25 :: .ref h26 :: .ref h27 :: .ref h28 :: .ref h29 :: .ref h30 :: .ref h31 :: .int wp22070 :: .ref h33 :: .ref h34 :: .ref h35 :: .int wp22071 :: [.ref h37, .ref h38, .ref h39, .ref h40, .ref h41, .ref h42, .ref h43, .ref h44, .ref h45, .ref h46, .ref h47, .ref h48, .ref h49, .ref h50, .ref h51, .int wp22072, .int wp22073, .int wp22074, .int wp22075, .int wp22076, .ref h57, .ref h58, .int wp22077, .ref h60, .int 0, .ref h61, .int wp22078, .ref h63, .ref h64, .int wp22079, .ref h66, .ref h67, .int wp22080, .ref h69, .ref h70, .ref h71, .ref h72, .int wp22081, .int wp22082, .int wp22083, .int wp22084, .ref h77, .ref h78, .ref h79, .ref h80, .ref h81, .ref h82, .ref h83, .ref h84, .ref h85]))), (h57, .inl (y 0, 3, .inl (upd (fun _ => 0) ((1 : Int32).toNatClampNeg) 5))), (h58, .inl (y 0, 18, .inl fn22179))]) (va_runS (As := [.int p2, .int 5, .int 3]) (rest := [.int 9, .ref h58]) ⟨hx, hb, hml, hown, hg⟩ (k_X12_digitOf_12 l D y aS H.size p2) (va_cwS 3 hg ggS_RX12_484_X12_digitOf rfl rfl rfl (by decide +kernel) ⟨Nat.le_of_ble_eq_true rfl, Nat.le_of_ble_eq_true rfl⟩) (g_preS hK hP hD [] rfl (by decide)) rfl rfl hl.1 rfl (lv_room (Nat.le_of_ble_eq_true rfl)) dX12_secret_84 ⟨Nat.le_of_ble_eq_true rfl, Nat.le_of_ble_eq_true rfl⟩) hP hD hS hA [] [0, 1, 2] rfl rfl (by decide) (by decide) ?_
              clear hP hD hS H locs
              refine fun r22180 u H locs hq hP hD hS => ?_
              subst hq
              replace hP : va_P D vwCl [(h0, .inr (12, (.ref h4 :: .int wp22065 :: .int wp22066 :: .ref h7 :: .ref h8 :: .ref h9 :: .ref h10 :: .ref h11 :: .ref h12 :: .ref h13 :: .ref h14 :: .ref h15 :: .int wp22067 :: .ref h17 :: .int wp22068 :: .ref h19 :: .int wp22069 :: .ref h21 :: .ref h22 :: .ref h23 :: .ref h24 :: .ref h25 :: .ref h26 :: .ref h27 :: .ref h28 :: .ref h29 :: .ref h30 :: .ref h31 :: .int wp22070 :: .ref h33 :: .ref h34 :: .ref h35 :: .int wp22071 :: [.ref h37, .ref h38, .ref h39, .ref h40, .ref h41, .ref h42, .ref h43, .ref h44, .ref h45, .ref h46, .ref h47, .ref h48, .ref h49, .ref h50, .ref h51, .int wp22072, .int wp22073, .int wp22074, .int wp22075, .int wp22076, .ref h57, .ref h58, .int wp22077, .ref h60, .int 0, .ref h61, .int wp22078, .ref h63, .ref h64, .int wp22079, .ref h66, .ref h67, .int wp22080, .ref h69, .ref h70, .ref h71, .ref h72, .int wp22081, .int wp22082, .int wp22083, .int wp22084, .ref h77, .ref h78, .ref h79, .ref h80, .ref h81, .ref h82, .ref h83, .ref h84, .ref h85]))), (h57, .inl (y 0, 3, .inl (upd (fun _ => 0) ((1 : Int32).toNatClampNeg) 5))), (h58, .inl (y 0, 18, .inl fn22179))] H := hP
              replace hD : va_D A [(h0, .inr (12, (.ref h4 :: .int wp22065 :: .int wp22066 :: .ref h7 :: .ref h8 :: .ref h9 :: .ref h10 :: .ref h11 :: .ref h12 :: .ref h13 :: .ref h14 :: .ref h15 :: .int wp22067 :: .ref h17 :: .int wp22068 :: .ref h19 :: .int wp22069 :: .ref h21 :: .ref h22 :: .ref h23 :: .ref h24 :: .ref h25 :: .ref h26 :: .ref h27 :: .ref h28 :: .ref h29 :: .ref h30 :: .ref h31 :: .int wp22070 :: .ref h33 :: .ref h34 :: .ref h35 :: .int wp22071 :: [.ref h37, .ref h38, .ref h39, .ref h40, .ref h41, .ref h42, .ref h43, .ref h44, .ref h45, .ref h46, .ref h47, .ref h48, .ref h49, .ref h50, .ref h51, .int wp22072, .int wp22073, .int wp22074, .int wp22075, .int wp22076, .ref h57, .ref h58, .int wp22077, .ref h60, .int 0, .ref h61, .int wp22078, .ref h63, .ref h64, .int wp22079, .ref h66, .ref h67, .int wp22080, .ref h69, .ref h70, .ref h71, .ref h72, .int wp22081, .int wp22082, .int wp22083, .int wp22084, .ref h77, .ref h78, .ref h79, .ref h80, .ref h81, .ref h82, .ref h83, .ref h84, .ref h85]))), (h57, .inl (y 0, 3, .inl (upd (fun _ => 0) ((1 : Int32).toNatClampNeg) 5))), (h58, .inl (y 0, 18, .inl fn22179))] := hD
              refine va_iast hx hb hK.1 hP hD hS 2 0 rfl rfl (by unfold vp_in; decide +kernel) dX12_secret_87 ?_
              clear hP hD hS H locs
              refine fun H locs (hP : va_P D vwCl [(h0, .inr (12, (.ref h4 :: .int wp22065 :: .int wp22066 :: .ref h7 :: .ref h8 :: .ref h9 :: .ref h10 :: .ref h11 :: .ref h12 :: .ref h13 :: .ref h14 :: .ref h15 :: .int wp22067 :: .ref h17 :: .int wp22068 :: .ref h19 :: .int wp22069 :: .ref h21 :: .ref h22 :: .ref h23 :: .ref h24 :: .ref h25 :: .ref h26 :: .ref h27 :: .ref h28 :: .ref h29 :: .ref h30 :: .ref h31 :: .int wp22070 :: .ref h33 :: .ref h34 :: .ref h35 :: .int wp22071 :: [.ref h37, .ref h38, .ref h39, .ref h40, .ref h41, .ref h42, .ref h43, .ref h44, .ref h45, .ref h46, .ref h47, .ref h48, .ref h49, .ref h50, .ref h51, .int wp22072, .int wp22073, .int wp22074, .int wp22075, .int wp22076, .ref h57, .ref h58, .int wp22077, .ref h60, .int 0, .ref h61, .int wp22078, .ref h63, .ref h64, .int wp22079, .ref h66, .ref h67, .int wp22080, .ref h69, .ref h70, .ref h71, .ref h72, .int wp22081, .int wp22082, .int wp22083, .int wp22084, .ref h77, .ref h78, .ref h79, .ref h80, .ref h81, .ref h82, .ref h83, .ref h84, .ref h85]))), (h57, .inl (y 0, 3, .inl (upd (fun _ => 0) ((1 : Int32).toNatClampNeg) 5))), (h58, .inl (y 0, 18, .inl (upd fn22179 ((9 : Int32).toNatClampNeg) ((p2 / 10) - (p2 / 10) / 10 * 10))))] H) (hD : va_D A [(h0, .inr (12, (.ref h4 :: .int wp22065 :: .int wp22066 :: .ref h7 :: .ref h8 :: .ref h9 :: .ref h10 :: .ref h11 :: .ref h12 :: .ref h13 :: .ref h14 :: .ref h15 :: .int wp22067 :: .ref h17 :: .int wp22068 :: .ref h19 :: .int wp22069 :: .ref h21 :: .ref h22 :: .ref h23 :: .ref h24 :: .ref h25 :: .ref h26 :: .ref h27 :: .ref h28 :: .ref h29 :: .ref h30 :: .ref h31 :: .int wp22070 :: .ref h33 :: .ref h34 :: .ref h35 :: .int wp22071 :: [.ref h37, .ref h38, .ref h39, .ref h40, .ref h41, .ref h42, .ref h43, .ref h44, .ref h45, .ref h46, .ref h47, .ref h48, .ref h49, .ref h50, .ref h51, .int wp22072, .int wp22073, .int wp22074, .int wp22075, .int wp22076, .ref h57, .ref h58, .int wp22077, .ref h60, .int 0, .ref h61, .int wp22078, .ref h63, .ref h64, .int wp22079, .ref h66, .ref h67, .int wp22080, .ref h69, .ref h70, .ref h71, .ref h72, .int wp22081, .int wp22082, .int wp22083, .int wp22084, .ref h77, .ref h78, .ref h79, .ref h80, .ref h81, .ref h82, .ref h83, .ref h84, .ref h85]))), (h57, .inl (y 0, 3, .inl (upd (fun _ => 0) ((1 : Int32).toNatClampNeg) 5))), (h58, .inl (y 0, 18, .inl (upd fn22179 ((9 : Int32).toNatClampNeg) ((p2 / 10) - (p2 / 10) / 10 * 10))))]) hS => ?_
              obtain ⟨fn22181, hfn22181⟩ : ∃ f9 : Nat → Int32, f9 = (upd fn22179 ((9 : Int32).toNatClampNeg) ((p2 / 10) - (p2 / 10) / 10 * 10)) := ⟨_, rfl⟩
              rw [← hfn22181] at hP hD
              clear hfn22181
              refine lv_iinc (v := 4) (lv' := [(4, .int 4), (0, .ref h0), (1, .int 1), (2, .int p2), (3, .int 5)]) hx hb dX12_secret_88 hl (k := 0) rfl (by decide +kernel) (by decide) rfl ?_
              clear hl
              clear ls
              intro ls hl
              refine lv_goto (tgt := 63) hx hb dX12_secret_91 (by decide) ?_
              refine lv_iload hx hb dX12_secret_63 (lv_at hl 0 rfl) ?_
              refine lv_iload_n hx hb dX12_secret_65 rfl (lv_at hl 4 rfl) ?_
              refine lv_icmp_ge (tgt := 94) hx hb dX12_secret_66 (by decide) (fun c9 => absurd c9 (by decide +kernel)) (fun _ => ?_)
              refine lv_aload_n hx hb dX12_secret_69 rfl (lv_at hl 1 rfl) ?_
              refine gm_get (D := D) (ci := 12) (v := .ref h58) (C := RX12) (T := TX12) (N := 83) hx hb hg inlX12 hown hK.1 hP 0 rfl rfl 54 (by decide) tX12_54 (hg _ gw_208) rfl dX12_secret_70 ?_
              refine lv_bipush (v := 6) hx hb dX12_secret_73 (by decide +kernel) ?_
              refine lv_iload_n hx hb dX12_secret_75 rfl (lv_at hl 2 rfl) ?_
              refine lv_imul hx hb dX12_secret_76 ?_
              refine g_fi (v := 6) (by decide +kernel) ?_
              refine lv_iload hx hb dX12_secret_77 (lv_at hl 0 rfl) ?_
              refine lv_iadd hx hb dX12_secret_79 ?_
              refine g_fi (v := 10) (by decide +kernel) ?_
              refine lv_iload_n hx hb dX12_secret_80 rfl (lv_at hl 3 rfl) ?_
              refine lv_iload_n hx hb dX12_secret_81 rfl (lv_at hl 4 rfl) ?_
              refine lv_iload hx hb dX12_secret_82 (lv_at hl 0 rfl) ?_
              refine g_ai (wr := [(h0, .inr (12, (.ref h4 :: .int wp22065 :: .int wp22066 :: .ref h7 :: .ref h8 :: .ref h9 :: .ref h10 :: .ref h11 :: .ref h12 :: .ref h13 :: .ref h14 :: .ref h15 :: .int wp22067 :: .ref h17 :: .int wp22068 :: .ref h19 :: .int wp22069 :: .ref h21 :: .ref h22 :: .ref h23 :: .ref h24 :: .ref h25 :: .ref h26 :: .ref h27 :: .ref h28 :: .ref h29 :: .ref h30 :: .ref h31 :: .int wp22070 :: .ref h33 :: .ref h34 :: .ref h35 :: .int wp22071 :: [.ref h37, .ref h38, .ref h39, .ref h40, .ref h41, .ref h42, .ref h43, .ref h44, .ref h45, .ref h46, .ref h47, .ref h48, .ref h49, .ref h50, .ref h51, .int wp22072, .int wp22073, .int wp22074, .int wp22075, .int wp22076, .ref h57, .ref h58, .int wp22077, .ref h60, .int 0, .ref h61, .int wp22078, .ref h63, .ref h64, .int wp22079, .ref h66, .ref h67, .int wp22080, .ref h69, .ref h70, .ref h71, .ref h72, .int wp22081, .int wp22082, .int wp22083, .int wp22084, .ref h77, .ref h78, .ref h79, .ref h80, .ref h81, .ref h82, .ref h83, .ref h84, .ref h85]))), (h57, .inl (y 0, 3, .inl (upd (fun _ => 0) ((1 : Int32).toNatClampNeg) 5))), (h58, .inl (y 0, 18, .inl fn22181))]) (va_runS (As := [.int p2, .int 5, .int 4]) (rest := [.int 10, .ref h58]) ⟨hx, hb, hml, hown, hg⟩ (k_X12_digitOf_13 l D y aS H.size p2) (va_cwS 3 hg ggS_RX12_484_X12_digitOf rfl rfl rfl (by decide +kernel) ⟨Nat.le_of_ble_eq_true rfl, Nat.le_of_ble_eq_true rfl⟩) (g_preS hK hP hD [] rfl (by decide)) rfl rfl hl.1 rfl (lv_room (Nat.le_of_ble_eq_true rfl)) dX12_secret_84 ⟨Nat.le_of_ble_eq_true rfl, Nat.le_of_ble_eq_true rfl⟩) hP hD hS hA [] [0, 1, 2] rfl rfl (by decide) (by decide) ?_
              clear hP hD hS H locs
              refine fun r22182 u H locs hq hP hD hS => ?_
              subst hq
              replace hP : va_P D vwCl [(h0, .inr (12, (.ref h4 :: .int wp22065 :: .int wp22066 :: .ref h7 :: .ref h8 :: .ref h9 :: .ref h10 :: .ref h11 :: .ref h12 :: .ref h13 :: .ref h14 :: .ref h15 :: .int wp22067 :: .ref h17 :: .int wp22068 :: .ref h19 :: .int wp22069 :: .ref h21 :: .ref h22 :: .ref h23 :: .ref h24 :: .ref h25 :: .ref h26 :: .ref h27 :: .ref h28 :: .ref h29 :: .ref h30 :: .ref h31 :: .int wp22070 :: .ref h33 :: .ref h34 :: .ref h35 :: .int wp22071 :: [.ref h37, .ref h38, .ref h39, .ref h40, .ref h41, .ref h42, .ref h43, .ref h44, .ref h45, .ref h46, .ref h47, .ref h48, .ref h49, .ref h50, .ref h51, .int wp22072, .int wp22073, .int wp22074, .int wp22075, .int wp22076, .ref h57, .ref h58, .int wp22077, .ref h60, .int 0, .ref h61, .int wp22078, .ref h63, .ref h64, .int wp22079, .ref h66, .ref h67, .int wp22080, .ref h69, .ref h70, .ref h71, .ref h72, .int wp22081, .int wp22082, .int wp22083, .int wp22084, .ref h77, .ref h78, .ref h79, .ref h80, .ref h81, .ref h82, .ref h83, .ref h84, .ref h85]))), (h57, .inl (y 0, 3, .inl (upd (fun _ => 0) ((1 : Int32).toNatClampNeg) 5))), (h58, .inl (y 0, 18, .inl fn22181))] H := hP
              replace hD : va_D A [(h0, .inr (12, (.ref h4 :: .int wp22065 :: .int wp22066 :: .ref h7 :: .ref h8 :: .ref h9 :: .ref h10 :: .ref h11 :: .ref h12 :: .ref h13 :: .ref h14 :: .ref h15 :: .int wp22067 :: .ref h17 :: .int wp22068 :: .ref h19 :: .int wp22069 :: .ref h21 :: .ref h22 :: .ref h23 :: .ref h24 :: .ref h25 :: .ref h26 :: .ref h27 :: .ref h28 :: .ref h29 :: .ref h30 :: .ref h31 :: .int wp22070 :: .ref h33 :: .ref h34 :: .ref h35 :: .int wp22071 :: [.ref h37, .ref h38, .ref h39, .ref h40, .ref h41, .ref h42, .ref h43, .ref h44, .ref h45, .ref h46, .ref h47, .ref h48, .ref h49, .ref h50, .ref h51, .int wp22072, .int wp22073, .int wp22074, .int wp22075, .int wp22076, .ref h57, .ref h58, .int wp22077, .ref h60, .int 0, .ref h61, .int wp22078, .ref h63, .ref h64, .int wp22079, .ref h66, .ref h67, .int wp22080, .ref h69, .ref h70, .ref h71, .ref h72, .int wp22081, .int wp22082, .int wp22083, .int wp22084, .ref h77, .ref h78, .ref h79, .ref h80, .ref h81, .ref h82, .ref h83, .ref h84, .ref h85]))), (h57, .inl (y 0, 3, .inl (upd (fun _ => 0) ((1 : Int32).toNatClampNeg) 5))), (h58, .inl (y 0, 18, .inl fn22181))] := hD
              refine va_iast hx hb hK.1 hP hD hS 2 0 rfl rfl (by unfold vp_in; decide +kernel) dX12_secret_87 ?_
              clear hP hD hS H locs
              refine fun H locs (hP : va_P D vwCl [(h0, .inr (12, (.ref h4 :: .int wp22065 :: .int wp22066 :: .ref h7 :: .ref h8 :: .ref h9 :: .ref h10 :: .ref h11 :: .ref h12 :: .ref h13 :: .ref h14 :: .ref h15 :: .int wp22067 :: .ref h17 :: .int wp22068 :: .ref h19 :: .int wp22069 :: .ref h21 :: .ref h22 :: .ref h23 :: .ref h24 :: .ref h25 :: .ref h26 :: .ref h27 :: .ref h28 :: .ref h29 :: .ref h30 :: .ref h31 :: .int wp22070 :: .ref h33 :: .ref h34 :: .ref h35 :: .int wp22071 :: [.ref h37, .ref h38, .ref h39, .ref h40, .ref h41, .ref h42, .ref h43, .ref h44, .ref h45, .ref h46, .ref h47, .ref h48, .ref h49, .ref h50, .ref h51, .int wp22072, .int wp22073, .int wp22074, .int wp22075, .int wp22076, .ref h57, .ref h58, .int wp22077, .ref h60, .int 0, .ref h61, .int wp22078, .ref h63, .ref h64, .int wp22079, .ref h66, .ref h67, .int wp22080, .ref h69, .ref h70, .ref h71, .ref h72, .int wp22081, .int wp22082, .int wp22083, .int wp22084, .ref h77, .ref h78, .ref h79, .ref h80, .ref h81, .ref h82, .ref h83, .ref h84, .ref h85]))), (h57, .inl (y 0, 3, .inl (upd (fun _ => 0) ((1 : Int32).toNatClampNeg) 5))), (h58, .inl (y 0, 18, .inl (upd fn22181 ((10 : Int32).toNatClampNeg) ((p2 / 1) - (p2 / 1) / 10 * 10))))] H) (hD : va_D A [(h0, .inr (12, (.ref h4 :: .int wp22065 :: .int wp22066 :: .ref h7 :: .ref h8 :: .ref h9 :: .ref h10 :: .ref h11 :: .ref h12 :: .ref h13 :: .ref h14 :: .ref h15 :: .int wp22067 :: .ref h17 :: .int wp22068 :: .ref h19 :: .int wp22069 :: .ref h21 :: .ref h22 :: .ref h23 :: .ref h24 :: .ref h25 :: .ref h26 :: .ref h27 :: .ref h28 :: .ref h29 :: .ref h30 :: .ref h31 :: .int wp22070 :: .ref h33 :: .ref h34 :: .ref h35 :: .int wp22071 :: [.ref h37, .ref h38, .ref h39, .ref h40, .ref h41, .ref h42, .ref h43, .ref h44, .ref h45, .ref h46, .ref h47, .ref h48, .ref h49, .ref h50, .ref h51, .int wp22072, .int wp22073, .int wp22074, .int wp22075, .int wp22076, .ref h57, .ref h58, .int wp22077, .ref h60, .int 0, .ref h61, .int wp22078, .ref h63, .ref h64, .int wp22079, .ref h66, .ref h67, .int wp22080, .ref h69, .ref h70, .ref h71, .ref h72, .int wp22081, .int wp22082, .int wp22083, .int wp22084, .ref h77, .ref h78, .ref h79, .ref h80, .ref h81, .ref h82, .ref h83, .ref h84, .ref h85]))), (h57, .inl (y 0, 3, .inl (upd (fun _ => 0) ((1 : Int32).toNatClampNeg) 5))), (h58, .inl (y 0, 18, .inl (upd fn22181 ((10 : Int32).toNatClampNeg) ((p2 / 1) - (p2 / 1) / 10 * 10))))]) hS => ?_
              obtain ⟨fn22183, hfn22183⟩ : ∃ f9 : Nat → Int32, f9 = (upd fn22181 ((10 : Int32).toNatClampNeg) ((p2 / 1) - (p2 / 1) / 10 * 10)) := ⟨_, rfl⟩
              rw [← hfn22183] at hP hD
              clear hfn22183
              refine lv_iinc (v := 5) (lv' := [(4, .int 5), (0, .ref h0), (1, .int 1), (2, .int p2), (3, .int 5)]) hx hb dX12_secret_88 hl (k := 0) rfl (by decide +kernel) (by decide) rfl ?_
              clear hl
              clear ls
              intro ls hl
              refine lv_goto (tgt := 63) hx hb dX12_secret_91 (by decide) ?_
              refine lv_iload hx hb dX12_secret_63 (lv_at hl 0 rfl) ?_
              refine lv_iload_n hx hb dX12_secret_65 rfl (lv_at hl 4 rfl) ?_
              refine lv_icmp_ge (tgt := 94) hx hb dX12_secret_66 (by decide) (fun _ => ?_) (fun c9 => absurd c9 (by decide +kernel))
              refine lv_iconst (v := 0) hx hb dX12_secret_94 (by decide) ?_
              refine lv_istore (lv' := [(4, .int 0), (0, .ref h0), (1, .int 1), (2, .int p2), (3, .int 5)]) hx hb dX12_secret_95 hl (by decide) rfl ?_
              clear hl
              clear ls
              intro ls hl
              refine lv_iconst (v := 0) hx hb dX12_secret_97 (by decide) ?_
              refine lv_istore (lv' := [(5, .int 0), (4, .int 0), (0, .ref h0), (1, .int 1), (2, .int p2), (3, .int 5)]) hx hb dX12_secret_98 hl (by decide) rfl ?_
              clear hl
              clear ls
              intro ls hl
              refine lv_iload hx hb dX12_secret_100 (lv_at hl 0 rfl) ?_
              refine lv_iconst (v := 3) hx hb dX12_secret_102 (by decide) ?_
              refine lv_icmp_ge (tgt := 132) hx hb dX12_secret_103 (by decide) (fun c9 => absurd c9 (by decide +kernel)) (fun _ => ?_)
              refine lv_iload hx hb dX12_secret_106 (lv_at hl 1 rfl) ?_
              refine lv_aload_n hx hb dX12_secret_108 rfl (lv_at hl 2 rfl) ?_
              refine gm_get (D := D) (ci := 12) (v := .ref h57) (C := RX12) (T := TX12) (N := 83) hx hb hg inlX12 hown hK.1 hP 0 rfl rfl 53 (by decide) tX12_53 (hg _ gw_207) rfl dX12_secret_109 ?_
              refine lv_iload hx hb dX12_secret_112 (lv_at hl 0 rfl) ?_
              refine va_iald hx hb hK.1 hP 1 0 rfl rfl (by unfold vp_in; decide +kernel) dX12_secret_114 ?_
              refine g_fi (v := 0) (by rfl) ?_
              refine lv_if_le (tgt := 122) hx hb dX12_secret_115 (by decide) (fun _ => ?_) (fun c9 => absurd c9 (by decide +kernel))
              refine lv_iconst (v := 0) hx hb dX12_secret_122 (by decide) ?_
              refine lv_iadd hx hb dX12_secret_123 ?_
              refine g_fi (v := 0) (by decide +kernel) ?_
              refine lv_istore (lv' := [(4, .int 0), (5, .int 0), (0, .ref h0), (1, .int 1), (2, .int p2), (3, .int 5)]) hx hb dX12_secret_124 hl (by decide) rfl ?_
              clear hl
              clear ls
              intro ls hl
              refine lv_iinc (v := 1) (lv' := [(5, .int 1), (4, .int 0), (0, .ref h0), (1, .int 1), (2, .int p2), (3, .int 5)]) hx hb dX12_secret_126 hl (k := 1) rfl (by decide +kernel) (by decide) rfl ?_
              clear hl
              clear ls
              intro ls hl
              refine lv_goto (tgt := 100) hx hb dX12_secret_129 (by decide) ?_
              refine lv_iload hx hb dX12_secret_100 (lv_at hl 0 rfl) ?_
              refine lv_iconst (v := 3) hx hb dX12_secret_102 (by decide) ?_
              refine lv_icmp_ge (tgt := 132) hx hb dX12_secret_103 (by decide) (fun c9 => absurd c9 (by decide +kernel)) (fun _ => ?_)
              refine lv_iload hx hb dX12_secret_106 (lv_at hl 1 rfl) ?_
              refine lv_aload_n hx hb dX12_secret_108 rfl (lv_at hl 2 rfl) ?_
              refine gm_get (D := D) (ci := 12) (v := .ref h57) (C := RX12) (T := TX12) (N := 83) hx hb hg inlX12 hown hK.1 hP 0 rfl rfl 53 (by decide) tX12_53 (hg _ gw_207) rfl dX12_secret_109 ?_
              refine lv_iload hx hb dX12_secret_112 (lv_at hl 0 rfl) ?_
              refine va_iald hx hb hK.1 hP 1 0 rfl rfl (by unfold vp_in; decide +kernel) dX12_secret_114 ?_
              refine g_fi (v := 5) (by rfl) ?_
              refine lv_if_le (tgt := 122) hx hb dX12_secret_115 (by decide) (fun c9 => absurd c9 (by decide +kernel)) (fun _ => ?_)
              refine lv_iconst (v := 1) hx hb dX12_secret_118 (by decide) ?_
              refine lv_goto (tgt := 123) hx hb dX12_secret_119 (by decide) ?_
              refine lv_iadd hx hb dX12_secret_123 ?_
              refine g_fi (v := 1) (by decide +kernel) ?_
              refine lv_istore (lv' := [(4, .int 1), (5, .int 1), (0, .ref h0), (1, .int 1), (2, .int p2), (3, .int 5)]) hx hb dX12_secret_124 hl (by decide) rfl ?_
              clear hl
              clear ls
              intro ls hl
              refine lv_iinc (v := 2) (lv' := [(5, .int 2), (4, .int 1), (0, .ref h0), (1, .int 1), (2, .int p2), (3, .int 5)]) hx hb dX12_secret_126 hl (k := 1) rfl (by decide +kernel) (by decide) rfl ?_
              clear hl
              clear ls
              intro ls hl
              refine lv_goto (tgt := 100) hx hb dX12_secret_129 (by decide) ?_
              refine lv_iload hx hb dX12_secret_100 (lv_at hl 0 rfl) ?_
              refine lv_iconst (v := 3) hx hb dX12_secret_102 (by decide) ?_
              refine lv_icmp_ge (tgt := 132) hx hb dX12_secret_103 (by decide) (fun c9 => absurd c9 (by decide +kernel)) (fun _ => ?_)
              refine lv_iload hx hb dX12_secret_106 (lv_at hl 1 rfl) ?_
              refine lv_aload_n hx hb dX12_secret_108 rfl (lv_at hl 2 rfl) ?_
              refine gm_get (D := D) (ci := 12) (v := .ref h57) (C := RX12) (T := TX12) (N := 83) hx hb hg inlX12 hown hK.1 hP 0 rfl rfl 53 (by decide) tX12_53 (hg _ gw_207) rfl dX12_secret_109 ?_
              refine lv_iload hx hb dX12_secret_112 (lv_at hl 0 rfl) ?_
              refine va_iald hx hb hK.1 hP 1 0 rfl rfl (by unfold vp_in; decide +kernel) dX12_secret_114 ?_
              refine g_fi (v := 0) (by rfl) ?_
              refine lv_if_le (tgt := 122) hx hb dX12_secret_115 (by decide) (fun _ => ?_) (fun c9 => absurd c9 (by decide +kernel))
              refine lv_iconst (v := 0) hx hb dX12_secret_122 (by decide) ?_
              refine lv_iadd hx hb dX12_secret_123 ?_
              refine g_fi (v := 1) (by decide +kernel) ?_
              refine lv_istore (lv' := [(4, .int 1), (5, .int 2), (0, .ref h0), (1, .int 1), (2, .int p2), (3, .int 5)]) hx hb dX12_secret_124 hl (by decide) rfl ?_
              clear hl
              clear ls
              intro ls hl
              refine lv_iinc (v := 3) (lv' := [(5, .int 3), (4, .int 1), (0, .ref h0), (1, .int 1), (2, .int p2), (3, .int 5)]) hx hb dX12_secret_126 hl (k := 1) rfl (by decide +kernel) (by decide) rfl ?_
              clear hl
              clear ls
              intro ls hl
              refine lv_goto (tgt := 100) hx hb dX12_secret_129 (by decide) ?_
              refine lv_iload hx hb dX12_secret_100 (lv_at hl 0 rfl) ?_
              refine lv_iconst (v := 3) hx hb dX12_secret_102 (by decide) ?_
              refine lv_icmp_ge (tgt := 132) hx hb dX12_secret_103 (by decide) (fun _ => ?_) (fun c9 => absurd c9 (by decide +kernel))
              refine lv_iload hx hb dX12_secret_132 (lv_at hl 1 rfl) ?_
              exact g_iret hx hb hr hlocks ⟨0, (upd (fun _ => 0) ((1 : Int32).toNatClampNeg) 5), fn22183⟩ hP hD hS rfl (Or.inr (Or.inr (Or.inr (Or.inr (Or.inr (Or.inr (Or.inr (Or.inr (Or.inr (Or.inr (Or.inr (Or.inr (Or.inr (Or.inr (Or.inr (Or.inr (Or.inr (Or.inr (Or.inl ⟨rfl, rfl, rfl, (by first | omega | (simp_all; done)), (by first | omega | (simp_all; done)), (by first | omega | (simp_all; done)), (by first | omega | (simp_all; done)), (by first | omega | (simp_all; done)), (by first | omega | (simp_all; done))⟩))))))))))))))))))) (Nat.le_of_ble_eq_true rfl) (Nat.le_of_ble_eq_true rfl) dX12_secret_134
            ·
              refine lv_aload_n hx hb dX12_secret_53 rfl (lv_at hl 0 rfl) ?_
              refine gm_get (D := D) (ci := 12) (v := .ref h57) (C := RX12) (T := TX12) (N := 83) hx hb hg inlX12 hown hK.1 hP 0 rfl rfl 53 (by decide) tX12_53 (hg _ gw_207) rfl dX12_secret_54 ?_
              refine lv_iload_n hx hb dX12_secret_57 rfl (lv_at hl 1 rfl) ?_
              refine lv_iload_n hx hb dX12_secret_58 rfl (lv_at hl 3 rfl) ?_
              refine va_iast hx hb hK.1 hP hD hS 1 0 rfl rfl (by unfold vp_in; decide +kernel) dX12_secret_59 ?_
              clear hP hD hS H locs
              refine fun H locs (hP : va_P D vwCl [(h0, .inr (12, (.ref h4 :: .int wp22065 :: .int wp22066 :: .ref h7 :: .ref h8 :: .ref h9 :: .ref h10 :: .ref h11 :: .ref h12 :: .ref h13 :: .ref h14 :: .ref h15 :: .int wp22067 :: .ref h17 :: .int wp22068 :: .ref h19 :: .int wp22069 :: .ref h21 :: .ref h22 :: .ref h23 :: .ref h24 :: .ref h25 :: .ref h26 :: .ref h27 :: .ref h28 :: .ref h29 :: .ref h30 :: .ref h31 :: .int wp22070 :: .ref h33 :: .ref h34 :: .ref h35 :: .int wp22071 :: [.ref h37, .ref h38, .ref h39, .ref h40, .ref h41, .ref h42, .ref h43, .ref h44, .ref h45, .ref h46, .ref h47, .ref h48, .ref h49, .ref h50, .ref h51, .int wp22072, .int wp22073, .int wp22074, .int wp22075, .int wp22076, .ref h57, .ref h58, .int wp22077, .ref h60, .int 0, .ref h61, .int wp22078, .ref h63, .ref h64, .int wp22079, .ref h66, .ref h67, .int wp22080, .ref h69, .ref h70, .ref h71, .ref h72, .int wp22081, .int wp22082, .int wp22083, .int wp22084, .ref h77, .ref h78, .ref h79, .ref h80, .ref h81, .ref h82, .ref h83, .ref h84, .ref h85]))), (h57, .inl (y 0, 3, .inl (upd (fun _ => 0) ((2 : Int32).toNatClampNeg) 5))), (h58, .inl (y 0, 18, .inl wf22085))] H) (hD : va_D A [(h0, .inr (12, (.ref h4 :: .int wp22065 :: .int wp22066 :: .ref h7 :: .ref h8 :: .ref h9 :: .ref h10 :: .ref h11 :: .ref h12 :: .ref h13 :: .ref h14 :: .ref h15 :: .int wp22067 :: .ref h17 :: .int wp22068 :: .ref h19 :: .int wp22069 :: .ref h21 :: .ref h22 :: .ref h23 :: .ref h24 :: .ref h25 :: .ref h26 :: .ref h27 :: .ref h28 :: .ref h29 :: .ref h30 :: .ref h31 :: .int wp22070 :: .ref h33 :: .ref h34 :: .ref h35 :: .int wp22071 :: [.ref h37, .ref h38, .ref h39, .ref h40, .ref h41, .ref h42, .ref h43, .ref h44, .ref h45, .ref h46, .ref h47, .ref h48, .ref h49, .ref h50, .ref h51, .int wp22072, .int wp22073, .int wp22074, .int wp22075, .int wp22076, .ref h57, .ref h58, .int wp22077, .ref h60, .int 0, .ref h61, .int wp22078, .ref h63, .ref h64, .int wp22079, .ref h66, .ref h67, .int wp22080, .ref h69, .ref h70, .ref h71, .ref h72, .int wp22081, .int wp22082, .int wp22083, .int wp22084, .ref h77, .ref h78, .ref h79, .ref h80, .ref h81, .ref h82, .ref h83, .ref h84, .ref h85]))), (h57, .inl (y 0, 3, .inl (upd (fun _ => 0) ((2 : Int32).toNatClampNeg) 5))), (h58, .inl (y 0, 18, .inl wf22085))]) hS => ?_
              refine lv_iconst (v := 0) hx hb dX12_secret_60 (by decide) ?_
              refine lv_istore (lv' := [(4, .int 0), (0, .ref h0), (1, .int 2), (2, .int p2), (3, .int 5)]) hx hb dX12_secret_61 hl (by decide) rfl ?_
              clear hl
              clear ls
              intro ls hl
              refine lv_iload hx hb dX12_secret_63 (lv_at hl 0 rfl) ?_
              refine lv_iload_n hx hb dX12_secret_65 rfl (lv_at hl 4 rfl) ?_
              refine lv_icmp_ge (tgt := 94) hx hb dX12_secret_66 (by decide) (fun c9 => absurd c9 (by decide +kernel)) (fun _ => ?_)
              refine lv_aload_n hx hb dX12_secret_69 rfl (lv_at hl 1 rfl) ?_
              refine gm_get (D := D) (ci := 12) (v := .ref h58) (C := RX12) (T := TX12) (N := 83) hx hb hg inlX12 hown hK.1 hP 0 rfl rfl 54 (by decide) tX12_54 (hg _ gw_208) rfl dX12_secret_70 ?_
              refine lv_bipush (v := 6) hx hb dX12_secret_73 (by decide +kernel) ?_
              refine lv_iload_n hx hb dX12_secret_75 rfl (lv_at hl 2 rfl) ?_
              refine lv_imul hx hb dX12_secret_76 ?_
              refine g_fi (v := 12) (by decide +kernel) ?_
              refine lv_iload hx hb dX12_secret_77 (lv_at hl 0 rfl) ?_
              refine lv_iadd hx hb dX12_secret_79 ?_
              refine g_fi (v := 12) (by decide +kernel) ?_
              refine lv_iload_n hx hb dX12_secret_80 rfl (lv_at hl 3 rfl) ?_
              refine lv_iload_n hx hb dX12_secret_81 rfl (lv_at hl 4 rfl) ?_
              refine lv_iload hx hb dX12_secret_82 (lv_at hl 0 rfl) ?_
              refine g_ai (wr := [(h0, .inr (12, (.ref h4 :: .int wp22065 :: .int wp22066 :: .ref h7 :: .ref h8 :: .ref h9 :: .ref h10 :: .ref h11 :: .ref h12 :: .ref h13 :: .ref h14 :: .ref h15 :: .int wp22067 :: .ref h17 :: .int wp22068 :: .ref h19 :: .int wp22069 :: .ref h21 :: .ref h22 :: .ref h23 :: .ref h24 :: .ref h25 :: .ref h26 :: .ref h27 :: .ref h28 :: .ref h29 :: .ref h30 :: .ref h31 :: .int wp22070 :: .ref h33 :: .ref h34 :: .ref h35 :: .int wp22071 :: [.ref h37, .ref h38, .ref h39, .ref h40, .ref h41, .ref h42, .ref h43, .ref h44, .ref h45, .ref h46, .ref h47, .ref h48, .ref h49, .ref h50, .ref h51, .int wp22072, .int wp22073, .int wp22074, .int wp22075, .int wp22076, .ref h57, .ref h58, .int wp22077, .ref h60, .int 0, .ref h61, .int wp22078, .ref h63, .ref h64, .int wp22079, .ref h66, .ref h67, .int wp22080, .ref h69, .ref h70, .ref h71, .ref h72, .int wp22081, .int wp22082, .int wp22083, .int wp22084, .ref h77, .ref h78, .ref h79, .ref h80, .ref h81, .ref h82, .ref h83, .ref h84, .ref h85]))), (h57, .inl (y 0, 3, .inl (upd (fun _ => 0) ((2 : Int32).toNatClampNeg) 5))), (h58, .inl (y 0, 18, .inl wf22085))]) (va_runS (As := [.int p2, .int 5, .int 0]) (rest := [.int 12, .ref h58]) ⟨hx, hb, hml, hown, hg⟩ (k_X12_digitOf_9 l D y aS H.size p2) (va_cwS 3 hg ggS_RX12_484_X12_digitOf rfl rfl rfl (by decide +kernel) ⟨Nat.le_of_ble_eq_true rfl, Nat.le_of_ble_eq_true rfl⟩) (g_preS hK hP hD [] rfl (by decide)) rfl rfl hl.1 rfl (lv_room (Nat.le_of_ble_eq_true rfl)) dX12_secret_84 ⟨Nat.le_of_ble_eq_true rfl, Nat.le_of_ble_eq_true rfl⟩) hP hD hS hA [] [0, 1, 2] rfl rfl (by decide) (by decide) ?_
              clear hP hD hS H locs
              refine fun r22184 u H locs hq hP hD hS => ?_
              subst hq
              replace hP : va_P D vwCl [(h0, .inr (12, (.ref h4 :: .int wp22065 :: .int wp22066 :: .ref h7 :: .ref h8 :: .ref h9 :: .ref h10 :: .ref h11 :: .ref h12 :: .ref h13 :: .ref h14 :: .ref h15 :: .int wp22067 :: .ref h17 :: .int wp22068 :: .ref h19 :: .int wp22069 :: .ref h21 :: .ref h22 :: .ref h23 :: .ref h24 :: .ref h25 :: .ref h26 :: .ref h27 :: .ref h28 :: .ref h29 :: .ref h30 :: .ref h31 :: .int wp22070 :: .ref h33 :: .ref h34 :: .ref h35 :: .int wp22071 :: [.ref h37, .ref h38, .ref h39, .ref h40, .ref h41, .ref h42, .ref h43, .ref h44, .ref h45, .ref h46, .ref h47, .ref h48, .ref h49, .ref h50, .ref h51, .int wp22072, .int wp22073, .int wp22074, .int wp22075, .int wp22076, .ref h57, .ref h58, .int wp22077, .ref h60, .int 0, .ref h61, .int wp22078, .ref h63, .ref h64, .int wp22079, .ref h66, .ref h67, .int wp22080, .ref h69, .ref h70, .ref h71, .ref h72, .int wp22081, .int wp22082, .int wp22083, .int wp22084, .ref h77, .ref h78, .ref h79, .ref h80, .ref h81, .ref h82, .ref h83, .ref h84, .ref h85]))), (h57, .inl (y 0, 3, .inl (upd (fun _ => 0) ((2 : Int32).toNatClampNeg) 5))), (h58, .inl (y 0, 18, .inl wf22085))] H := hP
              replace hD : va_D A [(h0, .inr (12, (.ref h4 :: .int wp22065 :: .int wp22066 :: .ref h7 :: .ref h8 :: .ref h9 :: .ref h10 :: .ref h11 :: .ref h12 :: .ref h13 :: .ref h14 :: .ref h15 :: .int wp22067 :: .ref h17 :: .int wp22068 :: .ref h19 :: .int wp22069 :: .ref h21 :: .ref h22 :: .ref h23 :: .ref h24 :: .ref h25 :: .ref h26 :: .ref h27 :: .ref h28 :: .ref h29 :: .ref h30 :: .ref h31 :: .int wp22070 :: .ref h33 :: .ref h34 :: .ref h35 :: .int wp22071 :: [.ref h37, .ref h38, .ref h39, .ref h40, .ref h41, .ref h42, .ref h43, .ref h44, .ref h45, .ref h46, .ref h47, .ref h48, .ref h49, .ref h50, .ref h51, .int wp22072, .int wp22073, .int wp22074, .int wp22075, .int wp22076, .ref h57, .ref h58, .int wp22077, .ref h60, .int 0, .ref h61, .int wp22078, .ref h63, .ref h64, .int wp22079, .ref h66, .ref h67, .int wp22080, .ref h69, .ref h70, .ref h71, .ref h72, .int wp22081, .int wp22082, .int wp22083, .int wp22084, .ref h77, .ref h78, .ref h79, .ref h80, .ref h81, .ref h82, .ref h83, .ref h84, .ref h85]))), (h57, .inl (y 0, 3, .inl (upd (fun _ => 0) ((2 : Int32).toNatClampNeg) 5))), (h58, .inl (y 0, 18, .inl wf22085))] := hD
              refine va_iast hx hb hK.1 hP hD hS 2 0 rfl rfl (by unfold vp_in; decide +kernel) dX12_secret_87 ?_
              clear hP hD hS H locs
              refine fun H locs (hP : va_P D vwCl [(h0, .inr (12, (.ref h4 :: .int wp22065 :: .int wp22066 :: .ref h7 :: .ref h8 :: .ref h9 :: .ref h10 :: .ref h11 :: .ref h12 :: .ref h13 :: .ref h14 :: .ref h15 :: .int wp22067 :: .ref h17 :: .int wp22068 :: .ref h19 :: .int wp22069 :: .ref h21 :: .ref h22 :: .ref h23 :: .ref h24 :: .ref h25 :: .ref h26 :: .ref h27 :: .ref h28 :: .ref h29 :: .ref h30 :: .ref h31 :: .int wp22070 :: .ref h33 :: .ref h34 :: .ref h35 :: .int wp22071 :: [.ref h37, .ref h38, .ref h39, .ref h40, .ref h41, .ref h42, .ref h43, .ref h44, .ref h45, .ref h46, .ref h47, .ref h48, .ref h49, .ref h50, .ref h51, .int wp22072, .int wp22073, .int wp22074, .int wp22075, .int wp22076, .ref h57, .ref h58, .int wp22077, .ref h60, .int 0, .ref h61, .int wp22078, .ref h63, .ref h64, .int wp22079, .ref h66, .ref h67, .int wp22080, .ref h69, .ref h70, .ref h71, .ref h72, .int wp22081, .int wp22082, .int wp22083, .int wp22084, .ref h77, .ref h78, .ref h79, .ref h80, .ref h81, .ref h82, .ref h83, .ref h84, .ref h85]))), (h57, .inl (y 0, 3, .inl (upd (fun _ => 0) ((2 : Int32).toNatClampNeg) 5))), (h58, .inl (y 0, 18, .inl (upd wf22085 ((12 : Int32).toNatClampNeg) ((p2 / 10000) - (p2 / 10000) / 10 * 10))))] H) (hD : va_D A [(h0, .inr (12, (.ref h4 :: .int wp22065 :: .int wp22066 :: .ref h7 :: .ref h8 :: .ref h9 :: .ref h10 :: .ref h11 :: .ref h12 :: .ref h13 :: .ref h14 :: .ref h15 :: .int wp22067 :: .ref h17 :: .int wp22068 :: .ref h19 :: .int wp22069 :: .ref h21 :: .ref h22 :: .ref h23 :: .ref h24 :: .ref h25 :: .ref h26 :: .ref h27 :: .ref h28 :: .ref h29 :: .ref h30 :: .ref h31 :: .int wp22070 :: .ref h33 :: .ref h34 :: .ref h35 :: .int wp22071 :: [.ref h37, .ref h38, .ref h39, .ref h40, .ref h41, .ref h42, .ref h43, .ref h44, .ref h45, .ref h46, .ref h47, .ref h48, .ref h49, .ref h50, .ref h51, .int wp22072, .int wp22073, .int wp22074, .int wp22075, .int wp22076, .ref h57, .ref h58, .int wp22077, .ref h60, .int 0, .ref h61, .int wp22078, .ref h63, .ref h64, .int wp22079, .ref h66, .ref h67, .int wp22080, .ref h69, .ref h70, .ref h71, .ref h72, .int wp22081, .int wp22082, .int wp22083, .int wp22084, .ref h77, .ref h78, .ref h79, .ref h80, .ref h81, .ref h82, .ref h83, .ref h84, .ref h85]))), (h57, .inl (y 0, 3, .inl (upd (fun _ => 0) ((2 : Int32).toNatClampNeg) 5))), (h58, .inl (y 0, 18, .inl (upd wf22085 ((12 : Int32).toNatClampNeg) ((p2 / 10000) - (p2 / 10000) / 10 * 10))))]) hS => ?_
              obtain ⟨fn22185, hfn22185⟩ : ∃ f9 : Nat → Int32, f9 = (upd wf22085 ((12 : Int32).toNatClampNeg) ((p2 / 10000) - (p2 / 10000) / 10 * 10)) := ⟨_, rfl⟩
              rw [← hfn22185] at hP hD
              clear hfn22185
              refine lv_iinc (v := 1) (lv' := [(4, .int 1), (0, .ref h0), (1, .int 2), (2, .int p2), (3, .int 5)]) hx hb dX12_secret_88 hl (k := 0) rfl (by decide +kernel) (by decide) rfl ?_
              clear hl
              clear ls
              intro ls hl
              refine lv_goto (tgt := 63) hx hb dX12_secret_91 (by decide) ?_
              refine lv_iload hx hb dX12_secret_63 (lv_at hl 0 rfl) ?_
              refine lv_iload_n hx hb dX12_secret_65 rfl (lv_at hl 4 rfl) ?_
              refine lv_icmp_ge (tgt := 94) hx hb dX12_secret_66 (by decide) (fun c9 => absurd c9 (by decide +kernel)) (fun _ => ?_)
              refine lv_aload_n hx hb dX12_secret_69 rfl (lv_at hl 1 rfl) ?_
              refine gm_get (D := D) (ci := 12) (v := .ref h58) (C := RX12) (T := TX12) (N := 83) hx hb hg inlX12 hown hK.1 hP 0 rfl rfl 54 (by decide) tX12_54 (hg _ gw_208) rfl dX12_secret_70 ?_
              refine lv_bipush (v := 6) hx hb dX12_secret_73 (by decide +kernel) ?_
              refine lv_iload_n hx hb dX12_secret_75 rfl (lv_at hl 2 rfl) ?_
              refine lv_imul hx hb dX12_secret_76 ?_
              refine g_fi (v := 12) (by decide +kernel) ?_
              refine lv_iload hx hb dX12_secret_77 (lv_at hl 0 rfl) ?_
              refine lv_iadd hx hb dX12_secret_79 ?_
              refine g_fi (v := 13) (by decide +kernel) ?_
              refine lv_iload_n hx hb dX12_secret_80 rfl (lv_at hl 3 rfl) ?_
              refine lv_iload_n hx hb dX12_secret_81 rfl (lv_at hl 4 rfl) ?_
              refine lv_iload hx hb dX12_secret_82 (lv_at hl 0 rfl) ?_
              refine g_ai (wr := [(h0, .inr (12, (.ref h4 :: .int wp22065 :: .int wp22066 :: .ref h7 :: .ref h8 :: .ref h9 :: .ref h10 :: .ref h11 :: .ref h12 :: .ref h13 :: .ref h14 :: .ref h15 :: .int wp22067 :: .ref h17 :: .int wp22068 :: .ref h19 :: .int wp22069 :: .ref h21 :: .ref h22 :: .ref h23 :: .ref h24 :: .ref h25 :: .ref h26 :: .ref h27 :: .ref h28 :: .ref h29 :: .ref h30 :: .ref h31 :: .int wp22070 :: .ref h33 :: .ref h34 :: .ref h35 :: .int wp22071 :: [.ref h37, .ref h38, .ref h39, .ref h40, .ref h41, .ref h42, .ref h43, .ref h44, .ref h45, .ref h46, .ref h47, .ref h48, .ref h49, .ref h50, .ref h51, .int wp22072, .int wp22073, .int wp22074, .int wp22075, .int wp22076, .ref h57, .ref h58, .int wp22077, .ref h60, .int 0, .ref h61, .int wp22078, .ref h63, .ref h64, .int wp22079, .ref h66, .ref h67, .int wp22080, .ref h69, .ref h70, .ref h71, .ref h72, .int wp22081, .int wp22082, .int wp22083, .int wp22084, .ref h77, .ref h78, .ref h79, .ref h80, .ref h81, .ref h82, .ref h83, .ref h84, .ref h85]))), (h57, .inl (y 0, 3, .inl (upd (fun _ => 0) ((2 : Int32).toNatClampNeg) 5))), (h58, .inl (y 0, 18, .inl fn22185))]) (va_runS (As := [.int p2, .int 5, .int 1]) (rest := [.int 13, .ref h58]) ⟨hx, hb, hml, hown, hg⟩ (k_X12_digitOf_10 l D y aS H.size p2) (va_cwS 3 hg ggS_RX12_484_X12_digitOf rfl rfl rfl (by decide +kernel) ⟨Nat.le_of_ble_eq_true rfl, Nat.le_of_ble_eq_true rfl⟩) (g_preS hK hP hD [] rfl (by decide)) rfl rfl hl.1 rfl (lv_room (Nat.le_of_ble_eq_true rfl)) dX12_secret_84 ⟨Nat.le_of_ble_eq_true rfl, Nat.le_of_ble_eq_true rfl⟩) hP hD hS hA [] [0, 1, 2] rfl rfl (by decide) (by decide) ?_
              clear hP hD hS H locs
              refine fun r22186 u H locs hq hP hD hS => ?_
              subst hq
              replace hP : va_P D vwCl [(h0, .inr (12, (.ref h4 :: .int wp22065 :: .int wp22066 :: .ref h7 :: .ref h8 :: .ref h9 :: .ref h10 :: .ref h11 :: .ref h12 :: .ref h13 :: .ref h14 :: .ref h15 :: .int wp22067 :: .ref h17 :: .int wp22068 :: .ref h19 :: .int wp22069 :: .ref h21 :: .ref h22 :: .ref h23 :: .ref h24 :: .ref h25 :: .ref h26 :: .ref h27 :: .ref h28 :: .ref h29 :: .ref h30 :: .ref h31 :: .int wp22070 :: .ref h33 :: .ref h34 :: .ref h35 :: .int wp22071 :: [.ref h37, .ref h38, .ref h39, .ref h40, .ref h41, .ref h42, .ref h43, .ref h44, .ref h45, .ref h46, .ref h47, .ref h48, .ref h49, .ref h50, .ref h51, .int wp22072, .int wp22073, .int wp22074, .int wp22075, .int wp22076, .ref h57, .ref h58, .int wp22077, .ref h60, .int 0, .ref h61, .int wp22078, .ref h63, .ref h64, .int wp22079, .ref h66, .ref h67, .int wp22080, .ref h69, .ref h70, .ref h71, .ref h72, .int wp22081, .int wp22082, .int wp22083, .int wp22084, .ref h77, .ref h78, .ref h79, .ref h80, .ref h81, .ref h82, .ref h83, .ref h84, .ref h85]))), (h57, .inl (y 0, 3, .inl (upd (fun _ => 0) ((2 : Int32).toNatClampNeg) 5))), (h58, .inl (y 0, 18, .inl fn22185))] H := hP
              replace hD : va_D A [(h0, .inr (12, (.ref h4 :: .int wp22065 :: .int wp22066 :: .ref h7 :: .ref h8 :: .ref h9 :: .ref h10 :: .ref h11 :: .ref h12 :: .ref h13 :: .ref h14 :: .ref h15 :: .int wp22067 :: .ref h17 :: .int wp22068 :: .ref h19 :: .int wp22069 :: .ref h21 :: .ref h22 :: .ref h23 :: .ref h24 :: .ref h25 :: .ref h26 :: .ref h27 :: .ref h28 :: .ref h29 :: .ref h30 :: .ref h31 :: .int wp22070 :: .ref h33 :: .ref h34 :: .ref h35 :: .int wp22071 :: [.ref h37, .ref h38, .ref h39, .ref h40, .ref h41, .ref h42, .ref h43, .ref h44, .ref h45, .ref h46, .ref h47, .ref h48, .ref h49, .ref h50, .ref h51, .int wp22072, .int wp22073, .int wp22074, .int wp22075, .int wp22076, .ref h57, .ref h58, .int wp22077, .ref h60, .int 0, .ref h61, .int wp22078, .ref h63, .ref h64, .int wp22079, .ref h66, .ref h67, .int wp22080, .ref h69, .ref h70, .ref h71, .ref h72, .int wp22081, .int wp22082, .int wp22083, .int wp22084, .ref h77, .ref h78, .ref h79, .ref h80, .ref h81, .ref h82, .ref h83, .ref h84, .ref h85]))), (h57, .inl (y 0, 3, .inl (upd (fun _ => 0) ((2 : Int32).toNatClampNeg) 5))), (h58, .inl (y 0, 18, .inl fn22185))] := hD
              refine va_iast hx hb hK.1 hP hD hS 2 0 rfl rfl (by unfold vp_in; decide +kernel) dX12_secret_87 ?_
              clear hP hD hS H locs
              refine fun H locs (hP : va_P D vwCl [(h0, .inr (12, (.ref h4 :: .int wp22065 :: .int wp22066 :: .ref h7 :: .ref h8 :: .ref h9 :: .ref h10 :: .ref h11 :: .ref h12 :: .ref h13 :: .ref h14 :: .ref h15 :: .int wp22067 :: .ref h17 :: .int wp22068 :: .ref h19 :: .int wp22069 :: .ref h21 :: .ref h22 :: .ref h23 :: .ref h24 :: .ref h25 :: .ref h26 :: .ref h27 :: .ref h28 :: .ref h29 :: .ref h30 :: .ref h31 :: .int wp22070 :: .ref h33 :: .ref h34 :: .ref h35 :: .int wp22071 :: [.ref h37, .ref h38, .ref h39, .ref h40, .ref h41, .ref h42, .ref h43, .ref h44, .ref h45, .ref h46, .ref h47, .ref h48, .ref h49, .ref h50, .ref h51, .int wp22072, .int wp22073, .int wp22074, .int wp22075, .int wp22076, .ref h57, .ref h58, .int wp22077, .ref h60, .int 0, .ref h61, .int wp22078, .ref h63, .ref h64, .int wp22079, .ref h66, .ref h67, .int wp22080, .ref h69, .ref h70, .ref h71, .ref h72, .int wp22081, .int wp22082, .int wp22083, .int wp22084, .ref h77, .ref h78, .ref h79, .ref h80, .ref h81, .ref h82, .ref h83, .ref h84, .ref h85]))), (h57, .inl (y 0, 3, .inl (upd (fun _ => 0) ((2 : Int32).toNatClampNeg) 5))), (h58, .inl (y 0, 18, .inl (upd fn22185 ((13 : Int32).toNatClampNeg) ((p2 / 1000) - (p2 / 1000) / 10 * 10))))] H) (hD : va_D A [(h0, .inr (12, (.ref h4 :: .int wp22065 :: .int wp22066 :: .ref h7 :: .ref h8 :: .ref h9 :: .ref h10 :: .ref h11 :: .ref h12 :: .ref h13 :: .ref h14 :: .ref h15 :: .int wp22067 :: .ref h17 :: .int wp22068 :: .ref h19 :: .int wp22069 :: .ref h21 :: .ref h22 :: .ref h23 :: .ref h24 :: .ref h25 :: .ref h26 :: .ref h27 :: .ref h28 :: .ref h29 :: .ref h30 :: .ref h31 :: .int wp22070 :: .ref h33 :: .ref h34 :: .ref h35 :: .int wp22071 :: [.ref h37, .ref h38, .ref h39, .ref h40, .ref h41, .ref h42, .ref h43, .ref h44, .ref h45, .ref h46, .ref h47, .ref h48, .ref h49, .ref h50, .ref h51, .int wp22072, .int wp22073, .int wp22074, .int wp22075, .int wp22076, .ref h57, .ref h58, .int wp22077, .ref h60, .int 0, .ref h61, .int wp22078, .ref h63, .ref h64, .int wp22079, .ref h66, .ref h67, .int wp22080, .ref h69, .ref h70, .ref h71, .ref h72, .int wp22081, .int wp22082, .int wp22083, .int wp22084, .ref h77, .ref h78, .ref h79, .ref h80, .ref h81, .ref h82, .ref h83, .ref h84, .ref h85]))), (h57, .inl (y 0, 3, .inl (upd (fun _ => 0) ((2 : Int32).toNatClampNeg) 5))), (h58, .inl (y 0, 18, .inl (upd fn22185 ((13 : Int32).toNatClampNeg) ((p2 / 1000) - (p2 / 1000) / 10 * 10))))]) hS => ?_
              obtain ⟨fn22187, hfn22187⟩ : ∃ f9 : Nat → Int32, f9 = (upd fn22185 ((13 : Int32).toNatClampNeg) ((p2 / 1000) - (p2 / 1000) / 10 * 10)) := ⟨_, rfl⟩
              rw [← hfn22187] at hP hD
              clear hfn22187
              refine lv_iinc (v := 2) (lv' := [(4, .int 2), (0, .ref h0), (1, .int 2), (2, .int p2), (3, .int 5)]) hx hb dX12_secret_88 hl (k := 0) rfl (by decide +kernel) (by decide) rfl ?_
              clear hl
              clear ls
              intro ls hl
              refine lv_goto (tgt := 63) hx hb dX12_secret_91 (by decide) ?_
              refine lv_iload hx hb dX12_secret_63 (lv_at hl 0 rfl) ?_
              refine lv_iload_n hx hb dX12_secret_65 rfl (lv_at hl 4 rfl) ?_
              refine lv_icmp_ge (tgt := 94) hx hb dX12_secret_66 (by decide) (fun c9 => absurd c9 (by decide +kernel)) (fun _ => ?_)
              refine lv_aload_n hx hb dX12_secret_69 rfl (lv_at hl 1 rfl) ?_
              refine gm_get (D := D) (ci := 12) (v := .ref h58) (C := RX12) (T := TX12) (N := 83) hx hb hg inlX12 hown hK.1 hP 0 rfl rfl 54 (by decide) tX12_54 (hg _ gw_208) rfl dX12_secret_70 ?_
              refine lv_bipush (v := 6) hx hb dX12_secret_73 (by decide +kernel) ?_
              refine lv_iload_n hx hb dX12_secret_75 rfl (lv_at hl 2 rfl) ?_
              refine lv_imul hx hb dX12_secret_76 ?_
              refine g_fi (v := 12) (by decide +kernel) ?_
              refine lv_iload hx hb dX12_secret_77 (lv_at hl 0 rfl) ?_
              refine lv_iadd hx hb dX12_secret_79 ?_
              refine g_fi (v := 14) (by decide +kernel) ?_
              refine lv_iload_n hx hb dX12_secret_80 rfl (lv_at hl 3 rfl) ?_
              refine lv_iload_n hx hb dX12_secret_81 rfl (lv_at hl 4 rfl) ?_
              refine lv_iload hx hb dX12_secret_82 (lv_at hl 0 rfl) ?_
              refine g_ai (wr := [(h0, .inr (12, (.ref h4 :: .int wp22065 :: .int wp22066 :: .ref h7 :: .ref h8 :: .ref h9 :: .ref h10 :: .ref h11 :: .ref h12 :: .ref h13 :: .ref h14 :: .ref h15 :: .int wp22067 :: .ref h17 :: .int wp22068 :: .ref h19 :: .int wp22069 :: .ref h21 :: .ref h22 :: .ref h23 :: .ref h24 :: .ref h25 :: .ref h26 :: .ref h27 :: .ref h28 :: .ref h29 :: .ref h30 :: .ref h31 :: .int wp22070 :: .ref h33 :: .ref h34 :: .ref h35 :: .int wp22071 :: [.ref h37, .ref h38, .ref h39, .ref h40, .ref h41, .ref h42, .ref h43, .ref h44, .ref h45, .ref h46, .ref h47, .ref h48, .ref h49, .ref h50, .ref h51, .int wp22072, .int wp22073, .int wp22074, .int wp22075, .int wp22076, .ref h57, .ref h58, .int wp22077, .ref h60, .int 0, .ref h61, .int wp22078, .ref h63, .ref h64, .int wp22079, .ref h66, .ref h67, .int wp22080, .ref h69, .ref h70, .ref h71, .ref h72, .int wp22081, .int wp22082, .int wp22083, .int wp22084, .ref h77, .ref h78, .ref h79, .ref h80, .ref h81, .ref h82, .ref h83, .ref h84, .ref h85]))), (h57, .inl (y 0, 3, .inl (upd (fun _ => 0) ((2 : Int32).toNatClampNeg) 5))), (h58, .inl (y 0, 18, .inl fn22187))]) (va_runS (As := [.int p2, .int 5, .int 2]) (rest := [.int 14, .ref h58]) ⟨hx, hb, hml, hown, hg⟩ (k_X12_digitOf_11 l D y aS H.size p2) (va_cwS 3 hg ggS_RX12_484_X12_digitOf rfl rfl rfl (by decide +kernel) ⟨Nat.le_of_ble_eq_true rfl, Nat.le_of_ble_eq_true rfl⟩) (g_preS hK hP hD [] rfl (by decide)) rfl rfl hl.1 rfl (lv_room (Nat.le_of_ble_eq_true rfl)) dX12_secret_84 ⟨Nat.le_of_ble_eq_true rfl, Nat.le_of_ble_eq_true rfl⟩) hP hD hS hA [] [0, 1, 2] rfl rfl (by decide) (by decide) ?_
              clear hP hD hS H locs
              refine fun r22188 u H locs hq hP hD hS => ?_
              subst hq
              replace hP : va_P D vwCl [(h0, .inr (12, (.ref h4 :: .int wp22065 :: .int wp22066 :: .ref h7 :: .ref h8 :: .ref h9 :: .ref h10 :: .ref h11 :: .ref h12 :: .ref h13 :: .ref h14 :: .ref h15 :: .int wp22067 :: .ref h17 :: .int wp22068 :: .ref h19 :: .int wp22069 :: .ref h21 :: .ref h22 :: .ref h23 :: .ref h24 :: .ref h25 :: .ref h26 :: .ref h27 :: .ref h28 :: .ref h29 :: .ref h30 :: .ref h31 :: .int wp22070 :: .ref h33 :: .ref h34 :: .ref h35 :: .int wp22071 :: [.ref h37, .ref h38, .ref h39, .ref h40, .ref h41, .ref h42, .ref h43, .ref h44, .ref h45, .ref h46, .ref h47, .ref h48, .ref h49, .ref h50, .ref h51, .int wp22072, .int wp22073, .int wp22074, .int wp22075, .int wp22076, .ref h57, .ref h58, .int wp22077, .ref h60, .int 0, .ref h61, .int wp22078, .ref h63, .ref h64, .int wp22079, .ref h66, .ref h67, .int wp22080, .ref h69, .ref h70, .ref h71, .ref h72, .int wp22081, .int wp22082, .int wp22083, .int wp22084, .ref h77, .ref h78, .ref h79, .ref h80, .ref h81, .ref h82, .ref h83, .ref h84, .ref h85]))), (h57, .inl (y 0, 3, .inl (upd (fun _ => 0) ((2 : Int32).toNatClampNeg) 5))), (h58, .inl (y 0, 18, .inl fn22187))] H := hP
              replace hD : va_D A [(h0, .inr (12, (.ref h4 :: .int wp22065 :: .int wp22066 :: .ref h7 :: .ref h8 :: .ref h9 :: .ref h10 :: .ref h11 :: .ref h12 :: .ref h13 :: .ref h14 :: .ref h15 :: .int wp22067 :: .ref h17 :: .int wp22068 :: .ref h19 :: .int wp22069 :: .ref h21 :: .ref h22 :: .ref h23 :: .ref h24 :: .ref h25 :: .ref h26 :: .ref h27 :: .ref h28 :: .ref h29 :: .ref h30 :: .ref h31 :: .int wp22070 :: .ref h33 :: .ref h34 :: .ref h35 :: .int wp22071 :: [.ref h37, .ref h38, .ref h39, .ref h40, .ref h41, .ref h42, .ref h43, .ref h44, .ref h45, .ref h46, .ref h47, .ref h48, .ref h49, .ref h50, .ref h51, .int wp22072, .int wp22073, .int wp22074, .int wp22075, .int wp22076, .ref h57, .ref h58, .int wp22077, .ref h60, .int 0, .ref h61, .int wp22078, .ref h63, .ref h64, .int wp22079, .ref h66, .ref h67, .int wp22080, .ref h69, .ref h70, .ref h71, .ref h72, .int wp22081, .int wp22082, .int wp22083, .int wp22084, .ref h77, .ref h78, .ref h79, .ref h80, .ref h81, .ref h82, .ref h83, .ref h84, .ref h85]))), (h57, .inl (y 0, 3, .inl (upd (fun _ => 0) ((2 : Int32).toNatClampNeg) 5))), (h58, .inl (y 0, 18, .inl fn22187))] := hD
              refine va_iast hx hb hK.1 hP hD hS 2 0 rfl rfl (by unfold vp_in; decide +kernel) dX12_secret_87 ?_
              clear hP hD hS H locs
              refine fun H locs (hP : va_P D vwCl [(h0, .inr (12, (.ref h4 :: .int wp22065 :: .int wp22066 :: .ref h7 :: .ref h8 :: .ref h9 :: .ref h10 :: .ref h11 :: .ref h12 :: .ref h13 :: .ref h14 :: .ref h15 :: .int wp22067 :: .ref h17 :: .int wp22068 :: .ref h19 :: .int wp22069 :: .ref h21 :: .ref h22 :: .ref h23 :: .ref h24 :: .ref h25 :: .ref h26 :: .ref h27 :: .ref h28 :: .ref h29 :: .ref h30 :: .ref h31 :: .int wp22070 :: .ref h33 :: .ref h34 :: .ref h35 :: .int wp22071 :: [.ref h37, .ref h38, .ref h39, .ref h40, .ref h41, .ref h42, .ref h43, .ref h44, .ref h45, .ref h46, .ref h47, .ref h48, .ref h49, .ref h50, .ref h51, .int wp22072, .int wp22073, .int wp22074, .int wp22075, .int wp22076, .ref h57, .ref h58, .int wp22077, .ref h60, .int 0, .ref h61, .int wp22078, .ref h63, .ref h64, .int wp22079, .ref h66, .ref h67, .int wp22080, .ref h69, .ref h70, .ref h71, .ref h72, .int wp22081, .int wp22082, .int wp22083, .int wp22084, .ref h77, .ref h78, .ref h79, .ref h80, .ref h81, .ref h82, .ref h83, .ref h84, .ref h85]))), (h57, .inl (y 0, 3, .inl (upd (fun _ => 0) ((2 : Int32).toNatClampNeg) 5))), (h58, .inl (y 0, 18, .inl (upd fn22187 ((14 : Int32).toNatClampNeg) ((p2 / 100) - (p2 / 100) / 10 * 10))))] H) (hD : va_D A [(h0, .inr (12, (.ref h4 :: .int wp22065 :: .int wp22066 :: .ref h7 :: .ref h8 :: .ref h9 :: .ref h10 :: .ref h11 :: .ref h12 :: .ref h13 :: .ref h14 :: .ref h15 :: .int wp22067 :: .ref h17 :: .int wp22068 :: .ref h19 :: .int wp22069 :: .ref h21 :: .ref h22 :: .ref h23 :: .ref h24 :: .ref h25 :: .ref h26 :: .ref h27 :: .ref h28 :: .ref h29 :: .ref h30 :: .ref h31 :: .int wp22070 :: .ref h33 :: .ref h34 :: .ref h35 :: .int wp22071 :: [.ref h37, .ref h38, .ref h39, .ref h40, .ref h41, .ref h42, .ref h43, .ref h44, .ref h45, .ref h46, .ref h47, .ref h48, .ref h49, .ref h50, .ref h51, .int wp22072, .int wp22073, .int wp22074, .int wp22075, .int wp22076, .ref h57, .ref h58, .int wp22077, .ref h60, .int 0, .ref h61, .int wp22078, .ref h63, .ref h64, .int wp22079, .ref h66, .ref h67, .int wp22080, .ref h69, .ref h70, .ref h71, .ref h72, .int wp22081, .int wp22082, .int wp22083, .int wp22084, .ref h77, .ref h78, .ref h79, .ref h80, .ref h81, .ref h82, .ref h83, .ref h84, .ref h85]))), (h57, .inl (y 0, 3, .inl (upd (fun _ => 0) ((2 : Int32).toNatClampNeg) 5))), (h58, .inl (y 0, 18, .inl (upd fn22187 ((14 : Int32).toNatClampNeg) ((p2 / 100) - (p2 / 100) / 10 * 10))))]) hS => ?_
              obtain ⟨fn22189, hfn22189⟩ : ∃ f9 : Nat → Int32, f9 = (upd fn22187 ((14 : Int32).toNatClampNeg) ((p2 / 100) - (p2 / 100) / 10 * 10)) := ⟨_, rfl⟩
              rw [← hfn22189] at hP hD
              clear hfn22189
              refine lv_iinc (v := 3) (lv' := [(4, .int 3), (0, .ref h0), (1, .int 2), (2, .int p2), (3, .int 5)]) hx hb dX12_secret_88 hl (k := 0) rfl (by decide +kernel) (by decide) rfl ?_
              clear hl
              clear ls
              intro ls hl
              refine lv_goto (tgt := 63) hx hb dX12_secret_91 (by decide) ?_
              refine lv_iload hx hb dX12_secret_63 (lv_at hl 0 rfl) ?_
              refine lv_iload_n hx hb dX12_secret_65 rfl (lv_at hl 4 rfl) ?_
              refine lv_icmp_ge (tgt := 94) hx hb dX12_secret_66 (by decide) (fun c9 => absurd c9 (by decide +kernel)) (fun _ => ?_)
              refine lv_aload_n hx hb dX12_secret_69 rfl (lv_at hl 1 rfl) ?_
              refine gm_get (D := D) (ci := 12) (v := .ref h58) (C := RX12) (T := TX12) (N := 83) hx hb hg inlX12 hown hK.1 hP 0 rfl rfl 54 (by decide) tX12_54 (hg _ gw_208) rfl dX12_secret_70 ?_
              refine lv_bipush (v := 6) hx hb dX12_secret_73 (by decide +kernel) ?_
              refine lv_iload_n hx hb dX12_secret_75 rfl (lv_at hl 2 rfl) ?_
              refine lv_imul hx hb dX12_secret_76 ?_
              refine g_fi (v := 12) (by decide +kernel) ?_
              refine lv_iload hx hb dX12_secret_77 (lv_at hl 0 rfl) ?_
              refine lv_iadd hx hb dX12_secret_79 ?_
              refine g_fi (v := 15) (by decide +kernel) ?_
              refine lv_iload_n hx hb dX12_secret_80 rfl (lv_at hl 3 rfl) ?_
              refine lv_iload_n hx hb dX12_secret_81 rfl (lv_at hl 4 rfl) ?_
              refine lv_iload hx hb dX12_secret_82 (lv_at hl 0 rfl) ?_
              refine g_ai (wr := [(h0, .inr (12, (.ref h4 :: .int wp22065 :: .int wp22066 :: .ref h7 :: .ref h8 :: .ref h9 :: .ref h10 :: .ref h11 :: .ref h12 :: .ref h13 :: .ref h14 :: .ref h15 :: .int wp22067 :: .ref h17 :: .int wp22068 :: .ref h19 :: .int wp22069 :: .ref h21 :: .ref h22 :: .ref h23 :: .ref h24 :: .ref h25 :: .ref h26 :: .ref h27 :: .ref h28 :: .ref h29 :: .ref h30 :: .ref h31 :: .int wp22070 :: .ref h33 :: .ref h34 :: .ref h35 :: .int wp22071 :: [.ref h37, .ref h38, .ref h39, .ref h40, .ref h41, .ref h42, .ref h43, .ref h44, .ref h45, .ref h46, .ref h47, .ref h48, .ref h49, .ref h50, .ref h51, .int wp22072, .int wp22073, .int wp22074, .int wp22075, .int wp22076, .ref h57, .ref h58, .int wp22077, .ref h60, .int 0, .ref h61, .int wp22078, .ref h63, .ref h64, .int wp22079, .ref h66, .ref h67, .int wp22080, .ref h69, .ref h70, .ref h71, .ref h72, .int wp22081, .int wp22082, .int wp22083, .int wp22084, .ref h77, .ref h78, .ref h79, .ref h80, .ref h81, .ref h82, .ref h83, .ref h84, .ref h85]))), (h57, .inl (y 0, 3, .inl (upd (fun _ => 0) ((2 : Int32).toNatClampNeg) 5))), (h58, .inl (y 0, 18, .inl fn22189))]) (va_runS (As := [.int p2, .int 5, .int 3]) (rest := [.int 15, .ref h58]) ⟨hx, hb, hml, hown, hg⟩ (k_X12_digitOf_12 l D y aS H.size p2) (va_cwS 3 hg ggS_RX12_484_X12_digitOf rfl rfl rfl (by decide +kernel) ⟨Nat.le_of_ble_eq_true rfl, Nat.le_of_ble_eq_true rfl⟩) (g_preS hK hP hD [] rfl (by decide)) rfl rfl hl.1 rfl (lv_room (Nat.le_of_ble_eq_true rfl)) dX12_secret_84 ⟨Nat.le_of_ble_eq_true rfl, Nat.le_of_ble_eq_true rfl⟩) hP hD hS hA [] [0, 1, 2] rfl rfl (by decide) (by decide) ?_
              clear hP hD hS H locs
              refine fun r22190 u H locs hq hP hD hS => ?_
              subst hq
              replace hP : va_P D vwCl [(h0, .inr (12, (.ref h4 :: .int wp22065 :: .int wp22066 :: .ref h7 :: .ref h8 :: .ref h9 :: .ref h10 :: .ref h11 :: .ref h12 :: .ref h13 :: .ref h14 :: .ref h15 :: .int wp22067 :: .ref h17 :: .int wp22068 :: .ref h19 :: .int wp22069 :: .ref h21 :: .ref h22 :: .ref h23 :: .ref h24 :: .ref h25 :: .ref h26 :: .ref h27 :: .ref h28 :: .ref h29 :: .ref h30 :: .ref h31 :: .int wp22070 :: .ref h33 :: .ref h34 :: .ref h35 :: .int wp22071 :: [.ref h37, .ref h38, .ref h39, .ref h40, .ref h41, .ref h42, .ref h43, .ref h44, .ref h45, .ref h46, .ref h47, .ref h48, .ref h49, .ref h50, .ref h51, .int wp22072, .int wp22073, .int wp22074, .int wp22075, .int wp22076, .ref h57, .ref h58, .int wp22077, .ref h60, .int 0, .ref h61, .int wp22078, .ref h63, .ref h64, .int wp22079, .ref h66, .ref h67, .int wp22080, .ref h69, .ref h70, .ref h71, .ref h72, .int wp22081, .int wp22082, .int wp22083, .int wp22084, .ref h77, .ref h78, .ref h79, .ref h80, .ref h81, .ref h82, .ref h83, .ref h84, .ref h85]))), (h57, .inl (y 0, 3, .inl (upd (fun _ => 0) ((2 : Int32).toNatClampNeg) 5))), (h58, .inl (y 0, 18, .inl fn22189))] H := hP
              replace hD : va_D A [(h0, .inr (12, (.ref h4 :: .int wp22065 :: .int wp22066 :: .ref h7 :: .ref h8 :: .ref h9 :: .ref h10 :: .ref h11 :: .ref h12 :: .ref h13 :: .ref h14 :: .ref h15 :: .int wp22067 :: .ref h17 :: .int wp22068 :: .ref h19 :: .int wp22069 :: .ref h21 :: .ref h22 :: .ref h23 :: .ref h24 :: .ref h25 :: .ref h26 :: .ref h27 :: .ref h28 :: .ref h29 :: .ref h30 :: .ref h31 :: .int wp22070 :: .ref h33 :: .ref h34 :: .ref h35 :: .int wp22071 :: [.ref h37, .ref h38, .ref h39, .ref h40, .ref h41, .ref h42, .ref h43, .ref h44, .ref h45, .ref h46, .ref h47, .ref h48, .ref h49, .ref h50, .ref h51, .int wp22072, .int wp22073, .int wp22074, .int wp22075, .int wp22076, .ref h57, .ref h58, .int wp22077, .ref h60, .int 0, .ref h61, .int wp22078, .ref h63, .ref h64, .int wp22079, .ref h66, .ref h67, .int wp22080, .ref h69, .ref h70, .ref h71, .ref h72, .int wp22081, .int wp22082, .int wp22083, .int wp22084, .ref h77, .ref h78, .ref h79, .ref h80, .ref h81, .ref h82, .ref h83, .ref h84, .ref h85]))), (h57, .inl (y 0, 3, .inl (upd (fun _ => 0) ((2 : Int32).toNatClampNeg) 5))), (h58, .inl (y 0, 18, .inl fn22189))] := hD
              refine va_iast hx hb hK.1 hP hD hS 2 0 rfl rfl (by unfold vp_in; decide +kernel) dX12_secret_87 ?_
              clear hP hD hS H locs
              refine fun H locs (hP : va_P D vwCl [(h0, .inr (12, (.ref h4 :: .int wp22065 :: .int wp22066 :: .ref h7 :: .ref h8 :: .ref h9 :: .ref h10 :: .ref h11 :: .ref h12 :: .ref h13 :: .ref h14 :: .ref h15 :: .int wp22067 :: .ref h17 :: .int wp22068 :: .ref h19 :: .int wp22069 :: .ref h21 :: .ref h22 :: .ref h23 :: .ref h24 :: .ref h25 :: .ref h26 :: .ref h27 :: .ref h28 :: .ref h29 :: .ref h30 :: .ref h31 :: .int wp22070 :: .ref h33 :: .ref h34 :: .ref h35 :: .int wp22071 :: [.ref h37, .ref h38, .ref h39, .ref h40, .ref h41, .ref h42, .ref h43, .ref h44, .ref h45, .ref h46, .ref h47, .ref h48, .ref h49, .ref h50, .ref h51, .int wp22072, .int wp22073, .int wp22074, .int wp22075, .int wp22076, .ref h57, .ref h58, .int wp22077, .ref h60, .int 0, .ref h61, .int wp22078, .ref h63, .ref h64, .int wp22079, .ref h66, .ref h67, .int wp22080, .ref h69, .ref h70, .ref h71, .ref h72, .int wp22081, .int wp22082, .int wp22083, .int wp22084, .ref h77, .ref h78, .ref h79, .ref h80, .ref h81, .ref h82, .ref h83, .ref h84, .ref h85]))), (h57, .inl (y 0, 3, .inl (upd (fun _ => 0) ((2 : Int32).toNatClampNeg) 5))), (h58, .inl (y 0, 18, .inl (upd fn22189 ((15 : Int32).toNatClampNeg) ((p2 / 10) - (p2 / 10) / 10 * 10))))] H) (hD : va_D A [(h0, .inr (12, (.ref h4 :: .int wp22065 :: .int wp22066 :: .ref h7 :: .ref h8 :: .ref h9 :: .ref h10 :: .ref h11 :: .ref h12 :: .ref h13 :: .ref h14 :: .ref h15 :: .int wp22067 :: .ref h17 :: .int wp22068 :: .ref h19 :: .int wp22069 :: .ref h21 :: .ref h22 :: .ref h23 :: .ref h24 :: .ref h25 :: .ref h26 :: .ref h27 :: .ref h28 :: .ref h29 :: .ref h30 :: .ref h31 :: .int wp22070 :: .ref h33 :: .ref h34 :: .ref h35 :: .int wp22071 :: [.ref h37, .ref h38, .ref h39, .ref h40, .ref h41, .ref h42, .ref h43, .ref h44, .ref h45, .ref h46, .ref h47, .ref h48, .ref h49, .ref h50, .ref h51, .int wp22072, .int wp22073, .int wp22074, .int wp22075, .int wp22076, .ref h57, .ref h58, .int wp22077, .ref h60, .int 0, .ref h61, .int wp22078, .ref h63, .ref h64, .int wp22079, .ref h66, .ref h67, .int wp22080, .ref h69, .ref h70, .ref h71, .ref h72, .int wp22081, .int wp22082, .int wp22083, .int wp22084, .ref h77, .ref h78, .ref h79, .ref h80, .ref h81, .ref h82, .ref h83, .ref h84, .ref h85]))), (h57, .inl (y 0, 3, .inl (upd (fun _ => 0) ((2 : Int32).toNatClampNeg) 5))), (h58, .inl (y 0, 18, .inl (upd fn22189 ((15 : Int32).toNatClampNeg) ((p2 / 10) - (p2 / 10) / 10 * 10))))]) hS => ?_
              obtain ⟨fn22191, hfn22191⟩ : ∃ f9 : Nat → Int32, f9 = (upd fn22189 ((15 : Int32).toNatClampNeg) ((p2 / 10) - (p2 / 10) / 10 * 10)) := ⟨_, rfl⟩
              rw [← hfn22191] at hP hD
              clear hfn22191
              refine lv_iinc (v := 4) (lv' := [(4, .int 4), (0, .ref h0), (1, .int 2), (2, .int p2), (3, .int 5)]) hx hb dX12_secret_88 hl (k := 0) rfl (by decide +kernel) (by decide) rfl ?_
              clear hl
              clear ls
              intro ls hl
              refine lv_goto (tgt := 63) hx hb dX12_secret_91 (by decide) ?_
              refine lv_iload hx hb dX12_secret_63 (lv_at hl 0 rfl) ?_
              refine lv_iload_n hx hb dX12_secret_65 rfl (lv_at hl 4 rfl) ?_
              refine lv_icmp_ge (tgt := 94) hx hb dX12_secret_66 (by decide) (fun c9 => absurd c9 (by decide +kernel)) (fun _ => ?_)
              refine lv_aload_n hx hb dX12_secret_69 rfl (lv_at hl 1 rfl) ?_
              refine gm_get (D := D) (ci := 12) (v := .ref h58) (C := RX12) (T := TX12) (N := 83) hx hb hg inlX12 hown hK.1 hP 0 rfl rfl 54 (by decide) tX12_54 (hg _ gw_208) rfl dX12_secret_70 ?_
              refine lv_bipush (v := 6) hx hb dX12_secret_73 (by decide +kernel) ?_
              refine lv_iload_n hx hb dX12_secret_75 rfl (lv_at hl 2 rfl) ?_
              refine lv_imul hx hb dX12_secret_76 ?_
              refine g_fi (v := 12) (by decide +kernel) ?_
              refine lv_iload hx hb dX12_secret_77 (lv_at hl 0 rfl) ?_
              refine lv_iadd hx hb dX12_secret_79 ?_
              refine g_fi (v := 16) (by decide +kernel) ?_
              refine lv_iload_n hx hb dX12_secret_80 rfl (lv_at hl 3 rfl) ?_
              refine lv_iload_n hx hb dX12_secret_81 rfl (lv_at hl 4 rfl) ?_
              refine lv_iload hx hb dX12_secret_82 (lv_at hl 0 rfl) ?_
              refine g_ai (wr := [(h0, .inr (12, (.ref h4 :: .int wp22065 :: .int wp22066 :: .ref h7 :: .ref h8 :: .ref h9 :: .ref h10 :: .ref h11 :: .ref h12 :: .ref h13 :: .ref h14 :: .ref h15 :: .int wp22067 :: .ref h17 :: .int wp22068 :: .ref h19 :: .int wp22069 :: .ref h21 :: .ref h22 :: .ref h23 :: .ref h24 :: .ref h25 :: .ref h26 :: .ref h27 :: .ref h28 :: .ref h29 :: .ref h30 :: .ref h31 :: .int wp22070 :: .ref h33 :: .ref h34 :: .ref h35 :: .int wp22071 :: [.ref h37, .ref h38, .ref h39, .ref h40, .ref h41, .ref h42, .ref h43, .ref h44, .ref h45, .ref h46, .ref h47, .ref h48, .ref h49, .ref h50, .ref h51, .int wp22072, .int wp22073, .int wp22074, .int wp22075, .int wp22076, .ref h57, .ref h58, .int wp22077, .ref h60, .int 0, .ref h61, .int wp22078, .ref h63, .ref h64, .int wp22079, .ref h66, .ref h67, .int wp22080, .ref h69, .ref h70, .ref h71, .ref h72, .int wp22081, .int wp22082, .int wp22083, .int wp22084, .ref h77, .ref h78, .ref h79, .ref h80, .ref h81, .ref h82, .ref h83, .ref h84, .ref h85]))), (h57, .inl (y 0, 3, .inl (upd (fun _ => 0) ((2 : Int32).toNatClampNeg) 5))), (h58, .inl (y 0, 18, .inl fn22191))]) (va_runS (As := [.int p2, .int 5, .int 4]) (rest := [.int 16, .ref h58]) ⟨hx, hb, hml, hown, hg⟩ (k_X12_digitOf_13 l D y aS H.size p2) (va_cwS 3 hg ggS_RX12_484_X12_digitOf rfl rfl rfl (by decide +kernel) ⟨Nat.le_of_ble_eq_true rfl, Nat.le_of_ble_eq_true rfl⟩) (g_preS hK hP hD [] rfl (by decide)) rfl rfl hl.1 rfl (lv_room (Nat.le_of_ble_eq_true rfl)) dX12_secret_84 ⟨Nat.le_of_ble_eq_true rfl, Nat.le_of_ble_eq_true rfl⟩) hP hD hS hA [] [0, 1, 2] rfl rfl (by decide) (by decide) ?_
              clear hP hD hS H locs
              refine fun r22192 u H locs hq hP hD hS => ?_
              subst hq
              replace hP : va_P D vwCl [(h0, .inr (12, (.ref h4 :: .int wp22065 :: .int wp22066 :: .ref h7 :: .ref h8 :: .ref h9 :: .ref h10 :: .ref h11 :: .ref h12 :: .ref h13 :: .ref h14 :: .ref h15 :: .int wp22067 :: .ref h17 :: .int wp22068 :: .ref h19 :: .int wp22069 :: .ref h21 :: .ref h22 :: .ref h23 :: .ref h24 :: .ref h25 :: .ref h26 :: .ref h27 :: .ref h28 :: .ref h29 :: .ref h30 :: .ref h31 :: .int wp22070 :: .ref h33 :: .ref h34 :: .ref h35 :: .int wp22071 :: [.ref h37, .ref h38, .ref h39, .ref h40, .ref h41, .ref h42, .ref h43, .ref h44, .ref h45, .ref h46, .ref h47, .ref h48, .ref h49, .ref h50, .ref h51, .int wp22072, .int wp22073, .int wp22074, .int wp22075, .int wp22076, .ref h57, .ref h58, .int wp22077, .ref h60, .int 0, .ref h61, .int wp22078, .ref h63, .ref h64, .int wp22079, .ref h66, .ref h67, .int wp22080, .ref h69, .ref h70, .ref h71, .ref h72, .int wp22081, .int wp22082, .int wp22083, .int wp22084, .ref h77, .ref h78, .ref h79, .ref h80, .ref h81, .ref h82, .ref h83, .ref h84, .ref h85]))), (h57, .inl (y 0, 3, .inl (upd (fun _ => 0) ((2 : Int32).toNatClampNeg) 5))), (h58, .inl (y 0, 18, .inl fn22191))] H := hP
              replace hD : va_D A [(h0, .inr (12, (.ref h4 :: .int wp22065 :: .int wp22066 :: .ref h7 :: .ref h8 :: .ref h9 :: .ref h10 :: .ref h11 :: .ref h12 :: .ref h13 :: .ref h14 :: .ref h15 :: .int wp22067 :: .ref h17 :: .int wp22068 :: .ref h19 :: .int wp22069 :: .ref h21 :: .ref h22 :: .ref h23 :: .ref h24 :: .ref h25 :: .ref h26 :: .ref h27 :: .ref h28 :: .ref h29 :: .ref h30 :: .ref h31 :: .int wp22070 :: .ref h33 :: .ref h34 :: .ref h35 :: .int wp22071 :: [.ref h37, .ref h38, .ref h39, .ref h40, .ref h41, .ref h42, .ref h43, .ref h44, .ref h45, .ref h46, .ref h47, .ref h48, .ref h49, .ref h50, .ref h51, .int wp22072, .int wp22073, .int wp22074, .int wp22075, .int wp22076, .ref h57, .ref h58, .int wp22077, .ref h60, .int 0, .ref h61, .int wp22078, .ref h63, .ref h64, .int wp22079, .ref h66, .ref h67, .int wp22080, .ref h69, .ref h70, .ref h71, .ref h72, .int wp22081, .int wp22082, .int wp22083, .int wp22084, .ref h77, .ref h78, .ref h79, .ref h80, .ref h81, .ref h82, .ref h83, .ref h84, .ref h85]))), (h57, .inl (y 0, 3, .inl (upd (fun _ => 0) ((2 : Int32).toNatClampNeg) 5))), (h58, .inl (y 0, 18, .inl fn22191))] := hD
              refine va_iast hx hb hK.1 hP hD hS 2 0 rfl rfl (by unfold vp_in; decide +kernel) dX12_secret_87 ?_
              clear hP hD hS H locs
              refine fun H locs (hP : va_P D vwCl [(h0, .inr (12, (.ref h4 :: .int wp22065 :: .int wp22066 :: .ref h7 :: .ref h8 :: .ref h9 :: .ref h10 :: .ref h11 :: .ref h12 :: .ref h13 :: .ref h14 :: .ref h15 :: .int wp22067 :: .ref h17 :: .int wp22068 :: .ref h19 :: .int wp22069 :: .ref h21 :: .ref h22 :: .ref h23 :: .ref h24 :: .ref h25 :: .ref h26 :: .ref h27 :: .ref h28 :: .ref h29 :: .ref h30 :: .ref h31 :: .int wp22070 :: .ref h33 :: .ref h34 :: .ref h35 :: .int wp22071 :: [.ref h37, .ref h38, .ref h39, .ref h40, .ref h41, .ref h42, .ref h43, .ref h44, .ref h45, .ref h46, .ref h47, .ref h48, .ref h49, .ref h50, .ref h51, .int wp22072, .int wp22073, .int wp22074, .int wp22075, .int wp22076, .ref h57, .ref h58, .int wp22077, .ref h60, .int 0, .ref h61, .int wp22078, .ref h63, .ref h64, .int wp22079, .ref h66, .ref h67, .int wp22080, .ref h69, .ref h70, .ref h71, .ref h72, .int wp22081, .int wp22082, .int wp22083, .int wp22084, .ref h77, .ref h78, .ref h79, .ref h80, .ref h81, .ref h82, .ref h83, .ref h84, .ref h85]))), (h57, .inl (y 0, 3, .inl (upd (fun _ => 0) ((2 : Int32).toNatClampNeg) 5))), (h58, .inl (y 0, 18, .inl (upd fn22191 ((16 : Int32).toNatClampNeg) ((p2 / 1) - (p2 / 1) / 10 * 10))))] H) (hD : va_D A [(h0, .inr (12, (.ref h4 :: .int wp22065 :: .int wp22066 :: .ref h7 :: .ref h8 :: .ref h9 :: .ref h10 :: .ref h11 :: .ref h12 :: .ref h13 :: .ref h14 :: .ref h15 :: .int wp22067 :: .ref h17 :: .int wp22068 :: .ref h19 :: .int wp22069 :: .ref h21 :: .ref h22 :: .ref h23 :: .ref h24 :: .ref h25 :: .ref h26 :: .ref h27 :: .ref h28 :: .ref h29 :: .ref h30 :: .ref h31 :: .int wp22070 :: .ref h33 :: .ref h34 :: .ref h35 :: .int wp22071 :: [.ref h37, .ref h38, .ref h39, .ref h40, .ref h41, .ref h42, .ref h43, .ref h44, .ref h45, .ref h46, .ref h47, .ref h48, .ref h49, .ref h50, .ref h51, .int wp22072, .int wp22073, .int wp22074, .int wp22075, .int wp22076, .ref h57, .ref h58, .int wp22077, .ref h60, .int 0, .ref h61, .int wp22078, .ref h63, .ref h64, .int wp22079, .ref h66, .ref h67, .int wp22080, .ref h69, .ref h70, .ref h71, .ref h72, .int wp22081, .int wp22082, .int wp22083, .int wp22084, .ref h77, .ref h78, .ref h79, .ref h80, .ref h81, .ref h82, .ref h83, .ref h84, .ref h85]))), (h57, .inl (y 0, 3, .inl (upd (fun _ => 0) ((2 : Int32).toNatClampNeg) 5))), (h58, .inl (y 0, 18, .inl (upd fn22191 ((16 : Int32).toNatClampNeg) ((p2 / 1) - (p2 / 1) / 10 * 10))))]) hS => ?_
              obtain ⟨fn22193, hfn22193⟩ : ∃ f9 : Nat → Int32, f9 = (upd fn22191 ((16 : Int32).toNatClampNeg) ((p2 / 1) - (p2 / 1) / 10 * 10)) := ⟨_, rfl⟩
              rw [← hfn22193] at hP hD
              clear hfn22193
              refine lv_iinc (v := 5) (lv' := [(4, .int 5), (0, .ref h0), (1, .int 2), (2, .int p2), (3, .int 5)]) hx hb dX12_secret_88 hl (k := 0) rfl (by decide +kernel) (by decide) rfl ?_
              clear hl
              clear ls
              intro ls hl
              refine lv_goto (tgt := 63) hx hb dX12_secret_91 (by decide) ?_
              refine lv_iload hx hb dX12_secret_63 (lv_at hl 0 rfl) ?_
              refine lv_iload_n hx hb dX12_secret_65 rfl (lv_at hl 4 rfl) ?_
              refine lv_icmp_ge (tgt := 94) hx hb dX12_secret_66 (by decide) (fun _ => ?_) (fun c9 => absurd c9 (by decide +kernel))
              refine lv_iconst (v := 0) hx hb dX12_secret_94 (by decide) ?_
              refine lv_istore (lv' := [(4, .int 0), (0, .ref h0), (1, .int 2), (2, .int p2), (3, .int 5)]) hx hb dX12_secret_95 hl (by decide) rfl ?_
              clear hl
              clear ls
              intro ls hl
              refine lv_iconst (v := 0) hx hb dX12_secret_97 (by decide) ?_
              refine lv_istore (lv' := [(5, .int 0), (4, .int 0), (0, .ref h0), (1, .int 2), (2, .int p2), (3, .int 5)]) hx hb dX12_secret_98 hl (by decide) rfl ?_
              clear hl
              clear ls
              intro ls hl
              refine lv_iload hx hb dX12_secret_100 (lv_at hl 0 rfl) ?_
              refine lv_iconst (v := 3) hx hb dX12_secret_102 (by decide) ?_
              refine lv_icmp_ge (tgt := 132) hx hb dX12_secret_103 (by decide) (fun c9 => absurd c9 (by decide +kernel)) (fun _ => ?_)
              refine lv_iload hx hb dX12_secret_106 (lv_at hl 1 rfl) ?_
              refine lv_aload_n hx hb dX12_secret_108 rfl (lv_at hl 2 rfl) ?_
              refine gm_get (D := D) (ci := 12) (v := .ref h57) (C := RX12) (T := TX12) (N := 83) hx hb hg inlX12 hown hK.1 hP 0 rfl rfl 53 (by decide) tX12_53 (hg _ gw_207) rfl dX12_secret_109 ?_
              refine lv_iload hx hb dX12_secret_112 (lv_at hl 0 rfl) ?_
              refine va_iald hx hb hK.1 hP 1 0 rfl rfl (by unfold vp_in; decide +kernel) dX12_secret_114 ?_
              refine g_fi (v := 0) (by rfl) ?_
              refine lv_if_le (tgt := 122) hx hb dX12_secret_115 (by decide) (fun _ => ?_) (fun c9 => absurd c9 (by decide +kernel))
              refine lv_iconst (v := 0) hx hb dX12_secret_122 (by decide) ?_
              refine lv_iadd hx hb dX12_secret_123 ?_
              refine g_fi (v := 0) (by decide +kernel) ?_
              refine lv_istore (lv' := [(4, .int 0), (5, .int 0), (0, .ref h0), (1, .int 2), (2, .int p2), (3, .int 5)]) hx hb dX12_secret_124 hl (by decide) rfl ?_
              clear hl
              clear ls
              intro ls hl
              refine lv_iinc (v := 1) (lv' := [(5, .int 1), (4, .int 0), (0, .ref h0), (1, .int 2), (2, .int p2), (3, .int 5)]) hx hb dX12_secret_126 hl (k := 1) rfl (by decide +kernel) (by decide) rfl ?_
              clear hl
              clear ls
              intro ls hl
              refine lv_goto (tgt := 100) hx hb dX12_secret_129 (by decide) ?_
              refine lv_iload hx hb dX12_secret_100 (lv_at hl 0 rfl) ?_
              refine lv_iconst (v := 3) hx hb dX12_secret_102 (by decide) ?_
              refine lv_icmp_ge (tgt := 132) hx hb dX12_secret_103 (by decide) (fun c9 => absurd c9 (by decide +kernel)) (fun _ => ?_)
              refine lv_iload hx hb dX12_secret_106 (lv_at hl 1 rfl) ?_
              refine lv_aload_n hx hb dX12_secret_108 rfl (lv_at hl 2 rfl) ?_
              refine gm_get (D := D) (ci := 12) (v := .ref h57) (C := RX12) (T := TX12) (N := 83) hx hb hg inlX12 hown hK.1 hP 0 rfl rfl 53 (by decide) tX12_53 (hg _ gw_207) rfl dX12_secret_109 ?_
              refine lv_iload hx hb dX12_secret_112 (lv_at hl 0 rfl) ?_
              refine va_iald hx hb hK.1 hP 1 0 rfl rfl (by unfold vp_in; decide +kernel) dX12_secret_114 ?_
              refine g_fi (v := 0) (by rfl) ?_
              refine lv_if_le (tgt := 122) hx hb dX12_secret_115 (by decide) (fun _ => ?_) (fun c9 => absurd c9 (by decide +kernel))
              refine lv_iconst (v := 0) hx hb dX12_secret_122 (by decide) ?_
              refine lv_iadd hx hb dX12_secret_123 ?_
              refine g_fi (v := 0) (by decide +kernel) ?_
              refine lv_istore (lv' := [(4, .int 0), (5, .int 1), (0, .ref h0), (1, .int 2), (2, .int p2), (3, .int 5)]) hx hb dX12_secret_124 hl (by decide) rfl ?_
              clear hl
              clear ls
              intro ls hl
              refine lv_iinc (v := 2) (lv' := [(5, .int 2), (4, .int 0), (0, .ref h0), (1, .int 2), (2, .int p2), (3, .int 5)]) hx hb dX12_secret_126 hl (k := 1) rfl (by decide +kernel) (by decide) rfl ?_
              clear hl
              clear ls
              intro ls hl
              refine lv_goto (tgt := 100) hx hb dX12_secret_129 (by decide) ?_
              refine lv_iload hx hb dX12_secret_100 (lv_at hl 0 rfl) ?_
              refine lv_iconst (v := 3) hx hb dX12_secret_102 (by decide) ?_
              refine lv_icmp_ge (tgt := 132) hx hb dX12_secret_103 (by decide) (fun c9 => absurd c9 (by decide +kernel)) (fun _ => ?_)
              refine lv_iload hx hb dX12_secret_106 (lv_at hl 1 rfl) ?_
              refine lv_aload_n hx hb dX12_secret_108 rfl (lv_at hl 2 rfl) ?_
              refine gm_get (D := D) (ci := 12) (v := .ref h57) (C := RX12) (T := TX12) (N := 83) hx hb hg inlX12 hown hK.1 hP 0 rfl rfl 53 (by decide) tX12_53 (hg _ gw_207) rfl dX12_secret_109 ?_
              refine lv_iload hx hb dX12_secret_112 (lv_at hl 0 rfl) ?_
              refine va_iald hx hb hK.1 hP 1 0 rfl rfl (by unfold vp_in; decide +kernel) dX12_secret_114 ?_
              refine g_fi (v := 5) (by rfl) ?_
              refine lv_if_le (tgt := 122) hx hb dX12_secret_115 (by decide) (fun c9 => absurd c9 (by decide +kernel)) (fun _ => ?_)
              refine lv_iconst (v := 1) hx hb dX12_secret_118 (by decide) ?_
              refine lv_goto (tgt := 123) hx hb dX12_secret_119 (by decide) ?_
              refine lv_iadd hx hb dX12_secret_123 ?_
              refine g_fi (v := 1) (by decide +kernel) ?_
              refine lv_istore (lv' := [(4, .int 1), (5, .int 2), (0, .ref h0), (1, .int 2), (2, .int p2), (3, .int 5)]) hx hb dX12_secret_124 hl (by decide) rfl ?_
              clear hl
              clear ls
              intro ls hl
              refine lv_iinc (v := 3) (lv' := [(5, .int 3), (4, .int 1), (0, .ref h0), (1, .int 2), (2, .int p2), (3, .int 5)]) hx hb dX12_secret_126 hl (k := 1) rfl (by decide +kernel) (by decide) rfl ?_
              clear hl
              clear ls
              intro ls hl
              refine lv_goto (tgt := 100) hx hb dX12_secret_129 (by decide) ?_
              refine lv_iload hx hb dX12_secret_100 (lv_at hl 0 rfl) ?_
              refine lv_iconst (v := 3) hx hb dX12_secret_102 (by decide) ?_
              refine lv_icmp_ge (tgt := 132) hx hb dX12_secret_103 (by decide) (fun _ => ?_) (fun c9 => absurd c9 (by decide +kernel))
              refine lv_iload hx hb dX12_secret_132 (lv_at hl 1 rfl) ?_
              exact g_iret hx hb hr hlocks ⟨0, (upd (fun _ => 0) ((2 : Int32).toNatClampNeg) 5), fn22193⟩ hP hD hS rfl (Or.inr (Or.inr (Or.inr (Or.inr (Or.inr (Or.inr (Or.inr (Or.inr (Or.inr (Or.inr (Or.inr (Or.inr (Or.inr (Or.inr (Or.inr (Or.inr (Or.inr (Or.inr (Or.inr (Or.inl ⟨rfl, rfl, rfl, (by first | omega | (simp_all; done)), (by first | omega | (simp_all; done)), (by first | omega | (simp_all; done)), (by first | omega | (simp_all; done)), (by first | omega | (simp_all; done)), (by first | omega | (simp_all; done))⟩)))))))))))))))))))) (Nat.le_of_ble_eq_true rfl) (Nat.le_of_ble_eq_true rfl) dX12_secret_134
          · have z22163 := g_ltf z22163; rw [g_l100000] at z22163
            refine lv_iconst (v := 2) hx hb dX12_secret_36 (by decide) ?_
            refine lv_goto (tgt := 41) hx hb dX12_secret_37 (by decide) ?_
            refine gm_put (D := D) (ci := 12) (v := .int 2) (ty := .int) (C := RX12) (T := TX12) (N := 83) hx hb hg inlX12 tyX12 tyX12_ok nmX12 hown hK.1 hP hD hS 0 rfl rfl 57 (by decide) tX12_57 (hg _ gw_276) (by decide +kernel) rfl rfl (Nat.le_of_ble_eq_true rfl) dX12_secret_41 ?_
            clear hP hD hS H locs
            refine fun H locs (hP : va_P D vwCl [(h0, .inr (12, (.ref h4 :: .int wp22065 :: .int wp22066 :: .ref h7 :: .ref h8 :: .ref h9 :: .ref h10 :: .ref h11 :: .ref h12 :: .ref h13 :: .ref h14 :: .ref h15 :: .int wp22067 :: .ref h17 :: .int wp22068 :: .ref h19 :: .int wp22069 :: .ref h21 :: .ref h22 :: .ref h23 :: .ref h24 :: .ref h25 :: .ref h26 :: .ref h27 :: .ref h28 :: .ref h29 :: .ref h30 :: .ref h31 :: .int wp22070 :: .ref h33 :: .ref h34 :: .ref h35 :: .int wp22071 :: [.ref h37, .ref h38, .ref h39, .ref h40, .ref h41, .ref h42, .ref h43, .ref h44, .ref h45, .ref h46, .ref h47, .ref h48, .ref h49, .ref h50, .ref h51, .int wp22072, .int wp22073, .int wp22074, .int wp22075, .int wp22076, .ref h57, .ref h58, .int wp22077, .ref h60, .int 2, .ref h61, .int wp22078, .ref h63, .ref h64, .int wp22079, .ref h66, .ref h67, .int wp22080, .ref h69, .ref h70, .ref h71, .ref h72, .int wp22081, .int wp22082, .int wp22083, .int wp22084, .ref h77, .ref h78, .ref h79, .ref h80, .ref h81, .ref h82, .ref h83, .ref h84, .ref h85]))), (h57, .inl (y 0, 3, .inl (fun _ => 0))), (h58, .inl (y 0, 18, .inl wf22085))] H) (hD : va_D A [(h0, .inr (12, (.ref h4 :: .int wp22065 :: .int wp22066 :: .ref h7 :: .ref h8 :: .ref h9 :: .ref h10 :: .ref h11 :: .ref h12 :: .ref h13 :: .ref h14 :: .ref h15 :: .int wp22067 :: .ref h17 :: .int wp22068 :: .ref h19 :: .int wp22069 :: .ref h21 :: .ref h22 :: .ref h23 :: .ref h24 :: .ref h25 :: .ref h26 :: .ref h27 :: .ref h28 :: .ref h29 :: .ref h30 :: .ref h31 :: .int wp22070 :: .ref h33 :: .ref h34 :: .ref h35 :: .int wp22071 :: [.ref h37, .ref h38, .ref h39, .ref h40, .ref h41, .ref h42, .ref h43, .ref h44, .ref h45, .ref h46, .ref h47, .ref h48, .ref h49, .ref h50, .ref h51, .int wp22072, .int wp22073, .int wp22074, .int wp22075, .int wp22076, .ref h57, .ref h58, .int wp22077, .ref h60, .int 2, .ref h61, .int wp22078, .ref h63, .ref h64, .int wp22079, .ref h66, .ref h67, .int wp22080, .ref h69, .ref h70, .ref h71, .ref h72, .int wp22081, .int wp22082, .int wp22083, .int wp22084, .ref h77, .ref h78, .ref h79, .ref h80, .ref h81, .ref h82, .ref h83, .ref h84, .ref h85]))), (h57, .inl (y 0, 3, .inl (fun _ => 0))), (h58, .inl (y 0, 18, .inl wf22085))]) hS => ?_
            refine lv_aload_n hx hb dX12_secret_44 rfl (lv_at hl 0 rfl) ?_
            refine gm_get (D := D) (ci := 12) (v := .int 2) (C := RX12) (T := TX12) (N := 83) hx hb hg inlX12 hown hK.1 hP 0 rfl rfl 57 (by decide) tX12_57 (hg _ gw_276) rfl dX12_secret_45 ?_
            refine lv_if_le (tgt := 53) hx hb dX12_secret_48 (by decide) (fun c9 => absurd c9 (by decide +kernel)) (fun _ => ?_)
            refine lv_iconst (v := 0) hx hb dX12_secret_51 (by decide) ?_
            exact g_iret hx hb hr hlocks ⟨2, (fun _ => 0), wf22085⟩ hP hD hS rfl (Or.inr (Or.inr (Or.inr (Or.inr (Or.inr (Or.inr (Or.inr (Or.inr (Or.inr (Or.inr (Or.inr (Or.inr (Or.inr (Or.inr (Or.inr (Or.inr (Or.inr (Or.inr (Or.inr (Or.inr (Or.inl ⟨rfl, rfl, rfl, rfl, (by first | omega | (simp_all; done)), (by first | omega | (simp_all; done)), (by first | omega | (simp_all; done)), (by first | omega | (simp_all; done)), (by first | omega | (simp_all; done))⟩))))))))))))))))))))) (Nat.le_of_ble_eq_true rfl) (Nat.le_of_ble_eq_true rfl) dX12_secret_52
        ·
          obtain rfl : p3 = 6 := Int32.toInt_inj.mp (by rw [g_l6]; omega)
          replace hP : va_P D vwCl [(h0, .inr (12, (.ref h4 :: .int wp22065 :: .int wp22066 :: .ref h7 :: .ref h8 :: .ref h9 :: .ref h10 :: .ref h11 :: .ref h12 :: .ref h13 :: .ref h14 :: .ref h15 :: .int wp22067 :: .ref h17 :: .int wp22068 :: .ref h19 :: .int wp22069 :: .ref h21 :: .ref h22 :: .ref h23 :: .ref h24 :: .ref h25 :: .ref h26 :: .ref h27 :: .ref h28 :: .ref h29 :: .ref h30 :: .ref h31 :: .int wp22070 :: .ref h33 :: .ref h34 :: .ref h35 :: .int wp22071 :: [.ref h37, .ref h38, .ref h39, .ref h40, .ref h41, .ref h42, .ref h43, .ref h44, .ref h45, .ref h46, .ref h47, .ref h48, .ref h49, .ref h50, .ref h51, .int wp22072, .int wp22073, .int wp22074, .int wp22075, .int wp22076, .ref h57, .ref h58, .int wp22077, .ref h60, .int 0, .ref h61, .int wp22078, .ref h63, .ref h64, .int wp22079, .ref h66, .ref h67, .int wp22080, .ref h69, .ref h70, .ref h71, .ref h72, .int wp22081, .int wp22082, .int wp22083, .int wp22084, .ref h77, .ref h78, .ref h79, .ref h80, .ref h81, .ref h82, .ref h83, .ref h84, .ref h85]))), (h57, .inl (y 0, 3, .inl (fun _ => 0))), (h58, .inl (y 0, 18, .inl wf22085))] H := hP
          replace hD : va_D A [(h0, .inr (12, (.ref h4 :: .int wp22065 :: .int wp22066 :: .ref h7 :: .ref h8 :: .ref h9 :: .ref h10 :: .ref h11 :: .ref h12 :: .ref h13 :: .ref h14 :: .ref h15 :: .int wp22067 :: .ref h17 :: .int wp22068 :: .ref h19 :: .int wp22069 :: .ref h21 :: .ref h22 :: .ref h23 :: .ref h24 :: .ref h25 :: .ref h26 :: .ref h27 :: .ref h28 :: .ref h29 :: .ref h30 :: .ref h31 :: .int wp22070 :: .ref h33 :: .ref h34 :: .ref h35 :: .int wp22071 :: [.ref h37, .ref h38, .ref h39, .ref h40, .ref h41, .ref h42, .ref h43, .ref h44, .ref h45, .ref h46, .ref h47, .ref h48, .ref h49, .ref h50, .ref h51, .int wp22072, .int wp22073, .int wp22074, .int wp22075, .int wp22076, .ref h57, .ref h58, .int wp22077, .ref h60, .int 0, .ref h61, .int wp22078, .ref h63, .ref h64, .int wp22079, .ref h66, .ref h67, .int wp22080, .ref h69, .ref h70, .ref h71, .ref h72, .int wp22081, .int wp22082, .int wp22083, .int wp22084, .ref h77, .ref h78, .ref h79, .ref h80, .ref h81, .ref h82, .ref h83, .ref h84, .ref h85]))), (h57, .inl (y 0, 3, .inl (fun _ => 0))), (h58, .inl (y 0, 18, .inl wf22085))] := hD
          refine lv_icmp_lt (tgt := 40) hx hb dX12_secret_33 (by decide) (fun z22194 => ?_) (fun z22194 => ?_)
          · have z22194 := g_ltt z22194; rw [g_l1000000] at z22194
            refine lv_iconst (v := 0) hx hb dX12_secret_40 (by decide) ?_
            refine gm_put (D := D) (ci := 12) (v := .int 0) (ty := .int) (C := RX12) (T := TX12) (N := 83) hx hb hg inlX12 tyX12 tyX12_ok nmX12 hown hK.1 hP hD hS 0 rfl rfl 57 (by decide) tX12_57 (hg _ gw_276) (by decide +kernel) rfl rfl (Nat.le_of_ble_eq_true rfl) dX12_secret_41 ?_
            clear hP hD hS H locs
            refine fun H locs (hP : va_P D vwCl [(h0, .inr (12, (.ref h4 :: .int wp22065 :: .int wp22066 :: .ref h7 :: .ref h8 :: .ref h9 :: .ref h10 :: .ref h11 :: .ref h12 :: .ref h13 :: .ref h14 :: .ref h15 :: .int wp22067 :: .ref h17 :: .int wp22068 :: .ref h19 :: .int wp22069 :: .ref h21 :: .ref h22 :: .ref h23 :: .ref h24 :: .ref h25 :: .ref h26 :: .ref h27 :: .ref h28 :: .ref h29 :: .ref h30 :: .ref h31 :: .int wp22070 :: .ref h33 :: .ref h34 :: .ref h35 :: .int wp22071 :: [.ref h37, .ref h38, .ref h39, .ref h40, .ref h41, .ref h42, .ref h43, .ref h44, .ref h45, .ref h46, .ref h47, .ref h48, .ref h49, .ref h50, .ref h51, .int wp22072, .int wp22073, .int wp22074, .int wp22075, .int wp22076, .ref h57, .ref h58, .int wp22077, .ref h60, .int 0, .ref h61, .int wp22078, .ref h63, .ref h64, .int wp22079, .ref h66, .ref h67, .int wp22080, .ref h69, .ref h70, .ref h71, .ref h72, .int wp22081, .int wp22082, .int wp22083, .int wp22084, .ref h77, .ref h78, .ref h79, .ref h80, .ref h81, .ref h82, .ref h83, .ref h84, .ref h85]))), (h57, .inl (y 0, 3, .inl (fun _ => 0))), (h58, .inl (y 0, 18, .inl wf22085))] H) (hD : va_D A [(h0, .inr (12, (.ref h4 :: .int wp22065 :: .int wp22066 :: .ref h7 :: .ref h8 :: .ref h9 :: .ref h10 :: .ref h11 :: .ref h12 :: .ref h13 :: .ref h14 :: .ref h15 :: .int wp22067 :: .ref h17 :: .int wp22068 :: .ref h19 :: .int wp22069 :: .ref h21 :: .ref h22 :: .ref h23 :: .ref h24 :: .ref h25 :: .ref h26 :: .ref h27 :: .ref h28 :: .ref h29 :: .ref h30 :: .ref h31 :: .int wp22070 :: .ref h33 :: .ref h34 :: .ref h35 :: .int wp22071 :: [.ref h37, .ref h38, .ref h39, .ref h40, .ref h41, .ref h42, .ref h43, .ref h44, .ref h45, .ref h46, .ref h47, .ref h48, .ref h49, .ref h50, .ref h51, .int wp22072, .int wp22073, .int wp22074, .int wp22075, .int wp22076, .ref h57, .ref h58, .int wp22077, .ref h60, .int 0, .ref h61, .int wp22078, .ref h63, .ref h64, .int wp22079, .ref h66, .ref h67, .int wp22080, .ref h69, .ref h70, .ref h71, .ref h72, .int wp22081, .int wp22082, .int wp22083, .int wp22084, .ref h77, .ref h78, .ref h79, .ref h80, .ref h81, .ref h82, .ref h83, .ref h84, .ref h85]))), (h57, .inl (y 0, 3, .inl (fun _ => 0))), (h58, .inl (y 0, 18, .inl wf22085))]) hS => ?_
            refine lv_aload_n hx hb dX12_secret_44 rfl (lv_at hl 0 rfl) ?_
            refine gm_get (D := D) (ci := 12) (v := .int 0) (C := RX12) (T := TX12) (N := 83) hx hb hg inlX12 hown hK.1 hP 0 rfl rfl 57 (by decide) tX12_57 (hg _ gw_276) rfl dX12_secret_45 ?_
            refine lv_if_le (tgt := 53) hx hb dX12_secret_48 (by decide) (fun _ => ?_) (fun c9 => absurd c9 (by decide +kernel))
            have hsp : p1 = 0 ∨ p1 = 1 ∨ p1 = 2 := by
              simp only [← Int32.toInt_inj, g_l0, g_l1, g_l2]; omega
            rcases hsp with rfl | rfl | rfl
            ·
              refine lv_aload_n hx hb dX12_secret_53 rfl (lv_at hl 0 rfl) ?_
              refine gm_get (D := D) (ci := 12) (v := .ref h57) (C := RX12) (T := TX12) (N := 83) hx hb hg inlX12 hown hK.1 hP 0 rfl rfl 53 (by decide) tX12_53 (hg _ gw_207) rfl dX12_secret_54 ?_
              refine lv_iload_n hx hb dX12_secret_57 rfl (lv_at hl 1 rfl) ?_
              refine lv_iload_n hx hb dX12_secret_58 rfl (lv_at hl 3 rfl) ?_
              refine va_iast hx hb hK.1 hP hD hS 1 0 rfl rfl (by unfold vp_in; decide +kernel) dX12_secret_59 ?_
              clear hP hD hS H locs
              refine fun H locs (hP : va_P D vwCl [(h0, .inr (12, (.ref h4 :: .int wp22065 :: .int wp22066 :: .ref h7 :: .ref h8 :: .ref h9 :: .ref h10 :: .ref h11 :: .ref h12 :: .ref h13 :: .ref h14 :: .ref h15 :: .int wp22067 :: .ref h17 :: .int wp22068 :: .ref h19 :: .int wp22069 :: .ref h21 :: .ref h22 :: .ref h23 :: .ref h24 :: .ref h25 :: .ref h26 :: .ref h27 :: .ref h28 :: .ref h29 :: .ref h30 :: .ref h31 :: .int wp22070 :: .ref h33 :: .ref h34 :: .ref h35 :: .int wp22071 :: [.ref h37, .ref h38, .ref h39, .ref h40, .ref h41, .ref h42, .ref h43, .ref h44, .ref h45, .ref h46, .ref h47, .ref h48, .ref h49, .ref h50, .ref h51, .int wp22072, .int wp22073, .int wp22074, .int wp22075, .int wp22076, .ref h57, .ref h58, .int wp22077, .ref h60, .int 0, .ref h61, .int wp22078, .ref h63, .ref h64, .int wp22079, .ref h66, .ref h67, .int wp22080, .ref h69, .ref h70, .ref h71, .ref h72, .int wp22081, .int wp22082, .int wp22083, .int wp22084, .ref h77, .ref h78, .ref h79, .ref h80, .ref h81, .ref h82, .ref h83, .ref h84, .ref h85]))), (h57, .inl (y 0, 3, .inl (upd (fun _ => 0) ((0 : Int32).toNatClampNeg) 6))), (h58, .inl (y 0, 18, .inl wf22085))] H) (hD : va_D A [(h0, .inr (12, (.ref h4 :: .int wp22065 :: .int wp22066 :: .ref h7 :: .ref h8 :: .ref h9 :: .ref h10 :: .ref h11 :: .ref h12 :: .ref h13 :: .ref h14 :: .ref h15 :: .int wp22067 :: .ref h17 :: .int wp22068 :: .ref h19 :: .int wp22069 :: .ref h21 :: .ref h22 :: .ref h23 :: .ref h24 :: .ref h25 :: .ref h26 :: .ref h27 :: .ref h28 :: .ref h29 :: .ref h30 :: .ref h31 :: .int wp22070 :: .ref h33 :: .ref h34 :: .ref h35 :: .int wp22071 :: [.ref h37, .ref h38, .ref h39, .ref h40, .ref h41, .ref h42, .ref h43, .ref h44, .ref h45, .ref h46, .ref h47, .ref h48, .ref h49, .ref h50, .ref h51, .int wp22072, .int wp22073, .int wp22074, .int wp22075, .int wp22076, .ref h57, .ref h58, .int wp22077, .ref h60, .int 0, .ref h61, .int wp22078, .ref h63, .ref h64, .int wp22079, .ref h66, .ref h67, .int wp22080, .ref h69, .ref h70, .ref h71, .ref h72, .int wp22081, .int wp22082, .int wp22083, .int wp22084, .ref h77, .ref h78, .ref h79, .ref h80, .ref h81, .ref h82, .ref h83, .ref h84, .ref h85]))), (h57, .inl (y 0, 3, .inl (upd (fun _ => 0) ((0 : Int32).toNatClampNeg) 6))), (h58, .inl (y 0, 18, .inl wf22085))]) hS => ?_
              refine lv_iconst (v := 0) hx hb dX12_secret_60 (by decide) ?_
              refine lv_istore (lv' := [(4, .int 0), (0, .ref h0), (1, .int 0), (2, .int p2), (3, .int 6)]) hx hb dX12_secret_61 hl (by decide) rfl ?_
              clear hl
              clear ls
              intro ls hl
              refine lv_iload hx hb dX12_secret_63 (lv_at hl 0 rfl) ?_
              refine lv_iload_n hx hb dX12_secret_65 rfl (lv_at hl 4 rfl) ?_
              refine lv_icmp_ge (tgt := 94) hx hb dX12_secret_66 (by decide) (fun c9 => absurd c9 (by decide +kernel)) (fun _ => ?_)
              refine lv_aload_n hx hb dX12_secret_69 rfl (lv_at hl 1 rfl) ?_
              refine gm_get (D := D) (ci := 12) (v := .ref h58) (C := RX12) (T := TX12) (N := 83) hx hb hg inlX12 hown hK.1 hP 0 rfl rfl 54 (by decide) tX12_54 (hg _ gw_208) rfl dX12_secret_70 ?_
              refine lv_bipush (v := 6) hx hb dX12_secret_73 (by decide +kernel) ?_
              refine lv_iload_n hx hb dX12_secret_75 rfl (lv_at hl 2 rfl) ?_
              refine lv_imul hx hb dX12_secret_76 ?_
              refine g_fi (v := 0) (by decide +kernel) ?_
              refine lv_iload hx hb dX12_secret_77 (lv_at hl 0 rfl) ?_
              refine lv_iadd hx hb dX12_secret_79 ?_
              refine g_fi (v := 0) (by decide +kernel) ?_
              refine lv_iload_n hx hb dX12_secret_80 rfl (lv_at hl 3 rfl) ?_
              refine lv_iload_n hx hb dX12_secret_81 rfl (lv_at hl 4 rfl) ?_
              refine lv_iload hx hb dX12_secret_82 (lv_at hl 0 rfl) ?_
              refine g_ai (wr := [(h0, .inr (12, (.ref h4 :: .int wp22065 :: .int wp22066 :: .ref h7 :: .ref h8 :: .ref h9 :: .ref h10 :: .ref h11 :: .ref h12 :: .ref h13 :: .ref h14 :: .ref h15 :: .int wp22067 :: .ref h17 :: .int wp22068 :: .ref h19 :: .int wp22069 :: .ref h21 :: .ref h22 :: .ref h23 :: .ref h24 :: .ref h25 :: .ref h26 :: .ref h27 :: .ref h28 :: .ref h29 :: .ref h30 :: .ref h31 :: .int wp22070 :: .ref h33 :: .ref h34 :: .ref h35 :: .int wp22071 :: [.ref h37, .ref h38, .ref h39, .ref h40, .ref h41, .ref h42, .ref h43, .ref h44, .ref h45, .ref h46, .ref h47, .ref h48, .ref h49, .ref h50, .ref h51, .int wp22072, .int wp22073, .int wp22074, .int wp22075, .int wp22076, .ref h57, .ref h58, .int wp22077, .ref h60, .int 0, .ref h61, .int wp22078, .ref h63, .ref h64, .int wp22079, .ref h66, .ref h67, .int wp22080, .ref h69, .ref h70, .ref h71, .ref h72, .int wp22081, .int wp22082, .int wp22083, .int wp22084, .ref h77, .ref h78, .ref h79, .ref h80, .ref h81, .ref h82, .ref h83, .ref h84, .ref h85]))), (h57, .inl (y 0, 3, .inl (upd (fun _ => 0) ((0 : Int32).toNatClampNeg) 6))), (h58, .inl (y 0, 18, .inl wf22085))]) (va_runS (As := [.int p2, .int 6, .int 0]) (rest := [.int 0, .ref h58]) ⟨hx, hb, hml, hown, hg⟩ (k_X12_digitOf_14 l D y aS H.size p2) (va_cwS 3 hg ggS_RX12_484_X12_digitOf rfl rfl rfl (by decide +kernel) ⟨Nat.le_of_ble_eq_true rfl, Nat.le_of_ble_eq_true rfl⟩) (g_preS hK hP hD [] rfl (by decide)) rfl rfl hl.1 rfl (lv_room (Nat.le_of_ble_eq_true rfl)) dX12_secret_84 ⟨Nat.le_of_ble_eq_true rfl, Nat.le_of_ble_eq_true rfl⟩) hP hD hS hA [] [0, 1, 2] rfl rfl (by decide) (by decide) ?_
              clear hP hD hS H locs
              refine fun r22195 u H locs hq hP hD hS => ?_
              subst hq
              replace hP : va_P D vwCl [(h0, .inr (12, (.ref h4 :: .int wp22065 :: .int wp22066 :: .ref h7 :: .ref h8 :: .ref h9 :: .ref h10 :: .ref h11 :: .ref h12 :: .ref h13 :: .ref h14 :: .ref h15 :: .int wp22067 :: .ref h17 :: .int wp22068 :: .ref h19 :: .int wp22069 :: .ref h21 :: .ref h22 :: .ref h23 :: .ref h24 :: .ref h25 :: .ref h26 :: .ref h27 :: .ref h28 :: .ref h29 :: .ref h30 :: .ref h31 :: .int wp22070 :: .ref h33 :: .ref h34 :: .ref h35 :: .int wp22071 :: [.ref h37, .ref h38, .ref h39, .ref h40, .ref h41, .ref h42, .ref h43, .ref h44, .ref h45, .ref h46, .ref h47, .ref h48, .ref h49, .ref h50, .ref h51, .int wp22072, .int wp22073, .int wp22074, .int wp22075, .int wp22076, .ref h57, .ref h58, .int wp22077, .ref h60, .int 0, .ref h61, .int wp22078, .ref h63, .ref h64, .int wp22079, .ref h66, .ref h67, .int wp22080, .ref h69, .ref h70, .ref h71, .ref h72, .int wp22081, .int wp22082, .int wp22083, .int wp22084, .ref h77, .ref h78, .ref h79, .ref h80, .ref h81, .ref h82, .ref h83, .ref h84, .ref h85]))), (h57, .inl (y 0, 3, .inl (upd (fun _ => 0) ((0 : Int32).toNatClampNeg) 6))), (h58, .inl (y 0, 18, .inl wf22085))] H := hP
              replace hD : va_D A [(h0, .inr (12, (.ref h4 :: .int wp22065 :: .int wp22066 :: .ref h7 :: .ref h8 :: .ref h9 :: .ref h10 :: .ref h11 :: .ref h12 :: .ref h13 :: .ref h14 :: .ref h15 :: .int wp22067 :: .ref h17 :: .int wp22068 :: .ref h19 :: .int wp22069 :: .ref h21 :: .ref h22 :: .ref h23 :: .ref h24 :: .ref h25 :: .ref h26 :: .ref h27 :: .ref h28 :: .ref h29 :: .ref h30 :: .ref h31 :: .int wp22070 :: .ref h33 :: .ref h34 :: .ref h35 :: .int wp22071 :: [.ref h37, .ref h38, .ref h39, .ref h40, .ref h41, .ref h42, .ref h43, .ref h44, .ref h45, .ref h46, .ref h47, .ref h48, .ref h49, .ref h50, .ref h51, .int wp22072, .int wp22073, .int wp22074, .int wp22075, .int wp22076, .ref h57, .ref h58, .int wp22077, .ref h60, .int 0, .ref h61, .int wp22078, .ref h63, .ref h64, .int wp22079, .ref h66, .ref h67, .int wp22080, .ref h69, .ref h70, .ref h71, .ref h72, .int wp22081, .int wp22082, .int wp22083, .int wp22084, .ref h77, .ref h78, .ref h79, .ref h80, .ref h81, .ref h82, .ref h83, .ref h84, .ref h85]))), (h57, .inl (y 0, 3, .inl (upd (fun _ => 0) ((0 : Int32).toNatClampNeg) 6))), (h58, .inl (y 0, 18, .inl wf22085))] := hD
              refine va_iast hx hb hK.1 hP hD hS 2 0 rfl rfl (by unfold vp_in; decide +kernel) dX12_secret_87 ?_
              clear hP hD hS H locs
              refine fun H locs (hP : va_P D vwCl [(h0, .inr (12, (.ref h4 :: .int wp22065 :: .int wp22066 :: .ref h7 :: .ref h8 :: .ref h9 :: .ref h10 :: .ref h11 :: .ref h12 :: .ref h13 :: .ref h14 :: .ref h15 :: .int wp22067 :: .ref h17 :: .int wp22068 :: .ref h19 :: .int wp22069 :: .ref h21 :: .ref h22 :: .ref h23 :: .ref h24 :: .ref h25 :: .ref h26 :: .ref h27 :: .ref h28 :: .ref h29 :: .ref h30 :: .ref h31 :: .int wp22070 :: .ref h33 :: .ref h34 :: .ref h35 :: .int wp22071 :: [.ref h37, .ref h38, .ref h39, .ref h40, .ref h41, .ref h42, .ref h43, .ref h44, .ref h45, .ref h46, .ref h47, .ref h48, .ref h49, .ref h50, .ref h51, .int wp22072, .int wp22073, .int wp22074, .int wp22075, .int wp22076, .ref h57, .ref h58, .int wp22077, .ref h60, .int 0, .ref h61, .int wp22078, .ref h63, .ref h64, .int wp22079, .ref h66, .ref h67, .int wp22080, .ref h69, .ref h70, .ref h71, .ref h72, .int wp22081, .int wp22082, .int wp22083, .int wp22084, .ref h77, .ref h78, .ref h79, .ref h80, .ref h81, .ref h82, .ref h83, .ref h84, .ref h85]))), (h57, .inl (y 0, 3, .inl (upd (fun _ => 0) ((0 : Int32).toNatClampNeg) 6))), (h58, .inl (y 0, 18, .inl (upd wf22085 ((0 : Int32).toNatClampNeg) ((p2 / 100000) - (p2 / 100000) / 10 * 10))))] H) (hD : va_D A [(h0, .inr (12, (.ref h4 :: .int wp22065 :: .int wp22066 :: .ref h7 :: .ref h8 :: .ref h9 :: .ref h10 :: .ref h11 :: .ref h12 :: .ref h13 :: .ref h14 :: .ref h15 :: .int wp22067 :: .ref h17 :: .int wp22068 :: .ref h19 :: .int wp22069 :: .ref h21 :: .ref h22 :: .ref h23 :: .ref h24 :: .ref h25 :: .ref h26 :: .ref h27 :: .ref h28 :: .ref h29 :: .ref h30 :: .ref h31 :: .int wp22070 :: .ref h33 :: .ref h34 :: .ref h35 :: .int wp22071 :: [.ref h37, .ref h38, .ref h39, .ref h40, .ref h41, .ref h42, .ref h43, .ref h44, .ref h45, .ref h46, .ref h47, .ref h48, .ref h49, .ref h50, .ref h51, .int wp22072, .int wp22073, .int wp22074, .int wp22075, .int wp22076, .ref h57, .ref h58, .int wp22077, .ref h60, .int 0, .ref h61, .int wp22078, .ref h63, .ref h64, .int wp22079, .ref h66, .ref h67, .int wp22080, .ref h69, .ref h70, .ref h71, .ref h72, .int wp22081, .int wp22082, .int wp22083, .int wp22084, .ref h77, .ref h78, .ref h79, .ref h80, .ref h81, .ref h82, .ref h83, .ref h84, .ref h85]))), (h57, .inl (y 0, 3, .inl (upd (fun _ => 0) ((0 : Int32).toNatClampNeg) 6))), (h58, .inl (y 0, 18, .inl (upd wf22085 ((0 : Int32).toNatClampNeg) ((p2 / 100000) - (p2 / 100000) / 10 * 10))))]) hS => ?_
              obtain ⟨fn22196, hfn22196⟩ : ∃ f9 : Nat → Int32, f9 = (upd wf22085 ((0 : Int32).toNatClampNeg) ((p2 / 100000) - (p2 / 100000) / 10 * 10)) := ⟨_, rfl⟩
              rw [← hfn22196] at hP hD
              clear hfn22196
              refine lv_iinc (v := 1) (lv' := [(4, .int 1), (0, .ref h0), (1, .int 0), (2, .int p2), (3, .int 6)]) hx hb dX12_secret_88 hl (k := 0) rfl (by decide +kernel) (by decide) rfl ?_
              clear hl
              clear ls
              intro ls hl
              refine lv_goto (tgt := 63) hx hb dX12_secret_91 (by decide) ?_
              refine lv_iload hx hb dX12_secret_63 (lv_at hl 0 rfl) ?_
              refine lv_iload_n hx hb dX12_secret_65 rfl (lv_at hl 4 rfl) ?_
              refine lv_icmp_ge (tgt := 94) hx hb dX12_secret_66 (by decide) (fun c9 => absurd c9 (by decide +kernel)) (fun _ => ?_)
              refine lv_aload_n hx hb dX12_secret_69 rfl (lv_at hl 1 rfl) ?_
              refine gm_get (D := D) (ci := 12) (v := .ref h58) (C := RX12) (T := TX12) (N := 83) hx hb hg inlX12 hown hK.1 hP 0 rfl rfl 54 (by decide) tX12_54 (hg _ gw_208) rfl dX12_secret_70 ?_
              refine lv_bipush (v := 6) hx hb dX12_secret_73 (by decide +kernel) ?_
              refine lv_iload_n hx hb dX12_secret_75 rfl (lv_at hl 2 rfl) ?_
              refine lv_imul hx hb dX12_secret_76 ?_
              refine g_fi (v := 0) (by decide +kernel) ?_
              refine lv_iload hx hb dX12_secret_77 (lv_at hl 0 rfl) ?_
              refine lv_iadd hx hb dX12_secret_79 ?_
              refine g_fi (v := 1) (by decide +kernel) ?_
              refine lv_iload_n hx hb dX12_secret_80 rfl (lv_at hl 3 rfl) ?_
              refine lv_iload_n hx hb dX12_secret_81 rfl (lv_at hl 4 rfl) ?_
              refine lv_iload hx hb dX12_secret_82 (lv_at hl 0 rfl) ?_
              refine g_ai (wr := [(h0, .inr (12, (.ref h4 :: .int wp22065 :: .int wp22066 :: .ref h7 :: .ref h8 :: .ref h9 :: .ref h10 :: .ref h11 :: .ref h12 :: .ref h13 :: .ref h14 :: .ref h15 :: .int wp22067 :: .ref h17 :: .int wp22068 :: .ref h19 :: .int wp22069 :: .ref h21 :: .ref h22 :: .ref h23 :: .ref h24 :: .ref h25 :: .ref h26 :: .ref h27 :: .ref h28 :: .ref h29 :: .ref h30 :: .ref h31 :: .int wp22070 :: .ref h33 :: .ref h34 :: .ref h35 :: .int wp22071 :: [.ref h37, .ref h38, .ref h39, .ref h40, .ref h41, .ref h42, .ref h43, .ref h44, .ref h45, .ref h46, .ref h47, .ref h48, .ref h49, .ref h50, .ref h51, .int wp22072, .int wp22073, .int wp22074, .int wp22075, .int wp22076, .ref h57, .ref h58, .int wp22077, .ref h60, .int 0, .ref h61, .int wp22078, .ref h63, .ref h64, .int wp22079, .ref h66, .ref h67, .int wp22080, .ref h69, .ref h70, .ref h71, .ref h72, .int wp22081, .int wp22082, .int wp22083, .int wp22084, .ref h77, .ref h78, .ref h79, .ref h80, .ref h81, .ref h82, .ref h83, .ref h84, .ref h85]))), (h57, .inl (y 0, 3, .inl (upd (fun _ => 0) ((0 : Int32).toNatClampNeg) 6))), (h58, .inl (y 0, 18, .inl fn22196))]) (va_runS (As := [.int p2, .int 6, .int 1]) (rest := [.int 1, .ref h58]) ⟨hx, hb, hml, hown, hg⟩ (k_X12_digitOf_15 l D y aS H.size p2) (va_cwS 3 hg ggS_RX12_484_X12_digitOf rfl rfl rfl (by decide +kernel) ⟨Nat.le_of_ble_eq_true rfl, Nat.le_of_ble_eq_true rfl⟩) (g_preS hK hP hD [] rfl (by decide)) rfl rfl hl.1 rfl (lv_room (Nat.le_of_ble_eq_true rfl)) dX12_secret_84 ⟨Nat.le_of_ble_eq_true rfl, Nat.le_of_ble_eq_true rfl⟩) hP hD hS hA [] [0, 1, 2] rfl rfl (by decide) (by decide) ?_
              clear hP hD hS H locs
              refine fun r22197 u H locs hq hP hD hS => ?_
              subst hq
              replace hP : va_P D vwCl [(h0, .inr (12, (.ref h4 :: .int wp22065 :: .int wp22066 :: .ref h7 :: .ref h8 :: .ref h9 :: .ref h10 :: .ref h11 :: .ref h12 :: .ref h13 :: .ref h14 :: .ref h15 :: .int wp22067 :: .ref h17 :: .int wp22068 :: .ref h19 :: .int wp22069 :: .ref h21 :: .ref h22 :: .ref h23 :: .ref h24 :: .ref h25 :: .ref h26 :: .ref h27 :: .ref h28 :: .ref h29 :: .ref h30 :: .ref h31 :: .int wp22070 :: .ref h33 :: .ref h34 :: .ref h35 :: .int wp22071 :: [.ref h37, .ref h38, .ref h39, .ref h40, .ref h41, .ref h42, .ref h43, .ref h44, .ref h45, .ref h46, .ref h47, .ref h48, .ref h49, .ref h50, .ref h51, .int wp22072, .int wp22073, .int wp22074, .int wp22075, .int wp22076, .ref h57, .ref h58, .int wp22077, .ref h60, .int 0, .ref h61, .int wp22078, .ref h63, .ref h64, .int wp22079, .ref h66, .ref h67, .int wp22080, .ref h69, .ref h70, .ref h71, .ref h72, .int wp22081, .int wp22082, .int wp22083, .int wp22084, .ref h77, .ref h78, .ref h79, .ref h80, .ref h81, .ref h82, .ref h83, .ref h84, .ref h85]))), (h57, .inl (y 0, 3, .inl (upd (fun _ => 0) ((0 : Int32).toNatClampNeg) 6))), (h58, .inl (y 0, 18, .inl fn22196))] H := hP
              replace hD : va_D A [(h0, .inr (12, (.ref h4 :: .int wp22065 :: .int wp22066 :: .ref h7 :: .ref h8 :: .ref h9 :: .ref h10 :: .ref h11 :: .ref h12 :: .ref h13 :: .ref h14 :: .ref h15 :: .int wp22067 :: .ref h17 :: .int wp22068 :: .ref h19 :: .int wp22069 :: .ref h21 :: .ref h22 :: .ref h23 :: .ref h24 :: .ref h25 :: .ref h26 :: .ref h27 :: .ref h28 :: .ref h29 :: .ref h30 :: .ref h31 :: .int wp22070 :: .ref h33 :: .ref h34 :: .ref h35 :: .int wp22071 :: [.ref h37, .ref h38, .ref h39, .ref h40, .ref h41, .ref h42, .ref h43, .ref h44, .ref h45, .ref h46, .ref h47, .ref h48, .ref h49, .ref h50, .ref h51, .int wp22072, .int wp22073, .int wp22074, .int wp22075, .int wp22076, .ref h57, .ref h58, .int wp22077, .ref h60, .int 0, .ref h61, .int wp22078, .ref h63, .ref h64, .int wp22079, .ref h66, .ref h67, .int wp22080, .ref h69, .ref h70, .ref h71, .ref h72, .int wp22081, .int wp22082, .int wp22083, .int wp22084, .ref h77, .ref h78, .ref h79, .ref h80, .ref h81, .ref h82, .ref h83, .ref h84, .ref h85]))), (h57, .inl (y 0, 3, .inl (upd (fun _ => 0) ((0 : Int32).toNatClampNeg) 6))), (h58, .inl (y 0, 18, .inl fn22196))] := hD
              refine va_iast hx hb hK.1 hP hD hS 2 0 rfl rfl (by unfold vp_in; decide +kernel) dX12_secret_87 ?_
              clear hP hD hS H locs
              refine fun H locs (hP : va_P D vwCl [(h0, .inr (12, (.ref h4 :: .int wp22065 :: .int wp22066 :: .ref h7 :: .ref h8 :: .ref h9 :: .ref h10 :: .ref h11 :: .ref h12 :: .ref h13 :: .ref h14 :: .ref h15 :: .int wp22067 :: .ref h17 :: .int wp22068 :: .ref h19 :: .int wp22069 :: .ref h21 :: .ref h22 :: .ref h23 :: .ref h24 :: .ref h25 :: .ref h26 :: .ref h27 :: .ref h28 :: .ref h29 :: .ref h30 :: .ref h31 :: .int wp22070 :: .ref h33 :: .ref h34 :: .ref h35 :: .int wp22071 :: [.ref h37, .ref h38, .ref h39, .ref h40, .ref h41, .ref h42, .ref h43, .ref h44, .ref h45, .ref h46, .ref h47, .ref h48, .ref h49, .ref h50, .ref h51, .int wp22072, .int wp22073, .int wp22074, .int wp22075, .int wp22076, .ref h57, .ref h58, .int wp22077, .ref h60, .int 0, .ref h61, .int wp22078, .ref h63, .ref h64, .int wp22079, .ref h66, .ref h67, .int wp22080, .ref h69, .ref h70, .ref h71, .ref h72, .int wp22081, .int wp22082, .int wp22083, .int wp22084, .ref h77, .ref h78, .ref h79, .ref h80, .ref h81, .ref h82, .ref h83, .ref h84, .ref h85]))), (h57, .inl (y 0, 3, .inl (upd (fun _ => 0) ((0 : Int32).toNatClampNeg) 6))), (h58, .inl (y 0, 18, .inl (upd fn22196 ((1 : Int32).toNatClampNeg) ((p2 / 10000) - (p2 / 10000) / 10 * 10))))] H) (hD : va_D A [(h0, .inr (12, (.ref h4 :: .int wp22065 :: .int wp22066 :: .ref h7 :: .ref h8 :: .ref h9 :: .ref h10 :: .ref h11 :: .ref h12 :: .ref h13 :: .ref h14 :: .ref h15 :: .int wp22067 :: .ref h17 :: .int wp22068 :: .ref h19 :: .int wp22069 :: .ref h21 :: .ref h22 :: .ref h23 :: .ref h24 :: .ref h25 :: .ref h26 :: .ref h27 :: .ref h28 :: .ref h29 :: .ref h30 :: .ref h31 :: .int wp22070 :: .ref h33 :: .ref h34 :: .ref h35 :: .int wp22071 :: [.ref h37, .ref h38, .ref h39, .ref h40, .ref h41, .ref h42, .ref h43, .ref h44, .ref h45, .ref h46, .ref h47, .ref h48, .ref h49, .ref h50, .ref h51, .int wp22072, .int wp22073, .int wp22074, .int wp22075, .int wp22076, .ref h57, .ref h58, .int wp22077, .ref h60, .int 0, .ref h61, .int wp22078, .ref h63, .ref h64, .int wp22079, .ref h66, .ref h67, .int wp22080, .ref h69, .ref h70, .ref h71, .ref h72, .int wp22081, .int wp22082, .int wp22083, .int wp22084, .ref h77, .ref h78, .ref h79, .ref h80, .ref h81, .ref h82, .ref h83, .ref h84, .ref h85]))), (h57, .inl (y 0, 3, .inl (upd (fun _ => 0) ((0 : Int32).toNatClampNeg) 6))), (h58, .inl (y 0, 18, .inl (upd fn22196 ((1 : Int32).toNatClampNeg) ((p2 / 10000) - (p2 / 10000) / 10 * 10))))]) hS => ?_
              obtain ⟨fn22198, hfn22198⟩ : ∃ f9 : Nat → Int32, f9 = (upd fn22196 ((1 : Int32).toNatClampNeg) ((p2 / 10000) - (p2 / 10000) / 10 * 10)) := ⟨_, rfl⟩
              rw [← hfn22198] at hP hD
              clear hfn22198
              refine lv_iinc (v := 2) (lv' := [(4, .int 2), (0, .ref h0), (1, .int 0), (2, .int p2), (3, .int 6)]) hx hb dX12_secret_88 hl (k := 0) rfl (by decide +kernel) (by decide) rfl ?_
              clear hl
              clear ls
              intro ls hl
              refine lv_goto (tgt := 63) hx hb dX12_secret_91 (by decide) ?_
              refine lv_iload hx hb dX12_secret_63 (lv_at hl 0 rfl) ?_
              refine lv_iload_n hx hb dX12_secret_65 rfl (lv_at hl 4 rfl) ?_
              refine lv_icmp_ge (tgt := 94) hx hb dX12_secret_66 (by decide) (fun c9 => absurd c9 (by decide +kernel)) (fun _ => ?_)
              refine lv_aload_n hx hb dX12_secret_69 rfl (lv_at hl 1 rfl) ?_
              refine gm_get (D := D) (ci := 12) (v := .ref h58) (C := RX12) (T := TX12) (N := 83) hx hb hg inlX12 hown hK.1 hP 0 rfl rfl 54 (by decide) tX12_54 (hg _ gw_208) rfl dX12_secret_70 ?_
              refine lv_bipush (v := 6) hx hb dX12_secret_73 (by decide +kernel) ?_
              refine lv_iload_n hx hb dX12_secret_75 rfl (lv_at hl 2 rfl) ?_
              refine lv_imul hx hb dX12_secret_76 ?_
              refine g_fi (v := 0) (by decide +kernel) ?_
              refine lv_iload hx hb dX12_secret_77 (lv_at hl 0 rfl) ?_
              refine lv_iadd hx hb dX12_secret_79 ?_
              refine g_fi (v := 2) (by decide +kernel) ?_
              refine lv_iload_n hx hb dX12_secret_80 rfl (lv_at hl 3 rfl) ?_
              refine lv_iload_n hx hb dX12_secret_81 rfl (lv_at hl 4 rfl) ?_
              refine lv_iload hx hb dX12_secret_82 (lv_at hl 0 rfl) ?_
              refine g_ai (wr := [(h0, .inr (12, (.ref h4 :: .int wp22065 :: .int wp22066 :: .ref h7 :: .ref h8 :: .ref h9 :: .ref h10 :: .ref h11 :: .ref h12 :: .ref h13 :: .ref h14 :: .ref h15 :: .int wp22067 :: .ref h17 :: .int wp22068 :: .ref h19 :: .int wp22069 :: .ref h21 :: .ref h22 :: .ref h23 :: .ref h24 :: .ref h25 :: .ref h26 :: .ref h27 :: .ref h28 :: .ref h29 :: .ref h30 :: .ref h31 :: .int wp22070 :: .ref h33 :: .ref h34 :: .ref h35 :: .int wp22071 :: [.ref h37, .ref h38, .ref h39, .ref h40, .ref h41, .ref h42, .ref h43, .ref h44, .ref h45, .ref h46, .ref h47, .ref h48, .ref h49, .ref h50, .ref h51, .int wp22072, .int wp22073, .int wp22074, .int wp22075, .int wp22076, .ref h57, .ref h58, .int wp22077, .ref h60, .int 0, .ref h61, .int wp22078, .ref h63, .ref h64, .int wp22079, .ref h66, .ref h67, .int wp22080, .ref h69, .ref h70, .ref h71, .ref h72, .int wp22081, .int wp22082, .int wp22083, .int wp22084, .ref h77, .ref h78, .ref h79, .ref h80, .ref h81, .ref h82, .ref h83, .ref h84, .ref h85]))), (h57, .inl (y 0, 3, .inl (upd (fun _ => 0) ((0 : Int32).toNatClampNeg) 6))), (h58, .inl (y 0, 18, .inl fn22198))]) (va_runS (As := [.int p2, .int 6, .int 2]) (rest := [.int 2, .ref h58]) ⟨hx, hb, hml, hown, hg⟩ (k_X12_digitOf_16 l D y aS H.size p2) (va_cwS 3 hg ggS_RX12_484_X12_digitOf rfl rfl rfl (by decide +kernel) ⟨Nat.le_of_ble_eq_true rfl, Nat.le_of_ble_eq_true rfl⟩) (g_preS hK hP hD [] rfl (by decide)) rfl rfl hl.1 rfl (lv_room (Nat.le_of_ble_eq_true rfl)) dX12_secret_84 ⟨Nat.le_of_ble_eq_true rfl, Nat.le_of_ble_eq_true rfl⟩) hP hD hS hA [] [0, 1, 2] rfl rfl (by decide) (by decide) ?_
              clear hP hD hS H locs
              refine fun r22199 u H locs hq hP hD hS => ?_
              subst hq
              replace hP : va_P D vwCl [(h0, .inr (12, (.ref h4 :: .int wp22065 :: .int wp22066 :: .ref h7 :: .ref h8 :: .ref h9 :: .ref h10 :: .ref h11 :: .ref h12 :: .ref h13 :: .ref h14 :: .ref h15 :: .int wp22067 :: .ref h17 :: .int wp22068 :: .ref h19 :: .int wp22069 :: .ref h21 :: .ref h22 :: .ref h23 :: .ref h24 :: .ref h25 :: .ref h26 :: .ref h27 :: .ref h28 :: .ref h29 :: .ref h30 :: .ref h31 :: .int wp22070 :: .ref h33 :: .ref h34 :: .ref h35 :: .int wp22071 :: [.ref h37, .ref h38, .ref h39, .ref h40, .ref h41, .ref h42, .ref h43, .ref h44, .ref h45, .ref h46, .ref h47, .ref h48, .ref h49, .ref h50, .ref h51, .int wp22072, .int wp22073, .int wp22074, .int wp22075, .int wp22076, .ref h57, .ref h58, .int wp22077, .ref h60, .int 0, .ref h61, .int wp22078, .ref h63, .ref h64, .int wp22079, .ref h66, .ref h67, .int wp22080, .ref h69, .ref h70, .ref h71, .ref h72, .int wp22081, .int wp22082, .int wp22083, .int wp22084, .ref h77, .ref h78, .ref h79, .ref h80, .ref h81, .ref h82, .ref h83, .ref h84, .ref h85]))), (h57, .inl (y 0, 3, .inl (upd (fun _ => 0) ((0 : Int32).toNatClampNeg) 6))), (h58, .inl (y 0, 18, .inl fn22198))] H := hP
              replace hD : va_D A [(h0, .inr (12, (.ref h4 :: .int wp22065 :: .int wp22066 :: .ref h7 :: .ref h8 :: .ref h9 :: .ref h10 :: .ref h11 :: .ref h12 :: .ref h13 :: .ref h14 :: .ref h15 :: .int wp22067 :: .ref h17 :: .int wp22068 :: .ref h19 :: .int wp22069 :: .ref h21 :: .ref h22 :: .ref h23 :: .ref h24 :: .ref h25 :: .ref h26 :: .ref h27 :: .ref h28 :: .ref h29 :: .ref h30 :: .ref h31 :: .int wp22070 :: .ref h33 :: .ref h34 :: .ref h35 :: .int wp22071 :: [.ref h37, .ref h38, .ref h39, .ref h40, .ref h41, .ref h42, .ref h43, .ref h44, .ref h45, .ref h46, .ref h47, .ref h48, .ref h49, .ref h50, .ref h51, .int wp22072, .int wp22073, .int wp22074, .int wp22075, .int wp22076, .ref h57, .ref h58, .int wp22077, .ref h60, .int 0, .ref h61, .int wp22078, .ref h63, .ref h64, .int wp22079, .ref h66, .ref h67, .int wp22080, .ref h69, .ref h70, .ref h71, .ref h72, .int wp22081, .int wp22082, .int wp22083, .int wp22084, .ref h77, .ref h78, .ref h79, .ref h80, .ref h81, .ref h82, .ref h83, .ref h84, .ref h85]))), (h57, .inl (y 0, 3, .inl (upd (fun _ => 0) ((0 : Int32).toNatClampNeg) 6))), (h58, .inl (y 0, 18, .inl fn22198))] := hD
              refine va_iast hx hb hK.1 hP hD hS 2 0 rfl rfl (by unfold vp_in; decide +kernel) dX12_secret_87 ?_
              clear hP hD hS H locs
              refine fun H locs (hP : va_P D vwCl [(h0, .inr (12, (.ref h4 :: .int wp22065 :: .int wp22066 :: .ref h7 :: .ref h8 :: .ref h9 :: .ref h10 :: .ref h11 :: .ref h12 :: .ref h13 :: .ref h14 :: .ref h15 :: .int wp22067 :: .ref h17 :: .int wp22068 :: .ref h19 :: .int wp22069 :: .ref h21 :: .ref h22 :: .ref h23 :: .ref h24 :: .ref h25 :: .ref h26 :: .ref h27 :: .ref h28 :: .ref h29 :: .ref h30 :: .ref h31 :: .int wp22070 :: .ref h33 :: .ref h34 :: .ref h35 :: .int wp22071 :: [.ref h37, .ref h38, .ref h39, .ref h40, .ref h41, .ref h42, .ref h43, .ref h44, .ref h45, .ref h46, .ref h47, .ref h48, .ref h49, .ref h50, .ref h51, .int wp22072, .int wp22073, .int wp22074, .int wp22075, .int wp22076, .ref h57, .ref h58, .int wp22077, .ref h60, .int 0, .ref h61, .int wp22078, .ref h63, .ref h64, .int wp22079, .ref h66, .ref h67, .int wp22080, .ref h69, .ref h70, .ref h71, .ref h72, .int wp22081, .int wp22082, .int wp22083, .int wp22084, .ref h77, .ref h78, .ref h79, .ref h80, .ref h81, .ref h82, .ref h83, .ref h84, .ref h85]))), (h57, .inl (y 0, 3, .inl (upd (fun _ => 0) ((0 : Int32).toNatClampNeg) 6))), (h58, .inl (y 0, 18, .inl (upd fn22198 ((2 : Int32).toNatClampNeg) ((p2 / 1000) - (p2 / 1000) / 10 * 10))))] H) (hD : va_D A [(h0, .inr (12, (.ref h4 :: .int wp22065 :: .int wp22066 :: .ref h7 :: .ref h8 :: .ref h9 :: .ref h10 :: .ref h11 :: .ref h12 :: .ref h13 :: .ref h14 :: .ref h15 :: .int wp22067 :: .ref h17 :: .int wp22068 :: .ref h19 :: .int wp22069 :: .ref h21 :: .ref h22 :: .ref h23 :: .ref h24 :: .ref h25 :: .ref h26 :: .ref h27 :: .ref h28 :: .ref h29 :: .ref h30 :: .ref h31 :: .int wp22070 :: .ref h33 :: .ref h34 :: .ref h35 :: .int wp22071 :: [.ref h37, .ref h38, .ref h39, .ref h40, .ref h41, .ref h42, .ref h43, .ref h44, .ref h45, .ref h46, .ref h47, .ref h48, .ref h49, .ref h50, .ref h51, .int wp22072, .int wp22073, .int wp22074, .int wp22075, .int wp22076, .ref h57, .ref h58, .int wp22077, .ref h60, .int 0, .ref h61, .int wp22078, .ref h63, .ref h64, .int wp22079, .ref h66, .ref h67, .int wp22080, .ref h69, .ref h70, .ref h71, .ref h72, .int wp22081, .int wp22082, .int wp22083, .int wp22084, .ref h77, .ref h78, .ref h79, .ref h80, .ref h81, .ref h82, .ref h83, .ref h84, .ref h85]))), (h57, .inl (y 0, 3, .inl (upd (fun _ => 0) ((0 : Int32).toNatClampNeg) 6))), (h58, .inl (y 0, 18, .inl (upd fn22198 ((2 : Int32).toNatClampNeg) ((p2 / 1000) - (p2 / 1000) / 10 * 10))))]) hS => ?_
              obtain ⟨fn22200, hfn22200⟩ : ∃ f9 : Nat → Int32, f9 = (upd fn22198 ((2 : Int32).toNatClampNeg) ((p2 / 1000) - (p2 / 1000) / 10 * 10)) := ⟨_, rfl⟩
              rw [← hfn22200] at hP hD
              clear hfn22200
              refine lv_iinc (v := 3) (lv' := [(4, .int 3), (0, .ref h0), (1, .int 0), (2, .int p2), (3, .int 6)]) hx hb dX12_secret_88 hl (k := 0) rfl (by decide +kernel) (by decide) rfl ?_
              clear hl
              clear ls
              intro ls hl
              refine lv_goto (tgt := 63) hx hb dX12_secret_91 (by decide) ?_
              refine lv_iload hx hb dX12_secret_63 (lv_at hl 0 rfl) ?_
              refine lv_iload_n hx hb dX12_secret_65 rfl (lv_at hl 4 rfl) ?_
              refine lv_icmp_ge (tgt := 94) hx hb dX12_secret_66 (by decide) (fun c9 => absurd c9 (by decide +kernel)) (fun _ => ?_)
              refine lv_aload_n hx hb dX12_secret_69 rfl (lv_at hl 1 rfl) ?_
              refine gm_get (D := D) (ci := 12) (v := .ref h58) (C := RX12) (T := TX12) (N := 83) hx hb hg inlX12 hown hK.1 hP 0 rfl rfl 54 (by decide) tX12_54 (hg _ gw_208) rfl dX12_secret_70 ?_
              refine lv_bipush (v := 6) hx hb dX12_secret_73 (by decide +kernel) ?_
              refine lv_iload_n hx hb dX12_secret_75 rfl (lv_at hl 2 rfl) ?_
              refine lv_imul hx hb dX12_secret_76 ?_
              refine g_fi (v := 0) (by decide +kernel) ?_
              refine lv_iload hx hb dX12_secret_77 (lv_at hl 0 rfl) ?_
              refine lv_iadd hx hb dX12_secret_79 ?_
              refine g_fi (v := 3) (by decide +kernel) ?_
              refine lv_iload_n hx hb dX12_secret_80 rfl (lv_at hl 3 rfl) ?_
              refine lv_iload_n hx hb dX12_secret_81 rfl (lv_at hl 4 rfl) ?_
              refine lv_iload hx hb dX12_secret_82 (lv_at hl 0 rfl) ?_
              refine g_ai (wr := [(h0, .inr (12, (.ref h4 :: .int wp22065 :: .int wp22066 :: .ref h7 :: .ref h8 :: .ref h9 :: .ref h10 :: .ref h11 :: .ref h12 :: .ref h13 :: .ref h14 :: .ref h15 :: .int wp22067 :: .ref h17 :: .int wp22068 :: .ref h19 :: .int wp22069 :: .ref h21 :: .ref h22 :: .ref h23 :: .ref h24 :: .ref h25 :: .ref h26 :: .ref h27 :: .ref h28 :: .ref h29 :: .ref h30 :: .ref h31 :: .int wp22070 :: .ref h33 :: .ref h34 :: .ref h35 :: .int wp22071 :: [.ref h37, .ref h38, .ref h39, .ref h40, .ref h41, .ref h42, .ref h43, .ref h44, .ref h45, .ref h46, .ref h47, .ref h48, .ref h49, .ref h50, .ref h51, .int wp22072, .int wp22073, .int wp22074, .int wp22075, .int wp22076, .ref h57, .ref h58, .int wp22077, .ref h60, .int 0, .ref h61, .int wp22078, .ref h63, .ref h64, .int wp22079, .ref h66, .ref h67, .int wp22080, .ref h69, .ref h70, .ref h71, .ref h72, .int wp22081, .int wp22082, .int wp22083, .int wp22084, .ref h77, .ref h78, .ref h79, .ref h80, .ref h81, .ref h82, .ref h83, .ref h84, .ref h85]))), (h57, .inl (y 0, 3, .inl (upd (fun _ => 0) ((0 : Int32).toNatClampNeg) 6))), (h58, .inl (y 0, 18, .inl fn22200))]) (va_runS (As := [.int p2, .int 6, .int 3]) (rest := [.int 3, .ref h58]) ⟨hx, hb, hml, hown, hg⟩ (k_X12_digitOf_17 l D y aS H.size p2) (va_cwS 3 hg ggS_RX12_484_X12_digitOf rfl rfl rfl (by decide +kernel) ⟨Nat.le_of_ble_eq_true rfl, Nat.le_of_ble_eq_true rfl⟩) (g_preS hK hP hD [] rfl (by decide)) rfl rfl hl.1 rfl (lv_room (Nat.le_of_ble_eq_true rfl)) dX12_secret_84 ⟨Nat.le_of_ble_eq_true rfl, Nat.le_of_ble_eq_true rfl⟩) hP hD hS hA [] [0, 1, 2] rfl rfl (by decide) (by decide) ?_
              clear hP hD hS H locs
              refine fun r22201 u H locs hq hP hD hS => ?_
              subst hq
              replace hP : va_P D vwCl [(h0, .inr (12, (.ref h4 :: .int wp22065 :: .int wp22066 :: .ref h7 :: .ref h8 :: .ref h9 :: .ref h10 :: .ref h11 :: .ref h12 :: .ref h13 :: .ref h14 :: .ref h15 :: .int wp22067 :: .ref h17 :: .int wp22068 :: .ref h19 :: .int wp22069 :: .ref h21 :: .ref h22 :: .ref h23 :: .ref h24 :: .ref h25 :: .ref h26 :: .ref h27 :: .ref h28 :: .ref h29 :: .ref h30 :: .ref h31 :: .int wp22070 :: .ref h33 :: .ref h34 :: .ref h35 :: .int wp22071 :: [.ref h37, .ref h38, .ref h39, .ref h40, .ref h41, .ref h42, .ref h43, .ref h44, .ref h45, .ref h46, .ref h47, .ref h48, .ref h49, .ref h50, .ref h51, .int wp22072, .int wp22073, .int wp22074, .int wp22075, .int wp22076, .ref h57, .ref h58, .int wp22077, .ref h60, .int 0, .ref h61, .int wp22078, .ref h63, .ref h64, .int wp22079, .ref h66, .ref h67, .int wp22080, .ref h69, .ref h70, .ref h71, .ref h72, .int wp22081, .int wp22082, .int wp22083, .int wp22084, .ref h77, .ref h78, .ref h79, .ref h80, .ref h81, .ref h82, .ref h83, .ref h84, .ref h85]))), (h57, .inl (y 0, 3, .inl (upd (fun _ => 0) ((0 : Int32).toNatClampNeg) 6))), (h58, .inl (y 0, 18, .inl fn22200))] H := hP
              replace hD : va_D A [(h0, .inr (12, (.ref h4 :: .int wp22065 :: .int wp22066 :: .ref h7 :: .ref h8 :: .ref h9 :: .ref h10 :: .ref h11 :: .ref h12 :: .ref h13 :: .ref h14 :: .ref h15 :: .int wp22067 :: .ref h17 :: .int wp22068 :: .ref h19 :: .int wp22069 :: .ref h21 :: .ref h22 :: .ref h23 :: .ref h24 :: .ref h25 :: .ref h26 :: .ref h27 :: .ref h28 :: .ref h29 :: .ref h30 :: .ref h31 :: .int wp22070 :: .ref h33 :: .ref h34 :: .ref h35 :: .int wp22071 :: [.ref h37, .ref h38, .ref h39, .ref h40, .ref h41, .ref h42, .ref h43, .ref h44, .ref h45, .ref h46, .ref h47, .ref h48, .ref h49, .ref h50, .ref h51, .int wp22072, .int wp22073, .int wp22074, .int wp22075, .int wp22076, .ref h57, .ref h58, .int wp22077, .ref h60, .int 0, .ref h61, .int wp22078, .ref h63, .ref h64, .int wp22079, .ref h66, .ref h67, .int wp22080, .ref h69, .ref h70, .ref h71, .ref h72, .int wp22081, .int wp22082, .int wp22083, .int wp22084, .ref h77, .ref h78, .ref h79, .ref h80, .ref h81, .ref h82, .ref h83, .ref h84, .ref h85]))), (h57, .inl (y 0, 3, .inl (upd (fun _ => 0) ((0 : Int32).toNatClampNeg) 6))), (h58, .inl (y 0, 18, .inl fn22200))] := hD
              refine va_iast hx hb hK.1 hP hD hS 2 0 rfl rfl (by unfold vp_in; decide +kernel) dX12_secret_87 ?_
              clear hP hD hS H locs
              refine fun H locs (hP : va_P D vwCl [(h0, .inr (12, (.ref h4 :: .int wp22065 :: .int wp22066 :: .ref h7 :: .ref h8 :: .ref h9 :: .ref h10 :: .ref h11 :: .ref h12 :: .ref h13 :: .ref h14 :: .ref h15 :: .int wp22067 :: .ref h17 :: .int wp22068 :: .ref h19 :: .int wp22069 :: .ref h21 :: .ref h22 :: .ref h23 :: .ref h24 :: .ref h25 :: .ref h26 :: .ref h27 :: .ref h28 :: .ref h29 :: .ref h30 :: .ref h31 :: .int wp22070 :: .ref h33 :: .ref h34 :: .ref h35 :: .int wp22071 :: [.ref h37, .ref h38, .ref h39, .ref h40, .ref h41, .ref h42, .ref h43, .ref h44, .ref h45, .ref h46, .ref h47, .ref h48, .ref h49, .ref h50, .ref h51, .int wp22072, .int wp22073, .int wp22074, .int wp22075, .int wp22076, .ref h57, .ref h58, .int wp22077, .ref h60, .int 0, .ref h61, .int wp22078, .ref h63, .ref h64, .int wp22079, .ref h66, .ref h67, .int wp22080, .ref h69, .ref h70, .ref h71, .ref h72, .int wp22081, .int wp22082, .int wp22083, .int wp22084, .ref h77, .ref h78, .ref h79, .ref h80, .ref h81, .ref h82, .ref h83, .ref h84, .ref h85]))), (h57, .inl (y 0, 3, .inl (upd (fun _ => 0) ((0 : Int32).toNatClampNeg) 6))), (h58, .inl (y 0, 18, .inl (upd fn22200 ((3 : Int32).toNatClampNeg) ((p2 / 100) - (p2 / 100) / 10 * 10))))] H) (hD : va_D A [(h0, .inr (12, (.ref h4 :: .int wp22065 :: .int wp22066 :: .ref h7 :: .ref h8 :: .ref h9 :: .ref h10 :: .ref h11 :: .ref h12 :: .ref h13 :: .ref h14 :: .ref h15 :: .int wp22067 :: .ref h17 :: .int wp22068 :: .ref h19 :: .int wp22069 :: .ref h21 :: .ref h22 :: .ref h23 :: .ref h24 :: .ref h25 :: .ref h26 :: .ref h27 :: .ref h28 :: .ref h29 :: .ref h30 :: .ref h31 :: .int wp22070 :: .ref h33 :: .ref h34 :: .ref h35 :: .int wp22071 :: [.ref h37, .ref h38, .ref h39, .ref h40, .ref h41, .ref h42, .ref h43, .ref h44, .ref h45, .ref h46, .ref h47, .ref h48, .ref h49, .ref h50, .ref h51, .int wp22072, .int wp22073, .int wp22074, .int wp22075, .int wp22076, .ref h57, .ref h58, .int wp22077, .ref h60, .int 0, .ref h61, .int wp22078, .ref h63, .ref h64, .int wp22079, .ref h66, .ref h67, .int wp22080, .ref h69, .ref h70, .ref h71, .ref h72, .int wp22081, .int wp22082, .int wp22083, .int wp22084, .ref h77, .ref h78, .ref h79, .ref h80, .ref h81, .ref h82, .ref h83, .ref h84, .ref h85]))), (h57, .inl (y 0, 3, .inl (upd (fun _ => 0) ((0 : Int32).toNatClampNeg) 6))), (h58, .inl (y 0, 18, .inl (upd fn22200 ((3 : Int32).toNatClampNeg) ((p2 / 100) - (p2 / 100) / 10 * 10))))]) hS => ?_
              obtain ⟨fn22202, hfn22202⟩ : ∃ f9 : Nat → Int32, f9 = (upd fn22200 ((3 : Int32).toNatClampNeg) ((p2 / 100) - (p2 / 100) / 10 * 10)) := ⟨_, rfl⟩
              rw [← hfn22202] at hP hD
              clear hfn22202
              refine lv_iinc (v := 4) (lv' := [(4, .int 4), (0, .ref h0), (1, .int 0), (2, .int p2), (3, .int 6)]) hx hb dX12_secret_88 hl (k := 0) rfl (by decide +kernel) (by decide) rfl ?_
              clear hl
              clear ls
              intro ls hl
              refine lv_goto (tgt := 63) hx hb dX12_secret_91 (by decide) ?_
              refine lv_iload hx hb dX12_secret_63 (lv_at hl 0 rfl) ?_
              refine lv_iload_n hx hb dX12_secret_65 rfl (lv_at hl 4 rfl) ?_
              refine lv_icmp_ge (tgt := 94) hx hb dX12_secret_66 (by decide) (fun c9 => absurd c9 (by decide +kernel)) (fun _ => ?_)
              refine lv_aload_n hx hb dX12_secret_69 rfl (lv_at hl 1 rfl) ?_
              refine gm_get (D := D) (ci := 12) (v := .ref h58) (C := RX12) (T := TX12) (N := 83) hx hb hg inlX12 hown hK.1 hP 0 rfl rfl 54 (by decide) tX12_54 (hg _ gw_208) rfl dX12_secret_70 ?_
              refine lv_bipush (v := 6) hx hb dX12_secret_73 (by decide +kernel) ?_
              refine lv_iload_n hx hb dX12_secret_75 rfl (lv_at hl 2 rfl) ?_
              refine lv_imul hx hb dX12_secret_76 ?_
              refine g_fi (v := 0) (by decide +kernel) ?_
              refine lv_iload hx hb dX12_secret_77 (lv_at hl 0 rfl) ?_
              refine lv_iadd hx hb dX12_secret_79 ?_
              refine g_fi (v := 4) (by decide +kernel) ?_
              refine lv_iload_n hx hb dX12_secret_80 rfl (lv_at hl 3 rfl) ?_
              refine lv_iload_n hx hb dX12_secret_81 rfl (lv_at hl 4 rfl) ?_
              refine lv_iload hx hb dX12_secret_82 (lv_at hl 0 rfl) ?_
              refine g_ai (wr := [(h0, .inr (12, (.ref h4 :: .int wp22065 :: .int wp22066 :: .ref h7 :: .ref h8 :: .ref h9 :: .ref h10 :: .ref h11 :: .ref h12 :: .ref h13 :: .ref h14 :: .ref h15 :: .int wp22067 :: .ref h17 :: .int wp22068 :: .ref h19 :: .int wp22069 :: .ref h21 :: .ref h22 :: .ref h23 :: .ref h24 :: .ref h25 :: .ref h26 :: .ref h27 :: .ref h28 :: .ref h29 :: .ref h30 :: .ref h31 :: .int wp22070 :: .ref h33 :: .ref h34 :: .ref h35 :: .int wp22071 :: [.ref h37, .ref h38, .ref h39, .ref h40, .ref h41, .ref h42, .ref h43, .ref h44, .ref h45, .ref h46, .ref h47, .ref h48, .ref h49, .ref h50, .ref h51, .int wp22072, .int wp22073, .int wp22074, .int wp22075, .int wp22076, .ref h57, .ref h58, .int wp22077, .ref h60, .int 0, .ref h61, .int wp22078, .ref h63, .ref h64, .int wp22079, .ref h66, .ref h67, .int wp22080, .ref h69, .ref h70, .ref h71, .ref h72, .int wp22081, .int wp22082, .int wp22083, .int wp22084, .ref h77, .ref h78, .ref h79, .ref h80, .ref h81, .ref h82, .ref h83, .ref h84, .ref h85]))), (h57, .inl (y 0, 3, .inl (upd (fun _ => 0) ((0 : Int32).toNatClampNeg) 6))), (h58, .inl (y 0, 18, .inl fn22202))]) (va_runS (As := [.int p2, .int 6, .int 4]) (rest := [.int 4, .ref h58]) ⟨hx, hb, hml, hown, hg⟩ (k_X12_digitOf_18 l D y aS H.size p2) (va_cwS 3 hg ggS_RX12_484_X12_digitOf rfl rfl rfl (by decide +kernel) ⟨Nat.le_of_ble_eq_true rfl, Nat.le_of_ble_eq_true rfl⟩) (g_preS hK hP hD [] rfl (by decide)) rfl rfl hl.1 rfl (lv_room (Nat.le_of_ble_eq_true rfl)) dX12_secret_84 ⟨Nat.le_of_ble_eq_true rfl, Nat.le_of_ble_eq_true rfl⟩) hP hD hS hA [] [0, 1, 2] rfl rfl (by decide) (by decide) ?_
              clear hP hD hS H locs
              refine fun r22203 u H locs hq hP hD hS => ?_
              subst hq
              replace hP : va_P D vwCl [(h0, .inr (12, (.ref h4 :: .int wp22065 :: .int wp22066 :: .ref h7 :: .ref h8 :: .ref h9 :: .ref h10 :: .ref h11 :: .ref h12 :: .ref h13 :: .ref h14 :: .ref h15 :: .int wp22067 :: .ref h17 :: .int wp22068 :: .ref h19 :: .int wp22069 :: .ref h21 :: .ref h22 :: .ref h23 :: .ref h24 :: .ref h25 :: .ref h26 :: .ref h27 :: .ref h28 :: .ref h29 :: .ref h30 :: .ref h31 :: .int wp22070 :: .ref h33 :: .ref h34 :: .ref h35 :: .int wp22071 :: [.ref h37, .ref h38, .ref h39, .ref h40, .ref h41, .ref h42, .ref h43, .ref h44, .ref h45, .ref h46, .ref h47, .ref h48, .ref h49, .ref h50, .ref h51, .int wp22072, .int wp22073, .int wp22074, .int wp22075, .int wp22076, .ref h57, .ref h58, .int wp22077, .ref h60, .int 0, .ref h61, .int wp22078, .ref h63, .ref h64, .int wp22079, .ref h66, .ref h67, .int wp22080, .ref h69, .ref h70, .ref h71, .ref h72, .int wp22081, .int wp22082, .int wp22083, .int wp22084, .ref h77, .ref h78, .ref h79, .ref h80, .ref h81, .ref h82, .ref h83, .ref h84, .ref h85]))), (h57, .inl (y 0, 3, .inl (upd (fun _ => 0) ((0 : Int32).toNatClampNeg) 6))), (h58, .inl (y 0, 18, .inl fn22202))] H := hP
              replace hD : va_D A [(h0, .inr (12, (.ref h4 :: .int wp22065 :: .int wp22066 :: .ref h7 :: .ref h8 :: .ref h9 :: .ref h10 :: .ref h11 :: .ref h12 :: .ref h13 :: .ref h14 :: .ref h15 :: .int wp22067 :: .ref h17 :: .int wp22068 :: .ref h19 :: .int wp22069 :: .ref h21 :: .ref h22 :: .ref h23 :: .ref h24 :: .ref h25 :: .ref h26 :: .ref h27 :: .ref h28 :: .ref h29 :: .ref h30 :: .ref h31 :: .int wp22070 :: .ref h33 :: .ref h34 :: .ref h35 :: .int wp22071 :: [.ref h37, .ref h38, .ref h39, .ref h40, .ref h41, .ref h42, .ref h43, .ref h44, .ref h45, .ref h46, .ref h47, .ref h48, .ref h49, .ref h50, .ref h51, .int wp22072, .int wp22073, .int wp22074, .int wp22075, .int wp22076, .ref h57, .ref h58, .int wp22077, .ref h60, .int 0, .ref h61, .int wp22078, .ref h63, .ref h64, .int wp22079, .ref h66, .ref h67, .int wp22080, .ref h69, .ref h70, .ref h71, .ref h72, .int wp22081, .int wp22082, .int wp22083, .int wp22084, .ref h77, .ref h78, .ref h79, .ref h80, .ref h81, .ref h82, .ref h83, .ref h84, .ref h85]))), (h57, .inl (y 0, 3, .inl (upd (fun _ => 0) ((0 : Int32).toNatClampNeg) 6))), (h58, .inl (y 0, 18, .inl fn22202))] := hD
              refine va_iast hx hb hK.1 hP hD hS 2 0 rfl rfl (by unfold vp_in; decide +kernel) dX12_secret_87 ?_
              clear hP hD hS H locs
              refine fun H locs (hP : va_P D vwCl [(h0, .inr (12, (.ref h4 :: .int wp22065 :: .int wp22066 :: .ref h7 :: .ref h8 :: .ref h9 :: .ref h10 :: .ref h11 :: .ref h12 :: .ref h13 :: .ref h14 :: .ref h15 :: .int wp22067 :: .ref h17 :: .int wp22068 :: .ref h19 :: .int wp22069 :: .ref h21 :: .ref h22 :: .ref h23 :: .ref h24 :: .ref h25 :: .ref h26 :: .ref h27 :: .ref h28 :: .ref h29 :: .ref h30 :: .ref h31 :: .int wp22070 :: .ref h33 :: .ref h34 :: .ref h35 :: .int wp22071 :: [.ref h37, .ref h38, .ref h39, .ref h40, .ref h41, .ref h42, .ref h43, .ref h44, .ref h45, .ref h46, .ref h47, .ref h48, .ref h49, .ref h50, .ref h51, .int wp22072, .int wp22073, .int wp22074, .int wp22075, .int wp22076, .ref h57, .ref h58, .int wp22077, .ref h60, .int 0, .ref h61, .int wp22078, .ref h63, .ref h64, .int wp22079, .ref h66, .ref h67, .int wp22080, .ref h69, .ref h70, .ref h71, .ref h72, .int wp22081, .int wp22082, .int wp22083, .int wp22084, .ref h77, .ref h78, .ref h79, .ref h80, .ref h81, .ref h82, .ref h83, .ref h84, .ref h85]))), (h57, .inl (y 0, 3, .inl (upd (fun _ => 0) ((0 : Int32).toNatClampNeg) 6))), (h58, .inl (y 0, 18, .inl (upd fn22202 ((4 : Int32).toNatClampNeg) ((p2 / 10) - (p2 / 10) / 10 * 10))))] H) (hD : va_D A [(h0, .inr (12, (.ref h4 :: .int wp22065 :: .int wp22066 :: .ref h7 :: .ref h8 :: .ref h9 :: .ref h10 :: .ref h11 :: .ref h12 :: .ref h13 :: .ref h14 :: .ref h15 :: .int wp22067 :: .ref h17 :: .int wp22068 :: .ref h19 :: .int wp22069 :: .ref h21 :: .ref h22 :: .ref h23 :: .ref h24 :: .ref h25 :: .ref h26 :: .ref h27 :: .ref h28 :: .ref h29 :: .ref h30 :: .ref h31 :: .int wp22070 :: .ref h33 :: .ref h34 :: .ref h35 :: .int wp22071 :: [.ref h37, .ref h38, .ref h39, .ref h40, .ref h41, .ref h42, .ref h43, .ref h44, .ref h45, .ref h46, .ref h47, .ref h48, .ref h49, .ref h50, .ref h51, .int wp22072, .int wp22073, .int wp22074, .int wp22075, .int wp22076, .ref h57, .ref h58, .int wp22077, .ref h60, .int 0, .ref h61, .int wp22078, .ref h63, .ref h64, .int wp22079, .ref h66, .ref h67, .int wp22080, .ref h69, .ref h70, .ref h71, .ref h72, .int wp22081, .int wp22082, .int wp22083, .int wp22084, .ref h77, .ref h78, .ref h79, .ref h80, .ref h81, .ref h82, .ref h83, .ref h84, .ref h85]))), (h57, .inl (y 0, 3, .inl (upd (fun _ => 0) ((0 : Int32).toNatClampNeg) 6))), (h58, .inl (y 0, 18, .inl (upd fn22202 ((4 : Int32).toNatClampNeg) ((p2 / 10) - (p2 / 10) / 10 * 10))))]) hS => ?_
              obtain ⟨fn22204, hfn22204⟩ : ∃ f9 : Nat → Int32, f9 = (upd fn22202 ((4 : Int32).toNatClampNeg) ((p2 / 10) - (p2 / 10) / 10 * 10)) := ⟨_, rfl⟩
              rw [← hfn22204] at hP hD
              clear hfn22204
              refine lv_iinc (v := 5) (lv' := [(4, .int 5), (0, .ref h0), (1, .int 0), (2, .int p2), (3, .int 6)]) hx hb dX12_secret_88 hl (k := 0) rfl (by decide +kernel) (by decide) rfl ?_
              clear hl
              clear ls
              intro ls hl
              refine lv_goto (tgt := 63) hx hb dX12_secret_91 (by decide) ?_
              refine lv_iload hx hb dX12_secret_63 (lv_at hl 0 rfl) ?_
              refine lv_iload_n hx hb dX12_secret_65 rfl (lv_at hl 4 rfl) ?_
              refine lv_icmp_ge (tgt := 94) hx hb dX12_secret_66 (by decide) (fun c9 => absurd c9 (by decide +kernel)) (fun _ => ?_)
              refine lv_aload_n hx hb dX12_secret_69 rfl (lv_at hl 1 rfl) ?_
              refine gm_get (D := D) (ci := 12) (v := .ref h58) (C := RX12) (T := TX12) (N := 83) hx hb hg inlX12 hown hK.1 hP 0 rfl rfl 54 (by decide) tX12_54 (hg _ gw_208) rfl dX12_secret_70 ?_
              refine lv_bipush (v := 6) hx hb dX12_secret_73 (by decide +kernel) ?_
              refine lv_iload_n hx hb dX12_secret_75 rfl (lv_at hl 2 rfl) ?_
              refine lv_imul hx hb dX12_secret_76 ?_
              refine g_fi (v := 0) (by decide +kernel) ?_
              refine lv_iload hx hb dX12_secret_77 (lv_at hl 0 rfl) ?_
              refine lv_iadd hx hb dX12_secret_79 ?_
              refine g_fi (v := 5) (by decide +kernel) ?_
              refine lv_iload_n hx hb dX12_secret_80 rfl (lv_at hl 3 rfl) ?_
              refine lv_iload_n hx hb dX12_secret_81 rfl (lv_at hl 4 rfl) ?_
              refine lv_iload hx hb dX12_secret_82 (lv_at hl 0 rfl) ?_
              refine g_ai (wr := [(h0, .inr (12, (.ref h4 :: .int wp22065 :: .int wp22066 :: .ref h7 :: .ref h8 :: .ref h9 :: .ref h10 :: .ref h11 :: .ref h12 :: .ref h13 :: .ref h14 :: .ref h15 :: .int wp22067 :: .ref h17 :: .int wp22068 :: .ref h19 :: .int wp22069 :: .ref h21 :: .ref h22 :: .ref h23 :: .ref h24 :: .ref h25 :: .ref h26 :: .ref h27 :: .ref h28 :: .ref h29 :: .ref h30 :: .ref h31 :: .int wp22070 :: .ref h33 :: .ref h34 :: .ref h35 :: .int wp22071 :: [.ref h37, .ref h38, .ref h39, .ref h40, .ref h41, .ref h42, .ref h43, .ref h44, .ref h45, .ref h46, .ref h47, .ref h48, .ref h49, .ref h50, .ref h51, .int wp22072, .int wp22073, .int wp22074, .int wp22075, .int wp22076, .ref h57, .ref h58, .int wp22077, .ref h60, .int 0, .ref h61, .int wp22078, .ref h63, .ref h64, .int wp22079, .ref h66, .ref h67, .int wp22080, .ref h69, .ref h70, .ref h71, .ref h72, .int wp22081, .int wp22082, .int wp22083, .int wp22084, .ref h77, .ref h78, .ref h79, .ref h80, .ref h81, .ref h82, .ref h83, .ref h84, .ref h85]))), (h57, .inl (y 0, 3, .inl (upd (fun _ => 0) ((0 : Int32).toNatClampNeg) 6))), (h58, .inl (y 0, 18, .inl fn22204))]) (va_runS (As := [.int p2, .int 6, .int 5]) (rest := [.int 5, .ref h58]) ⟨hx, hb, hml, hown, hg⟩ (k_X12_digitOf_19 l D y aS H.size p2) (va_cwS 3 hg ggS_RX12_484_X12_digitOf rfl rfl rfl (by decide +kernel) ⟨Nat.le_of_ble_eq_true rfl, Nat.le_of_ble_eq_true rfl⟩) (g_preS hK hP hD [] rfl (by decide)) rfl rfl hl.1 rfl (lv_room (Nat.le_of_ble_eq_true rfl)) dX12_secret_84 ⟨Nat.le_of_ble_eq_true rfl, Nat.le_of_ble_eq_true rfl⟩) hP hD hS hA [] [0, 1, 2] rfl rfl (by decide) (by decide) ?_
              clear hP hD hS H locs
              refine fun r22205 u H locs hq hP hD hS => ?_
              subst hq
              replace hP : va_P D vwCl [(h0, .inr (12, (.ref h4 :: .int wp22065 :: .int wp22066 :: .ref h7 :: .ref h8 :: .ref h9 :: .ref h10 :: .ref h11 :: .ref h12 :: .ref h13 :: .ref h14 :: .ref h15 :: .int wp22067 :: .ref h17 :: .int wp22068 :: .ref h19 :: .int wp22069 :: .ref h21 :: .ref h22 :: .ref h23 :: .ref h24 :: .ref h25 :: .ref h26 :: .ref h27 :: .ref h28 :: .ref h29 :: .ref h30 :: .ref h31 :: .int wp22070 :: .ref h33 :: .ref h34 :: .ref h35 :: .int wp22071 :: [.ref h37, .ref h38, .ref h39, .ref h40, .ref h41, .ref h42, .ref h43, .ref h44, .ref h45, .ref h46, .ref h47, .ref h48, .ref h49, .ref h50, .ref h51, .int wp22072, .int wp22073, .int wp22074, .int wp22075, .int wp22076, .ref h57, .ref h58, .int wp22077, .ref h60, .int 0, .ref h61, .int wp22078, .ref h63, .ref h64, .int wp22079, .ref h66, .ref h67, .int wp22080, .ref h69, .ref h70, .ref h71, .ref h72, .int wp22081, .int wp22082, .int wp22083, .int wp22084, .ref h77, .ref h78, .ref h79, .ref h80, .ref h81, .ref h82, .ref h83, .ref h84, .ref h85]))), (h57, .inl (y 0, 3, .inl (upd (fun _ => 0) ((0 : Int32).toNatClampNeg) 6))), (h58, .inl (y 0, 18, .inl fn22204))] H := hP
              replace hD : va_D A [(h0, .inr (12, (.ref h4 :: .int wp22065 :: .int wp22066 :: .ref h7 :: .ref h8 :: .ref h9 :: .ref h10 :: .ref h11 :: .ref h12 :: .ref h13 :: .ref h14 :: .ref h15 :: .int wp22067 :: .ref h17 :: .int wp22068 :: .ref h19 :: .int wp22069 :: .ref h21 :: .ref h22 :: .ref h23 :: .ref h24 :: .ref h25 :: .ref h26 :: .ref h27 :: .ref h28 :: .ref h29 :: .ref h30 :: .ref h31 :: .int wp22070 :: .ref h33 :: .ref h34 :: .ref h35 :: .int wp22071 :: [.ref h37, .ref h38, .ref h39, .ref h40, .ref h41, .ref h42, .ref h43, .ref h44, .ref h45, .ref h46, .ref h47, .ref h48, .ref h49, .ref h50, .ref h51, .int wp22072, .int wp22073, .int wp22074, .int wp22075, .int wp22076, .ref h57, .ref h58, .int wp22077, .ref h60, .int 0, .ref h61, .int wp22078, .ref h63, .ref h64, .int wp22079, .ref h66, .ref h67, .int wp22080, .ref h69, .ref h70, .ref h71, .ref h72, .int wp22081, .int wp22082, .int wp22083, .int wp22084, .ref h77, .ref h78, .ref h79, .ref h80, .ref h81, .ref h82, .ref h83, .ref h84, .ref h85]))), (h57, .inl (y 0, 3, .inl (upd (fun _ => 0) ((0 : Int32).toNatClampNeg) 6))), (h58, .inl (y 0, 18, .inl fn22204))] := hD
              refine va_iast hx hb hK.1 hP hD hS 2 0 rfl rfl (by unfold vp_in; decide +kernel) dX12_secret_87 ?_
              clear hP hD hS H locs
              refine fun H locs (hP : va_P D vwCl [(h0, .inr (12, (.ref h4 :: .int wp22065 :: .int wp22066 :: .ref h7 :: .ref h8 :: .ref h9 :: .ref h10 :: .ref h11 :: .ref h12 :: .ref h13 :: .ref h14 :: .ref h15 :: .int wp22067 :: .ref h17 :: .int wp22068 :: .ref h19 :: .int wp22069 :: .ref h21 :: .ref h22 :: .ref h23 :: .ref h24 :: .ref h25 :: .ref h26 :: .ref h27 :: .ref h28 :: .ref h29 :: .ref h30 :: .ref h31 :: .int wp22070 :: .ref h33 :: .ref h34 :: .ref h35 :: .int wp22071 :: [.ref h37, .ref h38, .ref h39, .ref h40, .ref h41, .ref h42, .ref h43, .ref h44, .ref h45, .ref h46, .ref h47, .ref h48, .ref h49, .ref h50, .ref h51, .int wp22072, .int wp22073, .int wp22074, .int wp22075, .int wp22076, .ref h57, .ref h58, .int wp22077, .ref h60, .int 0, .ref h61, .int wp22078, .ref h63, .ref h64, .int wp22079, .ref h66, .ref h67, .int wp22080, .ref h69, .ref h70, .ref h71, .ref h72, .int wp22081, .int wp22082, .int wp22083, .int wp22084, .ref h77, .ref h78, .ref h79, .ref h80, .ref h81, .ref h82, .ref h83, .ref h84, .ref h85]))), (h57, .inl (y 0, 3, .inl (upd (fun _ => 0) ((0 : Int32).toNatClampNeg) 6))), (h58, .inl (y 0, 18, .inl (upd fn22204 ((5 : Int32).toNatClampNeg) ((p2 / 1) - (p2 / 1) / 10 * 10))))] H) (hD : va_D A [(h0, .inr (12, (.ref h4 :: .int wp22065 :: .int wp22066 :: .ref h7 :: .ref h8 :: .ref h9 :: .ref h10 :: .ref h11 :: .ref h12 :: .ref h13 :: .ref h14 :: .ref h15 :: .int wp22067 :: .ref h17 :: .int wp22068 :: .ref h19 :: .int wp22069 :: .ref h21 :: .ref h22 :: .ref h23 :: .ref h24 :: .ref h25 :: .ref h26 :: .ref h27 :: .ref h28 :: .ref h29 :: .ref h30 :: .ref h31 :: .int wp22070 :: .ref h33 :: .ref h34 :: .ref h35 :: .int wp22071 :: [.ref h37, .ref h38, .ref h39, .ref h40, .ref h41, .ref h42, .ref h43, .ref h44, .ref h45, .ref h46, .ref h47, .ref h48, .ref h49, .ref h50, .ref h51, .int wp22072, .int wp22073, .int wp22074, .int wp22075, .int wp22076, .ref h57, .ref h58, .int wp22077, .ref h60, .int 0, .ref h61, .int wp22078, .ref h63, .ref h64, .int wp22079, .ref h66, .ref h67, .int wp22080, .ref h69, .ref h70, .ref h71, .ref h72, .int wp22081, .int wp22082, .int wp22083, .int wp22084, .ref h77, .ref h78, .ref h79, .ref h80, .ref h81, .ref h82, .ref h83, .ref h84, .ref h85]))), (h57, .inl (y 0, 3, .inl (upd (fun _ => 0) ((0 : Int32).toNatClampNeg) 6))), (h58, .inl (y 0, 18, .inl (upd fn22204 ((5 : Int32).toNatClampNeg) ((p2 / 1) - (p2 / 1) / 10 * 10))))]) hS => ?_
              obtain ⟨fn22206, hfn22206⟩ : ∃ f9 : Nat → Int32, f9 = (upd fn22204 ((5 : Int32).toNatClampNeg) ((p2 / 1) - (p2 / 1) / 10 * 10)) := ⟨_, rfl⟩
              rw [← hfn22206] at hP hD
              clear hfn22206
              refine lv_iinc (v := 6) (lv' := [(4, .int 6), (0, .ref h0), (1, .int 0), (2, .int p2), (3, .int 6)]) hx hb dX12_secret_88 hl (k := 0) rfl (by decide +kernel) (by decide) rfl ?_
              clear hl
              clear ls
              intro ls hl
              refine lv_goto (tgt := 63) hx hb dX12_secret_91 (by decide) ?_
              refine lv_iload hx hb dX12_secret_63 (lv_at hl 0 rfl) ?_
              refine lv_iload_n hx hb dX12_secret_65 rfl (lv_at hl 4 rfl) ?_
              refine lv_icmp_ge (tgt := 94) hx hb dX12_secret_66 (by decide) (fun _ => ?_) (fun c9 => absurd c9 (by decide +kernel))
              refine lv_iconst (v := 0) hx hb dX12_secret_94 (by decide) ?_
              refine lv_istore (lv' := [(4, .int 0), (0, .ref h0), (1, .int 0), (2, .int p2), (3, .int 6)]) hx hb dX12_secret_95 hl (by decide) rfl ?_
              clear hl
              clear ls
              intro ls hl
              refine lv_iconst (v := 0) hx hb dX12_secret_97 (by decide) ?_
              refine lv_istore (lv' := [(5, .int 0), (4, .int 0), (0, .ref h0), (1, .int 0), (2, .int p2), (3, .int 6)]) hx hb dX12_secret_98 hl (by decide) rfl ?_
              clear hl
              clear ls
              intro ls hl
              refine lv_iload hx hb dX12_secret_100 (lv_at hl 0 rfl) ?_
              refine lv_iconst (v := 3) hx hb dX12_secret_102 (by decide) ?_
              refine lv_icmp_ge (tgt := 132) hx hb dX12_secret_103 (by decide) (fun c9 => absurd c9 (by decide +kernel)) (fun _ => ?_)
              refine lv_iload hx hb dX12_secret_106 (lv_at hl 1 rfl) ?_
              refine lv_aload_n hx hb dX12_secret_108 rfl (lv_at hl 2 rfl) ?_
              refine gm_get (D := D) (ci := 12) (v := .ref h57) (C := RX12) (T := TX12) (N := 83) hx hb hg inlX12 hown hK.1 hP 0 rfl rfl 53 (by decide) tX12_53 (hg _ gw_207) rfl dX12_secret_109 ?_
              refine lv_iload hx hb dX12_secret_112 (lv_at hl 0 rfl) ?_
              refine va_iald hx hb hK.1 hP 1 0 rfl rfl (by unfold vp_in; decide +kernel) dX12_secret_114 ?_
              refine g_fi (v := 6) (by rfl) ?_
              refine lv_if_le (tgt := 122) hx hb dX12_secret_115 (by decide) (fun c9 => absurd c9 (by decide +kernel)) (fun _ => ?_)
              refine lv_iconst (v := 1) hx hb dX12_secret_118 (by decide) ?_
              refine lv_goto (tgt := 123) hx hb dX12_secret_119 (by decide) ?_
              refine lv_iadd hx hb dX12_secret_123 ?_
              refine g_fi (v := 1) (by decide +kernel) ?_
              refine lv_istore (lv' := [(4, .int 1), (5, .int 0), (0, .ref h0), (1, .int 0), (2, .int p2), (3, .int 6)]) hx hb dX12_secret_124 hl (by decide) rfl ?_
              clear hl
              clear ls
              intro ls hl
              refine lv_iinc (v := 1) (lv' := [(5, .int 1), (4, .int 1), (0, .ref h0), (1, .int 0), (2, .int p2), (3, .int 6)]) hx hb dX12_secret_126 hl (k := 1) rfl (by decide +kernel) (by decide) rfl ?_
              clear hl
              clear ls
              intro ls hl
              refine lv_goto (tgt := 100) hx hb dX12_secret_129 (by decide) ?_
              refine lv_iload hx hb dX12_secret_100 (lv_at hl 0 rfl) ?_
              refine lv_iconst (v := 3) hx hb dX12_secret_102 (by decide) ?_
              refine lv_icmp_ge (tgt := 132) hx hb dX12_secret_103 (by decide) (fun c9 => absurd c9 (by decide +kernel)) (fun _ => ?_)
              refine lv_iload hx hb dX12_secret_106 (lv_at hl 1 rfl) ?_
              refine lv_aload_n hx hb dX12_secret_108 rfl (lv_at hl 2 rfl) ?_
              refine gm_get (D := D) (ci := 12) (v := .ref h57) (C := RX12) (T := TX12) (N := 83) hx hb hg inlX12 hown hK.1 hP 0 rfl rfl 53 (by decide) tX12_53 (hg _ gw_207) rfl dX12_secret_109 ?_
              refine lv_iload hx hb dX12_secret_112 (lv_at hl 0 rfl) ?_
              refine va_iald hx hb hK.1 hP 1 0 rfl rfl (by unfold vp_in; decide +kernel) dX12_secret_114 ?_
              refine g_fi (v := 0) (by rfl) ?_
              refine lv_if_le (tgt := 122) hx hb dX12_secret_115 (by decide) (fun _ => ?_) (fun c9 => absurd c9 (by decide +kernel))
              refine lv_iconst (v := 0) hx hb dX12_secret_122 (by decide) ?_
              refine lv_iadd hx hb dX12_secret_123 ?_
              refine g_fi (v := 1) (by decide +kernel) ?_
              refine lv_istore (lv' := [(4, .int 1), (5, .int 1), (0, .ref h0), (1, .int 0), (2, .int p2), (3, .int 6)]) hx hb dX12_secret_124 hl (by decide) rfl ?_
              clear hl
              clear ls
              intro ls hl
              refine lv_iinc (v := 2) (lv' := [(5, .int 2), (4, .int 1), (0, .ref h0), (1, .int 0), (2, .int p2), (3, .int 6)]) hx hb dX12_secret_126 hl (k := 1) rfl (by decide +kernel) (by decide) rfl ?_
              clear hl
              clear ls
              intro ls hl
              refine lv_goto (tgt := 100) hx hb dX12_secret_129 (by decide) ?_
              refine lv_iload hx hb dX12_secret_100 (lv_at hl 0 rfl) ?_
              refine lv_iconst (v := 3) hx hb dX12_secret_102 (by decide) ?_
              refine lv_icmp_ge (tgt := 132) hx hb dX12_secret_103 (by decide) (fun c9 => absurd c9 (by decide +kernel)) (fun _ => ?_)
              refine lv_iload hx hb dX12_secret_106 (lv_at hl 1 rfl) ?_
              refine lv_aload_n hx hb dX12_secret_108 rfl (lv_at hl 2 rfl) ?_
              refine gm_get (D := D) (ci := 12) (v := .ref h57) (C := RX12) (T := TX12) (N := 83) hx hb hg inlX12 hown hK.1 hP 0 rfl rfl 53 (by decide) tX12_53 (hg _ gw_207) rfl dX12_secret_109 ?_
              refine lv_iload hx hb dX12_secret_112 (lv_at hl 0 rfl) ?_
              refine va_iald hx hb hK.1 hP 1 0 rfl rfl (by unfold vp_in; decide +kernel) dX12_secret_114 ?_
              refine g_fi (v := 0) (by rfl) ?_
              refine lv_if_le (tgt := 122) hx hb dX12_secret_115 (by decide) (fun _ => ?_) (fun c9 => absurd c9 (by decide +kernel))
              refine lv_iconst (v := 0) hx hb dX12_secret_122 (by decide) ?_
              refine lv_iadd hx hb dX12_secret_123 ?_
              refine g_fi (v := 1) (by decide +kernel) ?_
              refine lv_istore (lv' := [(4, .int 1), (5, .int 2), (0, .ref h0), (1, .int 0), (2, .int p2), (3, .int 6)]) hx hb dX12_secret_124 hl (by decide) rfl ?_
              clear hl
              clear ls
              intro ls hl
              refine lv_iinc (v := 3) (lv' := [(5, .int 3), (4, .int 1), (0, .ref h0), (1, .int 0), (2, .int p2), (3, .int 6)]) hx hb dX12_secret_126 hl (k := 1) rfl (by decide +kernel) (by decide) rfl ?_
              clear hl
              clear ls
              intro ls hl
              refine lv_goto (tgt := 100) hx hb dX12_secret_129 (by decide) ?_
              refine lv_iload hx hb dX12_secret_100 (lv_at hl 0 rfl) ?_
              refine lv_iconst (v := 3) hx hb dX12_secret_102 (by decide) ?_
              refine lv_icmp_ge (tgt := 132) hx hb dX12_secret_103 (by decide) (fun _ => ?_) (fun c9 => absurd c9 (by decide +kernel))
              refine lv_iload hx hb dX12_secret_132 (lv_at hl 1 rfl) ?_
              exact g_iret hx hb hr hlocks ⟨0, (upd (fun _ => 0) ((0 : Int32).toNatClampNeg) 6), fn22206⟩ hP hD hS rfl (Or.inr (Or.inr (Or.inr (Or.inr (Or.inr (Or.inr (Or.inr (Or.inr (Or.inr (Or.inr (Or.inr (Or.inr (Or.inr (Or.inr (Or.inr (Or.inr (Or.inr (Or.inr (Or.inr (Or.inr (Or.inr (Or.inl ⟨rfl, rfl, rfl, (by first | omega | (simp_all; done)), (by first | omega | (simp_all; done)), (by first | omega | (simp_all; done)), (by first | omega | (simp_all; done)), (by first | omega | (simp_all; done)), (by first | omega | (simp_all; done))⟩)))))))))))))))))))))) (Nat.le_of_ble_eq_true rfl) (Nat.le_of_ble_eq_true rfl) dX12_secret_134
            ·
              refine lv_aload_n hx hb dX12_secret_53 rfl (lv_at hl 0 rfl) ?_
              refine gm_get (D := D) (ci := 12) (v := .ref h57) (C := RX12) (T := TX12) (N := 83) hx hb hg inlX12 hown hK.1 hP 0 rfl rfl 53 (by decide) tX12_53 (hg _ gw_207) rfl dX12_secret_54 ?_
              refine lv_iload_n hx hb dX12_secret_57 rfl (lv_at hl 1 rfl) ?_
              refine lv_iload_n hx hb dX12_secret_58 rfl (lv_at hl 3 rfl) ?_
              refine va_iast hx hb hK.1 hP hD hS 1 0 rfl rfl (by unfold vp_in; decide +kernel) dX12_secret_59 ?_
              clear hP hD hS H locs
              refine fun H locs (hP : va_P D vwCl [(h0, .inr (12, (.ref h4 :: .int wp22065 :: .int wp22066 :: .ref h7 :: .ref h8 :: .ref h9 :: .ref h10 :: .ref h11 :: .ref h12 :: .ref h13 :: .ref h14 :: .ref h15 :: .int wp22067 :: .ref h17 :: .int wp22068 :: .ref h19 :: .int wp22069 :: .ref h21 :: .ref h22 :: .ref h23 :: .ref h24 :: .ref h25 :: .ref h26 :: .ref h27 :: .ref h28 :: .ref h29 :: .ref h30 :: .ref h31 :: .int wp22070 :: .ref h33 :: .ref h34 :: .ref h35 :: .int wp22071 :: [.ref h37, .ref h38, .ref h39, .ref h40, .ref h41, .ref h42, .ref h43, .ref h44, .ref h45, .ref h46, .ref h47, .ref h48, .ref h49, .ref h50, .ref h51, .int wp22072, .int wp22073, .int wp22074, .int wp22075, .int wp22076, .ref h57, .ref h58, .int wp22077, .ref h60, .int 0, .ref h61, .int wp22078, .ref h63, .ref h64, .int wp22079, .ref h66, .ref h67, .int wp22080, .ref h69, .ref h70, .ref h71, .ref h72, .int wp22081, .int wp22082, .int wp22083, .int wp22084, .ref h77, .ref h78, .ref h79, .ref h80, .ref h81, .ref h82, .ref h83, .ref h84, .ref h85]))), (h57, .inl (y 0, 3, .inl (upd (fun _ => 0) ((1 : Int32).toNatClampNeg) 6))), (h58, .inl (y 0, 18, .inl wf22085))] H) (hD : va_D A [(h0, .inr (12, (.ref h4 :: .int wp22065 :: .int wp22066 :: .ref h7 :: .ref h8 :: .ref h9 :: .ref h10 :: .ref h11 :: .ref h12 :: .ref h13 :: .ref h14 :: .ref h15 :: .int wp22067 :: .ref h17 :: .int wp22068 :: .ref h19 :: .int wp22069 :: .ref h21 :: .ref h22 :: .ref h23 :: .ref h24 :: .ref h25 :: .ref h26 :: .ref h27 :: .ref h28 :: .ref h29 :: .ref h30 :: .ref h31 :: .int wp22070 :: .ref h33 :: .ref h34 :: .ref h35 :: .int wp22071 :: [.ref h37, .ref h38, .ref h39, .ref h40, .ref h41, .ref h42, .ref h43, .ref h44, .ref h45, .ref h46, .ref h47, .ref h48, .ref h49, .ref h50, .ref h51, .int wp22072, .int wp22073, .int wp22074, .int wp22075, .int wp22076, .ref h57, .ref h58, .int wp22077, .ref h60, .int 0, .ref h61, .int wp22078, .ref h63, .ref h64, .int wp22079, .ref h66, .ref h67, .int wp22080, .ref h69, .ref h70, .ref h71, .ref h72, .int wp22081, .int wp22082, .int wp22083, .int wp22084, .ref h77, .ref h78, .ref h79, .ref h80, .ref h81, .ref h82, .ref h83, .ref h84, .ref h85]))), (h57, .inl (y 0, 3, .inl (upd (fun _ => 0) ((1 : Int32).toNatClampNeg) 6))), (h58, .inl (y 0, 18, .inl wf22085))]) hS => ?_
              refine lv_iconst (v := 0) hx hb dX12_secret_60 (by decide) ?_
              refine lv_istore (lv' := [(4, .int 0), (0, .ref h0), (1, .int 1), (2, .int p2), (3, .int 6)]) hx hb dX12_secret_61 hl (by decide) rfl ?_
              clear hl
              clear ls
              intro ls hl
              refine lv_iload hx hb dX12_secret_63 (lv_at hl 0 rfl) ?_
              refine lv_iload_n hx hb dX12_secret_65 rfl (lv_at hl 4 rfl) ?_
              refine lv_icmp_ge (tgt := 94) hx hb dX12_secret_66 (by decide) (fun c9 => absurd c9 (by decide +kernel)) (fun _ => ?_)
              refine lv_aload_n hx hb dX12_secret_69 rfl (lv_at hl 1 rfl) ?_
              refine gm_get (D := D) (ci := 12) (v := .ref h58) (C := RX12) (T := TX12) (N := 83) hx hb hg inlX12 hown hK.1 hP 0 rfl rfl 54 (by decide) tX12_54 (hg _ gw_208) rfl dX12_secret_70 ?_
              refine lv_bipush (v := 6) hx hb dX12_secret_73 (by decide +kernel) ?_
              refine lv_iload_n hx hb dX12_secret_75 rfl (lv_at hl 2 rfl) ?_
              refine lv_imul hx hb dX12_secret_76 ?_
              refine g_fi (v := 6) (by decide +kernel) ?_
              refine lv_iload hx hb dX12_secret_77 (lv_at hl 0 rfl) ?_
              refine lv_iadd hx hb dX12_secret_79 ?_
              refine g_fi (v := 6) (by decide +kernel) ?_
              refine lv_iload_n hx hb dX12_secret_80 rfl (lv_at hl 3 rfl) ?_
              refine lv_iload_n hx hb dX12_secret_81 rfl (lv_at hl 4 rfl) ?_
              refine lv_iload hx hb dX12_secret_82 (lv_at hl 0 rfl) ?_
              refine g_ai (wr := [(h0, .inr (12, (.ref h4 :: .int wp22065 :: .int wp22066 :: .ref h7 :: .ref h8 :: .ref h9 :: .ref h10 :: .ref h11 :: .ref h12 :: .ref h13 :: .ref h14 :: .ref h15 :: .int wp22067 :: .ref h17 :: .int wp22068 :: .ref h19 :: .int wp22069 :: .ref h21 :: .ref h22 :: .ref h23 :: .ref h24 :: .ref h25 :: .ref h26 :: .ref h27 :: .ref h28 :: .ref h29 :: .ref h30 :: .ref h31 :: .int wp22070 :: .ref h33 :: .ref h34 :: .ref h35 :: .int wp22071 :: [.ref h37, .ref h38, .ref h39, .ref h40, .ref h41, .ref h42, .ref h43, .ref h44, .ref h45, .ref h46, .ref h47, .ref h48, .ref h49, .ref h50, .ref h51, .int wp22072, .int wp22073, .int wp22074, .int wp22075, .int wp22076, .ref h57, .ref h58, .int wp22077, .ref h60, .int 0, .ref h61, .int wp22078, .ref h63, .ref h64, .int wp22079, .ref h66, .ref h67, .int wp22080, .ref h69, .ref h70, .ref h71, .ref h72, .int wp22081, .int wp22082, .int wp22083, .int wp22084, .ref h77, .ref h78, .ref h79, .ref h80, .ref h81, .ref h82, .ref h83, .ref h84, .ref h85]))), (h57, .inl (y 0, 3, .inl (upd (fun _ => 0) ((1 : Int32).toNatClampNeg) 6))), (h58, .inl (y 0, 18, .inl wf22085))]) (va_runS (As := [.int p2, .int 6, .int 0]) (rest := [.int 6, .ref h58]) ⟨hx, hb, hml, hown, hg⟩ (k_X12_digitOf_14 l D y aS H.size p2) (va_cwS 3 hg ggS_RX12_484_X12_digitOf rfl rfl rfl (by decide +kernel) ⟨Nat.le_of_ble_eq_true rfl, Nat.le_of_ble_eq_true rfl⟩) (g_preS hK hP hD [] rfl (by decide)) rfl rfl hl.1 rfl (lv_room (Nat.le_of_ble_eq_true rfl)) dX12_secret_84 ⟨Nat.le_of_ble_eq_true rfl, Nat.le_of_ble_eq_true rfl⟩) hP hD hS hA [] [0, 1, 2] rfl rfl (by decide) (by decide) ?_
              clear hP hD hS H locs
              refine fun r22207 u H locs hq hP hD hS => ?_
              subst hq
              replace hP : va_P D vwCl [(h0, .inr (12, (.ref h4 :: .int wp22065 :: .int wp22066 :: .ref h7 :: .ref h8 :: .ref h9 :: .ref h10 :: .ref h11 :: .ref h12 :: .ref h13 :: .ref h14 :: .ref h15 :: .int wp22067 :: .ref h17 :: .int wp22068 :: .ref h19 :: .int wp22069 :: .ref h21 :: .ref h22 :: .ref h23 :: .ref h24 :: .ref h25 :: .ref h26 :: .ref h27 :: .ref h28 :: .ref h29 :: .ref h30 :: .ref h31 :: .int wp22070 :: .ref h33 :: .ref h34 :: .ref h35 :: .int wp22071 :: [.ref h37, .ref h38, .ref h39, .ref h40, .ref h41, .ref h42, .ref h43, .ref h44, .ref h45, .ref h46, .ref h47, .ref h48, .ref h49, .ref h50, .ref h51, .int wp22072, .int wp22073, .int wp22074, .int wp22075, .int wp22076, .ref h57, .ref h58, .int wp22077, .ref h60, .int 0, .ref h61, .int wp22078, .ref h63, .ref h64, .int wp22079, .ref h66, .ref h67, .int wp22080, .ref h69, .ref h70, .ref h71, .ref h72, .int wp22081, .int wp22082, .int wp22083, .int wp22084, .ref h77, .ref h78, .ref h79, .ref h80, .ref h81, .ref h82, .ref h83, .ref h84, .ref h85]))), (h57, .inl (y 0, 3, .inl (upd (fun _ => 0) ((1 : Int32).toNatClampNeg) 6))), (h58, .inl (y 0, 18, .inl wf22085))] H := hP
              replace hD : va_D A [(h0, .inr (12, (.ref h4 :: .int wp22065 :: .int wp22066 :: .ref h7 :: .ref h8 :: .ref h9 :: .ref h10 :: .ref h11 :: .ref h12 :: .ref h13 :: .ref h14 :: .ref h15 :: .int wp22067 :: .ref h17 :: .int wp22068 :: .ref h19 :: .int wp22069 :: .ref h21 :: .ref h22 :: .ref h23 :: .ref h24 :: .ref h25 :: .ref h26 :: .ref h27 :: .ref h28 :: .ref h29 :: .ref h30 :: .ref h31 :: .int wp22070 :: .ref h33 :: .ref h34 :: .ref h35 :: .int wp22071 :: [.ref h37, .ref h38, .ref h39, .ref h40, .ref h41, .ref h42, .ref h43, .ref h44, .ref h45, .ref h46, .ref h47, .ref h48, .ref h49, .ref h50, .ref h51, .int wp22072, .int wp22073, .int wp22074, .int wp22075, .int wp22076, .ref h57, .ref h58, .int wp22077, .ref h60, .int 0, .ref h61, .int wp22078, .ref h63, .ref h64, .int wp22079, .ref h66, .ref h67, .int wp22080, .ref h69, .ref h70, .ref h71, .ref h72, .int wp22081, .int wp22082, .int wp22083, .int wp22084, .ref h77, .ref h78, .ref h79, .ref h80, .ref h81, .ref h82, .ref h83, .ref h84, .ref h85]))), (h57, .inl (y 0, 3, .inl (upd (fun _ => 0) ((1 : Int32).toNatClampNeg) 6))), (h58, .inl (y 0, 18, .inl wf22085))] := hD
              refine va_iast hx hb hK.1 hP hD hS 2 0 rfl rfl (by unfold vp_in; decide +kernel) dX12_secret_87 ?_
              clear hP hD hS H locs
              refine fun H locs (hP : va_P D vwCl [(h0, .inr (12, (.ref h4 :: .int wp22065 :: .int wp22066 :: .ref h7 :: .ref h8 :: .ref h9 :: .ref h10 :: .ref h11 :: .ref h12 :: .ref h13 :: .ref h14 :: .ref h15 :: .int wp22067 :: .ref h17 :: .int wp22068 :: .ref h19 :: .int wp22069 :: .ref h21 :: .ref h22 :: .ref h23 :: .ref h24 :: .ref h25 :: .ref h26 :: .ref h27 :: .ref h28 :: .ref h29 :: .ref h30 :: .ref h31 :: .int wp22070 :: .ref h33 :: .ref h34 :: .ref h35 :: .int wp22071 :: [.ref h37, .ref h38, .ref h39, .ref h40, .ref h41, .ref h42, .ref h43, .ref h44, .ref h45, .ref h46, .ref h47, .ref h48, .ref h49, .ref h50, .ref h51, .int wp22072, .int wp22073, .int wp22074, .int wp22075, .int wp22076, .ref h57, .ref h58, .int wp22077, .ref h60, .int 0, .ref h61, .int wp22078, .ref h63, .ref h64, .int wp22079, .ref h66, .ref h67, .int wp22080, .ref h69, .ref h70, .ref h71, .ref h72, .int wp22081, .int wp22082, .int wp22083, .int wp22084, .ref h77, .ref h78, .ref h79, .ref h80, .ref h81, .ref h82, .ref h83, .ref h84, .ref h85]))), (h57, .inl (y 0, 3, .inl (upd (fun _ => 0) ((1 : Int32).toNatClampNeg) 6))), (h58, .inl (y 0, 18, .inl (upd wf22085 ((6 : Int32).toNatClampNeg) ((p2 / 100000) - (p2 / 100000) / 10 * 10))))] H) (hD : va_D A [(h0, .inr (12, (.ref h4 :: .int wp22065 :: .int wp22066 :: .ref h7 :: .ref h8 :: .ref h9 :: .ref h10 :: .ref h11 :: .ref h12 :: .ref h13 :: .ref h14 :: .ref h15 :: .int wp22067 :: .ref h17 :: .int wp22068 :: .ref h19 :: .int wp22069 :: .ref h21 :: .ref h22 :: .ref h23 :: .ref h24 :: .ref h25 :: .ref h26 :: .ref h27 :: .ref h28 :: .ref h29 :: .ref h30 :: .ref h31 :: .int wp22070 :: .ref h33 :: .ref h34 :: .ref h35 :: .int wp22071 :: [.ref h37, .ref h38, .ref h39, .ref h40, .ref h41, .ref h42, .ref h43, .ref h44, .ref h45, .ref h46, .ref h47, .ref h48, .ref h49, .ref h50, .ref h51, .int wp22072, .int wp22073, .int wp22074, .int wp22075, .int wp22076, .ref h57, .ref h58, .int wp22077, .ref h60, .int 0, .ref h61, .int wp22078, .ref h63, .ref h64, .int wp22079, .ref h66, .ref h67, .int wp22080, .ref h69, .ref h70, .ref h71, .ref h72, .int wp22081, .int wp22082, .int wp22083, .int wp22084, .ref h77, .ref h78, .ref h79, .ref h80, .ref h81, .ref h82, .ref h83, .ref h84, .ref h85]))), (h57, .inl (y 0, 3, .inl (upd (fun _ => 0) ((1 : Int32).toNatClampNeg) 6))), (h58, .inl (y 0, 18, .inl (upd wf22085 ((6 : Int32).toNatClampNeg) ((p2 / 100000) - (p2 / 100000) / 10 * 10))))]) hS => ?_
              obtain ⟨fn22208, hfn22208⟩ : ∃ f9 : Nat → Int32, f9 = (upd wf22085 ((6 : Int32).toNatClampNeg) ((p2 / 100000) - (p2 / 100000) / 10 * 10)) := ⟨_, rfl⟩
              rw [← hfn22208] at hP hD
              clear hfn22208
              refine lv_iinc (v := 1) (lv' := [(4, .int 1), (0, .ref h0), (1, .int 1), (2, .int p2), (3, .int 6)]) hx hb dX12_secret_88 hl (k := 0) rfl (by decide +kernel) (by decide) rfl ?_
              clear hl
              clear ls
              intro ls hl
              refine lv_goto (tgt := 63) hx hb dX12_secret_91 (by decide) ?_
              refine lv_iload hx hb dX12_secret_63 (lv_at hl 0 rfl) ?_
              refine lv_iload_n hx hb dX12_secret_65 rfl (lv_at hl 4 rfl) ?_
              refine lv_icmp_ge (tgt := 94) hx hb dX12_secret_66 (by decide) (fun c9 => absurd c9 (by decide +kernel)) (fun _ => ?_)
              refine lv_aload_n hx hb dX12_secret_69 rfl (lv_at hl 1 rfl) ?_
              refine gm_get (D := D) (ci := 12) (v := .ref h58) (C := RX12) (T := TX12) (N := 83) hx hb hg inlX12 hown hK.1 hP 0 rfl rfl 54 (by decide) tX12_54 (hg _ gw_208) rfl dX12_secret_70 ?_
              refine lv_bipush (v := 6) hx hb dX12_secret_73 (by decide +kernel) ?_
              refine lv_iload_n hx hb dX12_secret_75 rfl (lv_at hl 2 rfl) ?_
              refine lv_imul hx hb dX12_secret_76 ?_
              refine g_fi (v := 6) (by decide +kernel) ?_
              refine lv_iload hx hb dX12_secret_77 (lv_at hl 0 rfl) ?_
              refine lv_iadd hx hb dX12_secret_79 ?_
              refine g_fi (v := 7) (by decide +kernel) ?_
              refine lv_iload_n hx hb dX12_secret_80 rfl (lv_at hl 3 rfl) ?_
              refine lv_iload_n hx hb dX12_secret_81 rfl (lv_at hl 4 rfl) ?_
              refine lv_iload hx hb dX12_secret_82 (lv_at hl 0 rfl) ?_
              refine g_ai (wr := [(h0, .inr (12, (.ref h4 :: .int wp22065 :: .int wp22066 :: .ref h7 :: .ref h8 :: .ref h9 :: .ref h10 :: .ref h11 :: .ref h12 :: .ref h13 :: .ref h14 :: .ref h15 :: .int wp22067 :: .ref h17 :: .int wp22068 :: .ref h19 :: .int wp22069 :: .ref h21 :: .ref h22 :: .ref h23 :: .ref h24 :: .ref h25 :: .ref h26 :: .ref h27 :: .ref h28 :: .ref h29 :: .ref h30 :: .ref h31 :: .int wp22070 :: .ref h33 :: .ref h34 :: .ref h35 :: .int wp22071 :: [.ref h37, .ref h38, .ref h39, .ref h40, .ref h41, .ref h42, .ref h43, .ref h44, .ref h45, .ref h46, .ref h47, .ref h48, .ref h49, .ref h50, .ref h51, .int wp22072, .int wp22073, .int wp22074, .int wp22075, .int wp22076, .ref h57, .ref h58, .int wp22077, .ref h60, .int 0, .ref h61, .int wp22078, .ref h63, .ref h64, .int wp22079, .ref h66, .ref h67, .int wp22080, .ref h69, .ref h70, .ref h71, .ref h72, .int wp22081, .int wp22082, .int wp22083, .int wp22084, .ref h77, .ref h78, .ref h79, .ref h80, .ref h81, .ref h82, .ref h83, .ref h84, .ref h85]))), (h57, .inl (y 0, 3, .inl (upd (fun _ => 0) ((1 : Int32).toNatClampNeg) 6))), (h58, .inl (y 0, 18, .inl fn22208))]) (va_runS (As := [.int p2, .int 6, .int 1]) (rest := [.int 7, .ref h58]) ⟨hx, hb, hml, hown, hg⟩ (k_X12_digitOf_15 l D y aS H.size p2) (va_cwS 3 hg ggS_RX12_484_X12_digitOf rfl rfl rfl (by decide +kernel) ⟨Nat.le_of_ble_eq_true rfl, Nat.le_of_ble_eq_true rfl⟩) (g_preS hK hP hD [] rfl (by decide)) rfl rfl hl.1 rfl (lv_room (Nat.le_of_ble_eq_true rfl)) dX12_secret_84 ⟨Nat.le_of_ble_eq_true rfl, Nat.le_of_ble_eq_true rfl⟩) hP hD hS hA [] [0, 1, 2] rfl rfl (by decide) (by decide) ?_
              clear hP hD hS H locs
              refine fun r22209 u H locs hq hP hD hS => ?_
              subst hq
              replace hP : va_P D vwCl [(h0, .inr (12, (.ref h4 :: .int wp22065 :: .int wp22066 :: .ref h7 :: .ref h8 :: .ref h9 :: .ref h10 :: .ref h11 :: .ref h12 :: .ref h13 :: .ref h14 :: .ref h15 :: .int wp22067 :: .ref h17 :: .int wp22068 :: .ref h19 :: .int wp22069 :: .ref h21 :: .ref h22 :: .ref h23 :: .ref h24 :: .ref h25 :: .ref h26 :: .ref h27 :: .ref h28 :: .ref h29 :: .ref h30 :: .ref h31 :: .int wp22070 :: .ref h33 :: .ref h34 :: .ref h35 :: .int wp22071 :: [.ref h37, .ref h38, .ref h39, .ref h40, .ref h41, .ref h42, .ref h43, .ref h44, .ref h45, .ref h46, .ref h47, .ref h48, .ref h49, .ref h50, .ref h51, .int wp22072, .int wp22073, .int wp22074, .int wp22075, .int wp22076, .ref h57, .ref h58, .int wp22077, .ref h60, .int 0, .ref h61, .int wp22078, .ref h63, .ref h64, .int wp22079, .ref h66, .ref h67, .int wp22080, .ref h69, .ref h70, .ref h71, .ref h72, .int wp22081, .int wp22082, .int wp22083, .int wp22084, .ref h77, .ref h78, .ref h79, .ref h80, .ref h81, .ref h82, .ref h83, .ref h84, .ref h85]))), (h57, .inl (y 0, 3, .inl (upd (fun _ => 0) ((1 : Int32).toNatClampNeg) 6))), (h58, .inl (y 0, 18, .inl fn22208))] H := hP
              replace hD : va_D A [(h0, .inr (12, (.ref h4 :: .int wp22065 :: .int wp22066 :: .ref h7 :: .ref h8 :: .ref h9 :: .ref h10 :: .ref h11 :: .ref h12 :: .ref h13 :: .ref h14 :: .ref h15 :: .int wp22067 :: .ref h17 :: .int wp22068 :: .ref h19 :: .int wp22069 :: .ref h21 :: .ref h22 :: .ref h23 :: .ref h24 :: .ref h25 :: .ref h26 :: .ref h27 :: .ref h28 :: .ref h29 :: .ref h30 :: .ref h31 :: .int wp22070 :: .ref h33 :: .ref h34 :: .ref h35 :: .int wp22071 :: [.ref h37, .ref h38, .ref h39, .ref h40, .ref h41, .ref h42, .ref h43, .ref h44, .ref h45, .ref h46, .ref h47, .ref h48, .ref h49, .ref h50, .ref h51, .int wp22072, .int wp22073, .int wp22074, .int wp22075, .int wp22076, .ref h57, .ref h58, .int wp22077, .ref h60, .int 0, .ref h61, .int wp22078, .ref h63, .ref h64, .int wp22079, .ref h66, .ref h67, .int wp22080, .ref h69, .ref h70, .ref h71, .ref h72, .int wp22081, .int wp22082, .int wp22083, .int wp22084, .ref h77, .ref h78, .ref h79, .ref h80, .ref h81, .ref h82, .ref h83, .ref h84, .ref h85]))), (h57, .inl (y 0, 3, .inl (upd (fun _ => 0) ((1 : Int32).toNatClampNeg) 6))), (h58, .inl (y 0, 18, .inl fn22208))] := hD
              refine va_iast hx hb hK.1 hP hD hS 2 0 rfl rfl (by unfold vp_in; decide +kernel) dX12_secret_87 ?_
              clear hP hD hS H locs
              refine fun H locs (hP : va_P D vwCl [(h0, .inr (12, (.ref h4 :: .int wp22065 :: .int wp22066 :: .ref h7 :: .ref h8 :: .ref h9 :: .ref h10 :: .ref h11 :: .ref h12 :: .ref h13 :: .ref h14 :: .ref h15 :: .int wp22067 :: .ref h17 :: .int wp22068 :: .ref h19 :: .int wp22069 :: .ref h21 :: .ref h22 :: .ref h23 :: .ref h24 :: .ref h25 :: .ref h26 :: .ref h27 :: .ref h28 :: .ref h29 :: .ref h30 :: .ref h31 :: .int wp22070 :: .ref h33 :: .ref h34 :: .ref h35 :: .int wp22071 :: [.ref h37, .ref h38, .ref h39, .ref h40, .ref h41, .ref h42, .ref h43, .ref h44, .ref h45, .ref h46, .ref h47, .ref h48, .ref h49, .ref h50, .ref h51, .int wp22072, .int wp22073, .int wp22074, .int wp22075, .int wp22076, .ref h57, .ref h58, .int wp22077, .ref h60, .int 0, .ref h61, .int wp22078, .ref h63, .ref h64, .int wp22079, .ref h66, .ref h67, .int wp22080, .ref h69, .ref h70, .ref h71, .ref h72, .int wp22081, .int wp22082, .int wp22083, .int wp22084, .ref h77, .ref h78, .ref h79, .ref h80, .ref h81, .ref h82, .ref h83, .ref h84, .ref h85]))), (h57, .inl (y 0, 3, .inl (upd (fun _ => 0) ((1 : Int32).toNatClampNeg) 6))), (h58, .inl (y 0, 18, .inl (upd fn22208 ((7 : Int32).toNatClampNeg) ((p2 / 10000) - (p2 / 10000) / 10 * 10))))] H) (hD : va_D A [(h0, .inr (12, (.ref h4 :: .int wp22065 :: .int wp22066 :: .ref h7 :: .ref h8 :: .ref h9 :: .ref h10 :: .ref h11 :: .ref h12 :: .ref h13 :: .ref h14 :: .ref h15 :: .int wp22067 :: .ref h17 :: .int wp22068 :: .ref h19 :: .int wp22069 :: .ref h21 :: .ref h22 :: .ref h23 :: .ref h24 :: .ref h25 :: .ref h26 :: .ref h27 :: .ref h28 :: .ref h29 :: .ref h30 :: .ref h31 :: .int wp22070 :: .ref h33 :: .ref h34 :: .ref h35 :: .int wp22071 :: [.ref h37, .ref h38, .ref h39, .ref h40, .ref h41, .ref h42, .ref h43, .ref h44, .ref h45, .ref h46, .ref h47, .ref h48, .ref h49, .ref h50, .ref h51, .int wp22072, .int wp22073, .int wp22074, .int wp22075, .int wp22076, .ref h57, .ref h58, .int wp22077, .ref h60, .int 0, .ref h61, .int wp22078, .ref h63, .ref h64, .int wp22079, .ref h66, .ref h67, .int wp22080, .ref h69, .ref h70, .ref h71, .ref h72, .int wp22081, .int wp22082, .int wp22083, .int wp22084, .ref h77, .ref h78, .ref h79, .ref h80, .ref h81, .ref h82, .ref h83, .ref h84, .ref h85]))), (h57, .inl (y 0, 3, .inl (upd (fun _ => 0) ((1 : Int32).toNatClampNeg) 6))), (h58, .inl (y 0, 18, .inl (upd fn22208 ((7 : Int32).toNatClampNeg) ((p2 / 10000) - (p2 / 10000) / 10 * 10))))]) hS => ?_
              obtain ⟨fn22210, hfn22210⟩ : ∃ f9 : Nat → Int32, f9 = (upd fn22208 ((7 : Int32).toNatClampNeg) ((p2 / 10000) - (p2 / 10000) / 10 * 10)) := ⟨_, rfl⟩
              rw [← hfn22210] at hP hD
              clear hfn22210
              refine lv_iinc (v := 2) (lv' := [(4, .int 2), (0, .ref h0), (1, .int 1), (2, .int p2), (3, .int 6)]) hx hb dX12_secret_88 hl (k := 0) rfl (by decide +kernel) (by decide) rfl ?_
              clear hl
              clear ls
              intro ls hl
              refine lv_goto (tgt := 63) hx hb dX12_secret_91 (by decide) ?_
              refine lv_iload hx hb dX12_secret_63 (lv_at hl 0 rfl) ?_
              refine lv_iload_n hx hb dX12_secret_65 rfl (lv_at hl 4 rfl) ?_
              refine lv_icmp_ge (tgt := 94) hx hb dX12_secret_66 (by decide) (fun c9 => absurd c9 (by decide +kernel)) (fun _ => ?_)
              refine lv_aload_n hx hb dX12_secret_69 rfl (lv_at hl 1 rfl) ?_
              refine gm_get (D := D) (ci := 12) (v := .ref h58) (C := RX12) (T := TX12) (N := 83) hx hb hg inlX12 hown hK.1 hP 0 rfl rfl 54 (by decide) tX12_54 (hg _ gw_208) rfl dX12_secret_70 ?_
              refine lv_bipush (v := 6) hx hb dX12_secret_73 (by decide +kernel) ?_
              refine lv_iload_n hx hb dX12_secret_75 rfl (lv_at hl 2 rfl) ?_
              refine lv_imul hx hb dX12_secret_76 ?_
              refine g_fi (v := 6) (by decide +kernel) ?_
              refine lv_iload hx hb dX12_secret_77 (lv_at hl 0 rfl) ?_
              refine lv_iadd hx hb dX12_secret_79 ?_
              refine g_fi (v := 8) (by decide +kernel) ?_
              refine lv_iload_n hx hb dX12_secret_80 rfl (lv_at hl 3 rfl) ?_
              refine lv_iload_n hx hb dX12_secret_81 rfl (lv_at hl 4 rfl) ?_
              refine lv_iload hx hb dX12_secret_82 (lv_at hl 0 rfl) ?_
              refine g_ai (wr := [(h0, .inr (12, (.ref h4 :: .int wp22065 :: .int wp22066 :: .ref h7 :: .ref h8 :: .ref h9 :: .ref h10 :: .ref h11 :: .ref h12 :: .ref h13 :: .ref h14 :: .ref h15 :: .int wp22067 :: .ref h17 :: .int wp22068 :: .ref h19 :: .int wp22069 :: .ref h21 :: .ref h22 :: .ref h23 :: .ref h24 :: .ref h25 :: .ref h26 :: .ref h27 :: .ref h28 :: .ref h29 :: .ref h30 :: .ref h31 :: .int wp22070 :: .ref h33 :: .ref h34 :: .ref h35 :: .int wp22071 :: [.ref h37, .ref h38, .ref h39, .ref h40, .ref h41, .ref h42, .ref h43, .ref h44, .ref h45, .ref h46, .ref h47, .ref h48, .ref h49, .ref h50, .ref h51, .int wp22072, .int wp22073, .int wp22074, .int wp22075, .int wp22076, .ref h57, .ref h58, .int wp22077, .ref h60, .int 0, .ref h61, .int wp22078, .ref h63, .ref h64, .int wp22079, .ref h66, .ref h67, .int wp22080, .ref h69, .ref h70, .ref h71, .ref h72, .int wp22081, .int wp22082, .int wp22083, .int wp22084, .ref h77, .ref h78, .ref h79, .ref h80, .ref h81, .ref h82, .ref h83, .ref h84, .ref h85]))), (h57, .inl (y 0, 3, .inl (upd (fun _ => 0) ((1 : Int32).toNatClampNeg) 6))), (h58, .inl (y 0, 18, .inl fn22210))]) (va_runS (As := [.int p2, .int 6, .int 2]) (rest := [.int 8, .ref h58]) ⟨hx, hb, hml, hown, hg⟩ (k_X12_digitOf_16 l D y aS H.size p2) (va_cwS 3 hg ggS_RX12_484_X12_digitOf rfl rfl rfl (by decide +kernel) ⟨Nat.le_of_ble_eq_true rfl, Nat.le_of_ble_eq_true rfl⟩) (g_preS hK hP hD [] rfl (by decide)) rfl rfl hl.1 rfl (lv_room (Nat.le_of_ble_eq_true rfl)) dX12_secret_84 ⟨Nat.le_of_ble_eq_true rfl, Nat.le_of_ble_eq_true rfl⟩) hP hD hS hA [] [0, 1, 2] rfl rfl (by decide) (by decide) ?_
              clear hP hD hS H locs
              refine fun r22211 u H locs hq hP hD hS => ?_
              subst hq
              replace hP : va_P D vwCl [(h0, .inr (12, (.ref h4 :: .int wp22065 :: .int wp22066 :: .ref h7 :: .ref h8 :: .ref h9 :: .ref h10 :: .ref h11 :: .ref h12 :: .ref h13 :: .ref h14 :: .ref h15 :: .int wp22067 :: .ref h17 :: .int wp22068 :: .ref h19 :: .int wp22069 :: .ref h21 :: .ref h22 :: .ref h23 :: .ref h24 :: .ref h25 :: .ref h26 :: .ref h27 :: .ref h28 :: .ref h29 :: .ref h30 :: .ref h31 :: .int wp22070 :: .ref h33 :: .ref h34 :: .ref h35 :: .int wp22071 :: [.ref h37, .ref h38, .ref h39, .ref h40, .ref h41, .ref h42, .ref h43, .ref h44, .ref h45, .ref h46, .ref h47, .ref h48, .ref h49, .ref h50, .ref h51, .int wp22072, .int wp22073, .int wp22074, .int wp22075, .int wp22076, .ref h57, .ref h58, .int wp22077, .ref h60, .int 0, .ref h61, .int wp22078, .ref h63, .ref h64, .int wp22079, .ref h66, .ref h67, .int wp22080, .ref h69, .ref h70, .ref h71, .ref h72, .int wp22081, .int wp22082, .int wp22083, .int wp22084, .ref h77, .ref h78, .ref h79, .ref h80, .ref h81, .ref h82, .ref h83, .ref h84, .ref h85]))), (h57, .inl (y 0, 3, .inl (upd (fun _ => 0) ((1 : Int32).toNatClampNeg) 6))), (h58, .inl (y 0, 18, .inl fn22210))] H := hP
              replace hD : va_D A [(h0, .inr (12, (.ref h4 :: .int wp22065 :: .int wp22066 :: .ref h7 :: .ref h8 :: .ref h9 :: .ref h10 :: .ref h11 :: .ref h12 :: .ref h13 :: .ref h14 :: .ref h15 :: .int wp22067 :: .ref h17 :: .int wp22068 :: .ref h19 :: .int wp22069 :: .ref h21 :: .ref h22 :: .ref h23 :: .ref h24 :: .ref h25 :: .ref h26 :: .ref h27 :: .ref h28 :: .ref h29 :: .ref h30 :: .ref h31 :: .int wp22070 :: .ref h33 :: .ref h34 :: .ref h35 :: .int wp22071 :: [.ref h37, .ref h38, .ref h39, .ref h40, .ref h41, .ref h42, .ref h43, .ref h44, .ref h45, .ref h46, .ref h47, .ref h48, .ref h49, .ref h50, .ref h51, .int wp22072, .int wp22073, .int wp22074, .int wp22075, .int wp22076, .ref h57, .ref h58, .int wp22077, .ref h60, .int 0, .ref h61, .int wp22078, .ref h63, .ref h64, .int wp22079, .ref h66, .ref h67, .int wp22080, .ref h69, .ref h70, .ref h71, .ref h72, .int wp22081, .int wp22082, .int wp22083, .int wp22084, .ref h77, .ref h78, .ref h79, .ref h80, .ref h81, .ref h82, .ref h83, .ref h84, .ref h85]))), (h57, .inl (y 0, 3, .inl (upd (fun _ => 0) ((1 : Int32).toNatClampNeg) 6))), (h58, .inl (y 0, 18, .inl fn22210))] := hD
              refine va_iast hx hb hK.1 hP hD hS 2 0 rfl rfl (by unfold vp_in; decide +kernel) dX12_secret_87 ?_
              clear hP hD hS H locs
              refine fun H locs (hP : va_P D vwCl [(h0, .inr (12, (.ref h4 :: .int wp22065 :: .int wp22066 :: .ref h7 :: .ref h8 :: .ref h9 :: .ref h10 :: .ref h11 :: .ref h12 :: .ref h13 :: .ref h14 :: .ref h15 :: .int wp22067 :: .ref h17 :: .int wp22068 :: .ref h19 :: .int wp22069 :: .ref h21 :: .ref h22 :: .ref h23 :: .ref h24 :: .ref h25 :: .ref h26 :: .ref h27 :: .ref h28 :: .ref h29 :: .ref h30 :: .ref h31 :: .int wp22070 :: .ref h33 :: .ref h34 :: .ref h35 :: .int wp22071 :: [.ref h37, .ref h38, .ref h39, .ref h40, .ref h41, .ref h42, .ref h43, .ref h44, .ref h45, .ref h46, .ref h47, .ref h48, .ref h49, .ref h50, .ref h51, .int wp22072, .int wp22073, .int wp22074, .int wp22075, .int wp22076, .ref h57, .ref h58, .int wp22077, .ref h60, .int 0, .ref h61, .int wp22078, .ref h63, .ref h64, .int wp22079, .ref h66, .ref h67, .int wp22080, .ref h69, .ref h70, .ref h71, .ref h72, .int wp22081, .int wp22082, .int wp22083, .int wp22084, .ref h77, .ref h78, .ref h79, .ref h80, .ref h81, .ref h82, .ref h83, .ref h84, .ref h85]))), (h57, .inl (y 0, 3, .inl (upd (fun _ => 0) ((1 : Int32).toNatClampNeg) 6))), (h58, .inl (y 0, 18, .inl (upd fn22210 ((8 : Int32).toNatClampNeg) ((p2 / 1000) - (p2 / 1000) / 10 * 10))))] H) (hD : va_D A [(h0, .inr (12, (.ref h4 :: .int wp22065 :: .int wp22066 :: .ref h7 :: .ref h8 :: .ref h9 :: .ref h10 :: .ref h11 :: .ref h12 :: .ref h13 :: .ref h14 :: .ref h15 :: .int wp22067 :: .ref h17 :: .int wp22068 :: .ref h19 :: .int wp22069 :: .ref h21 :: .ref h22 :: .ref h23 :: .ref h24 :: .ref h25 :: .ref h26 :: .ref h27 :: .ref h28 :: .ref h29 :: .ref h30 :: .ref h31 :: .int wp22070 :: .ref h33 :: .ref h34 :: .ref h35 :: .int wp22071 :: [.ref h37, .ref h38, .ref h39, .ref h40, .ref h41, .ref h42, .ref h43, .ref h44, .ref h45, .ref h46, .ref h47, .ref h48, .ref h49, .ref h50, .ref h51, .int wp22072, .int wp22073, .int wp22074, .int wp22075, .int wp22076, .ref h57, .ref h58, .int wp22077, .ref h60, .int 0, .ref h61, .int wp22078, .ref h63, .ref h64, .int wp22079, .ref h66, .ref h67, .int wp22080, .ref h69, .ref h70, .ref h71, .ref h72, .int wp22081, .int wp22082, .int wp22083, .int wp22084, .ref h77, .ref h78, .ref h79, .ref h80, .ref h81, .ref h82, .ref h83, .ref h84, .ref h85]))), (h57, .inl (y 0, 3, .inl (upd (fun _ => 0) ((1 : Int32).toNatClampNeg) 6))), (h58, .inl (y 0, 18, .inl (upd fn22210 ((8 : Int32).toNatClampNeg) ((p2 / 1000) - (p2 / 1000) / 10 * 10))))]) hS => ?_
              obtain ⟨fn22212, hfn22212⟩ : ∃ f9 : Nat → Int32, f9 = (upd fn22210 ((8 : Int32).toNatClampNeg) ((p2 / 1000) - (p2 / 1000) / 10 * 10)) := ⟨_, rfl⟩
              rw [← hfn22212] at hP hD
              clear hfn22212
              refine lv_iinc (v := 3) (lv' := [(4, .int 3), (0, .ref h0), (1, .int 1), (2, .int p2), (3, .int 6)]) hx hb dX12_secret_88 hl (k := 0) rfl (by decide +kernel) (by decide) rfl ?_
              clear hl
              clear ls
              intro ls hl
              refine lv_goto (tgt := 63) hx hb dX12_secret_91 (by decide) ?_
              refine lv_iload hx hb dX12_secret_63 (lv_at hl 0 rfl) ?_
              refine lv_iload_n hx hb dX12_secret_65 rfl (lv_at hl 4 rfl) ?_
              refine lv_icmp_ge (tgt := 94) hx hb dX12_secret_66 (by decide) (fun c9 => absurd c9 (by decide +kernel)) (fun _ => ?_)
              refine lv_aload_n hx hb dX12_secret_69 rfl (lv_at hl 1 rfl) ?_
              refine gm_get (D := D) (ci := 12) (v := .ref h58) (C := RX12) (T := TX12) (N := 83) hx hb hg inlX12 hown hK.1 hP 0 rfl rfl 54 (by decide) tX12_54 (hg _ gw_208) rfl dX12_secret_70 ?_
              refine lv_bipush (v := 6) hx hb dX12_secret_73 (by decide +kernel) ?_
              refine lv_iload_n hx hb dX12_secret_75 rfl (lv_at hl 2 rfl) ?_
              refine lv_imul hx hb dX12_secret_76 ?_
              refine g_fi (v := 6) (by decide +kernel) ?_
              refine lv_iload hx hb dX12_secret_77 (lv_at hl 0 rfl) ?_
              refine lv_iadd hx hb dX12_secret_79 ?_
              refine g_fi (v := 9) (by decide +kernel) ?_
              refine lv_iload_n hx hb dX12_secret_80 rfl (lv_at hl 3 rfl) ?_
              refine lv_iload_n hx hb dX12_secret_81 rfl (lv_at hl 4 rfl) ?_
              refine lv_iload hx hb dX12_secret_82 (lv_at hl 0 rfl) ?_
              refine g_ai (wr := [(h0, .inr (12, (.ref h4 :: .int wp22065 :: .int wp22066 :: .ref h7 :: .ref h8 :: .ref h9 :: .ref h10 :: .ref h11 :: .ref h12 :: .ref h13 :: .ref h14 :: .ref h15 :: .int wp22067 :: .ref h17 :: .int wp22068 :: .ref h19 :: .int wp22069 :: .ref h21 :: .ref h22 :: .ref h23 :: .ref h24 :: .ref h25 :: .ref h26 :: .ref h27 :: .ref h28 :: .ref h29 :: .ref h30 :: .ref h31 :: .int wp22070 :: .ref h33 :: .ref h34 :: .ref h35 :: .int wp22071 :: [.ref h37, .ref h38, .ref h39, .ref h40, .ref h41, .ref h42, .ref h43, .ref h44, .ref h45, .ref h46, .ref h47, .ref h48, .ref h49, .ref h50, .ref h51, .int wp22072, .int wp22073, .int wp22074, .int wp22075, .int wp22076, .ref h57, .ref h58, .int wp22077, .ref h60, .int 0, .ref h61, .int wp22078, .ref h63, .ref h64, .int wp22079, .ref h66, .ref h67, .int wp22080, .ref h69, .ref h70, .ref h71, .ref h72, .int wp22081, .int wp22082, .int wp22083, .int wp22084, .ref h77, .ref h78, .ref h79, .ref h80, .ref h81, .ref h82, .ref h83, .ref h84, .ref h85]))), (h57, .inl (y 0, 3, .inl (upd (fun _ => 0) ((1 : Int32).toNatClampNeg) 6))), (h58, .inl (y 0, 18, .inl fn22212))]) (va_runS (As := [.int p2, .int 6, .int 3]) (rest := [.int 9, .ref h58]) ⟨hx, hb, hml, hown, hg⟩ (k_X12_digitOf_17 l D y aS H.size p2) (va_cwS 3 hg ggS_RX12_484_X12_digitOf rfl rfl rfl (by decide +kernel) ⟨Nat.le_of_ble_eq_true rfl, Nat.le_of_ble_eq_true rfl⟩) (g_preS hK hP hD [] rfl (by decide)) rfl rfl hl.1 rfl (lv_room (Nat.le_of_ble_eq_true rfl)) dX12_secret_84 ⟨Nat.le_of_ble_eq_true rfl, Nat.le_of_ble_eq_true rfl⟩) hP hD hS hA [] [0, 1, 2] rfl rfl (by decide) (by decide) ?_
              clear hP hD hS H locs
              refine fun r22213 u H locs hq hP hD hS => ?_
              subst hq
              replace hP : va_P D vwCl [(h0, .inr (12, (.ref h4 :: .int wp22065 :: .int wp22066 :: .ref h7 :: .ref h8 :: .ref h9 :: .ref h10 :: .ref h11 :: .ref h12 :: .ref h13 :: .ref h14 :: .ref h15 :: .int wp22067 :: .ref h17 :: .int wp22068 :: .ref h19 :: .int wp22069 :: .ref h21 :: .ref h22 :: .ref h23 :: .ref h24 :: .ref h25 :: .ref h26 :: .ref h27 :: .ref h28 :: .ref h29 :: .ref h30 :: .ref h31 :: .int wp22070 :: .ref h33 :: .ref h34 :: .ref h35 :: .int wp22071 :: [.ref h37, .ref h38, .ref h39, .ref h40, .ref h41, .ref h42, .ref h43, .ref h44, .ref h45, .ref h46, .ref h47, .ref h48, .ref h49, .ref h50, .ref h51, .int wp22072, .int wp22073, .int wp22074, .int wp22075, .int wp22076, .ref h57, .ref h58, .int wp22077, .ref h60, .int 0, .ref h61, .int wp22078, .ref h63, .ref h64, .int wp22079, .ref h66, .ref h67, .int wp22080, .ref h69, .ref h70, .ref h71, .ref h72, .int wp22081, .int wp22082, .int wp22083, .int wp22084, .ref h77, .ref h78, .ref h79, .ref h80, .ref h81, .ref h82, .ref h83, .ref h84, .ref h85]))), (h57, .inl (y 0, 3, .inl (upd (fun _ => 0) ((1 : Int32).toNatClampNeg) 6))), (h58, .inl (y 0, 18, .inl fn22212))] H := hP
              replace hD : va_D A [(h0, .inr (12, (.ref h4 :: .int wp22065 :: .int wp22066 :: .ref h7 :: .ref h8 :: .ref h9 :: .ref h10 :: .ref h11 :: .ref h12 :: .ref h13 :: .ref h14 :: .ref h15 :: .int wp22067 :: .ref h17 :: .int wp22068 :: .ref h19 :: .int wp22069 :: .ref h21 :: .ref h22 :: .ref h23 :: .ref h24 :: .ref h25 :: .ref h26 :: .ref h27 :: .ref h28 :: .ref h29 :: .ref h30 :: .ref h31 :: .int wp22070 :: .ref h33 :: .ref h34 :: .ref h35 :: .int wp22071 :: [.ref h37, .ref h38, .ref h39, .ref h40, .ref h41, .ref h42, .ref h43, .ref h44, .ref h45, .ref h46, .ref h47, .ref h48, .ref h49, .ref h50, .ref h51, .int wp22072, .int wp22073, .int wp22074, .int wp22075, .int wp22076, .ref h57, .ref h58, .int wp22077, .ref h60, .int 0, .ref h61, .int wp22078, .ref h63, .ref h64, .int wp22079, .ref h66, .ref h67, .int wp22080, .ref h69, .ref h70, .ref h71, .ref h72, .int wp22081, .int wp22082, .int wp22083, .int wp22084, .ref h77, .ref h78, .ref h79, .ref h80, .ref h81, .ref h82, .ref h83, .ref h84, .ref h85]))), (h57, .inl (y 0, 3, .inl (upd (fun _ => 0) ((1 : Int32).toNatClampNeg) 6))), (h58, .inl (y 0, 18, .inl fn22212))] := hD
              refine va_iast hx hb hK.1 hP hD hS 2 0 rfl rfl (by unfold vp_in; decide +kernel) dX12_secret_87 ?_
              clear hP hD hS H locs
              refine fun H locs (hP : va_P D vwCl [(h0, .inr (12, (.ref h4 :: .int wp22065 :: .int wp22066 :: .ref h7 :: .ref h8 :: .ref h9 :: .ref h10 :: .ref h11 :: .ref h12 :: .ref h13 :: .ref h14 :: .ref h15 :: .int wp22067 :: .ref h17 :: .int wp22068 :: .ref h19 :: .int wp22069 :: .ref h21 :: .ref h22 :: .ref h23 :: .ref h24 :: .ref h25 :: .ref h26 :: .ref h27 :: .ref h28 :: .ref h29 :: .ref h30 :: .ref h31 :: .int wp22070 :: .ref h33 :: .ref h34 :: .ref h35 :: .int wp22071 :: [.ref h37, .ref h38, .ref h39, .ref h40, .ref h41, .ref h42, .ref h43, .ref h44, .ref h45, .ref h46, .ref h47, .ref h48, .ref h49, .ref h50, .ref h51, .int wp22072, .int wp22073, .int wp22074, .int wp22075, .int wp22076, .ref h57, .ref h58, .int wp22077, .ref h60, .int 0, .ref h61, .int wp22078, .ref h63, .ref h64, .int wp22079, .ref h66, .ref h67, .int wp22080, .ref h69, .ref h70, .ref h71, .ref h72, .int wp22081, .int wp22082, .int wp22083, .int wp22084, .ref h77, .ref h78, .ref h79, .ref h80, .ref h81, .ref h82, .ref h83, .ref h84, .ref h85]))), (h57, .inl (y 0, 3, .inl (upd (fun _ => 0) ((1 : Int32).toNatClampNeg) 6))), (h58, .inl (y 0, 18, .inl (upd fn22212 ((9 : Int32).toNatClampNeg) ((p2 / 100) - (p2 / 100) / 10 * 10))))] H) (hD : va_D A [(h0, .inr (12, (.ref h4 :: .int wp22065 :: .int wp22066 :: .ref h7 :: .ref h8 :: .ref h9 :: .ref h10 :: .ref h11 :: .ref h12 :: .ref h13 :: .ref h14 :: .ref h15 :: .int wp22067 :: .ref h17 :: .int wp22068 :: .ref h19 :: .int wp22069 :: .ref h21 :: .ref h22 :: .ref h23 :: .ref h24 :: .ref h25 :: .ref h26 :: .ref h27 :: .ref h28 :: .ref h29 :: .ref h30 :: .ref h31 :: .int wp22070 :: .ref h33 :: .ref h34 :: .ref h35 :: .int wp22071 :: [.ref h37, .ref h38, .ref h39, .ref h40, .ref h41, .ref h42, .ref h43, .ref h44, .ref h45, .ref h46, .ref h47, .ref h48, .ref h49, .ref h50, .ref h51, .int wp22072, .int wp22073, .int wp22074, .int wp22075, .int wp22076, .ref h57, .ref h58, .int wp22077, .ref h60, .int 0, .ref h61, .int wp22078, .ref h63, .ref h64, .int wp22079, .ref h66, .ref h67, .int wp22080, .ref h69, .ref h70, .ref h71, .ref h72, .int wp22081, .int wp22082, .int wp22083, .int wp22084, .ref h77, .ref h78, .ref h79, .ref h80, .ref h81, .ref h82, .ref h83, .ref h84, .ref h85]))), (h57, .inl (y 0, 3, .inl (upd (fun _ => 0) ((1 : Int32).toNatClampNeg) 6))), (h58, .inl (y 0, 18, .inl (upd fn22212 ((9 : Int32).toNatClampNeg) ((p2 / 100) - (p2 / 100) / 10 * 10))))]) hS => ?_
              obtain ⟨fn22214, hfn22214⟩ : ∃ f9 : Nat → Int32, f9 = (upd fn22212 ((9 : Int32).toNatClampNeg) ((p2 / 100) - (p2 / 100) / 10 * 10)) := ⟨_, rfl⟩
              rw [← hfn22214] at hP hD
              clear hfn22214
              refine lv_iinc (v := 4) (lv' := [(4, .int 4), (0, .ref h0), (1, .int 1), (2, .int p2), (3, .int 6)]) hx hb dX12_secret_88 hl (k := 0) rfl (by decide +kernel) (by decide) rfl ?_
              clear hl
              clear ls
              intro ls hl
              refine lv_goto (tgt := 63) hx hb dX12_secret_91 (by decide) ?_
              refine lv_iload hx hb dX12_secret_63 (lv_at hl 0 rfl) ?_
              refine lv_iload_n hx hb dX12_secret_65 rfl (lv_at hl 4 rfl) ?_
              refine lv_icmp_ge (tgt := 94) hx hb dX12_secret_66 (by decide) (fun c9 => absurd c9 (by decide +kernel)) (fun _ => ?_)
              refine lv_aload_n hx hb dX12_secret_69 rfl (lv_at hl 1 rfl) ?_
              refine gm_get (D := D) (ci := 12) (v := .ref h58) (C := RX12) (T := TX12) (N := 83) hx hb hg inlX12 hown hK.1 hP 0 rfl rfl 54 (by decide) tX12_54 (hg _ gw_208) rfl dX12_secret_70 ?_
              refine lv_bipush (v := 6) hx hb dX12_secret_73 (by decide +kernel) ?_
              refine lv_iload_n hx hb dX12_secret_75 rfl (lv_at hl 2 rfl) ?_
              refine lv_imul hx hb dX12_secret_76 ?_
              refine g_fi (v := 6) (by decide +kernel) ?_
              refine lv_iload hx hb dX12_secret_77 (lv_at hl 0 rfl) ?_
              refine lv_iadd hx hb dX12_secret_79 ?_
              refine g_fi (v := 10) (by decide +kernel) ?_
              refine lv_iload_n hx hb dX12_secret_80 rfl (lv_at hl 3 rfl) ?_
              refine lv_iload_n hx hb dX12_secret_81 rfl (lv_at hl 4 rfl) ?_
              refine lv_iload hx hb dX12_secret_82 (lv_at hl 0 rfl) ?_
              refine g_ai (wr := [(h0, .inr (12, (.ref h4 :: .int wp22065 :: .int wp22066 :: .ref h7 :: .ref h8 :: .ref h9 :: .ref h10 :: .ref h11 :: .ref h12 :: .ref h13 :: .ref h14 :: .ref h15 :: .int wp22067 :: .ref h17 :: .int wp22068 :: .ref h19 :: .int wp22069 :: .ref h21 :: .ref h22 :: .ref h23 :: .ref h24 :: .ref h25 :: .ref h26 :: .ref h27 :: .ref h28 :: .ref h29 :: .ref h30 :: .ref h31 :: .int wp22070 :: .ref h33 :: .ref h34 :: .ref h35 :: .int wp22071 :: [.ref h37, .ref h38, .ref h39, .ref h40, .ref h41, .ref h42, .ref h43, .ref h44, .ref h45, .ref h46, .ref h47, .ref h48, .ref h49, .ref h50, .ref h51, .int wp22072, .int wp22073, .int wp22074, .int wp22075, .int wp22076, .ref h57, .ref h58, .int wp22077, .ref h60, .int 0, .ref h61, .int wp22078, .ref h63, .ref h64, .int wp22079, .ref h66, .ref h67, .int wp22080, .ref h69, .ref h70, .ref h71, .ref h72, .int wp22081, .int wp22082, .int wp22083, .int wp22084, .ref h77, .ref h78, .ref h79, .ref h80, .ref h81, .ref h82, .ref h83, .ref h84, .ref h85]))), (h57, .inl (y 0, 3, .inl (upd (fun _ => 0) ((1 : Int32).toNatClampNeg) 6))), (h58, .inl (y 0, 18, .inl fn22214))]) (va_runS (As := [.int p2, .int 6, .int 4]) (rest := [.int 10, .ref h58]) ⟨hx, hb, hml, hown, hg⟩ (k_X12_digitOf_18 l D y aS H.size p2) (va_cwS 3 hg ggS_RX12_484_X12_digitOf rfl rfl rfl (by decide +kernel) ⟨Nat.le_of_ble_eq_true rfl, Nat.le_of_ble_eq_true rfl⟩) (g_preS hK hP hD [] rfl (by decide)) rfl rfl hl.1 rfl (lv_room (Nat.le_of_ble_eq_true rfl)) dX12_secret_84 ⟨Nat.le_of_ble_eq_true rfl, Nat.le_of_ble_eq_true rfl⟩) hP hD hS hA [] [0, 1, 2] rfl rfl (by decide) (by decide) ?_
              clear hP hD hS H locs
              refine fun r22215 u H locs hq hP hD hS => ?_
              subst hq
              replace hP : va_P D vwCl [(h0, .inr (12, (.ref h4 :: .int wp22065 :: .int wp22066 :: .ref h7 :: .ref h8 :: .ref h9 :: .ref h10 :: .ref h11 :: .ref h12 :: .ref h13 :: .ref h14 :: .ref h15 :: .int wp22067 :: .ref h17 :: .int wp22068 :: .ref h19 :: .int wp22069 :: .ref h21 :: .ref h22 :: .ref h23 :: .ref h24 :: .ref h25 :: .ref h26 :: .ref h27 :: .ref h28 :: .ref h29 :: .ref h30 :: .ref h31 :: .int wp22070 :: .ref h33 :: .ref h34 :: .ref h35 :: .int wp22071 :: [.ref h37, .ref h38, .ref h39, .ref h40, .ref h41, .ref h42, .ref h43, .ref h44, .ref h45, .ref h46, .ref h47, .ref h48, .ref h49, .ref h50, .ref h51, .int wp22072, .int wp22073, .int wp22074, .int wp22075, .int wp22076, .ref h57, .ref h58, .int wp22077, .ref h60, .int 0, .ref h61, .int wp22078, .ref h63, .ref h64, .int wp22079, .ref h66, .ref h67, .int wp22080, .ref h69, .ref h70, .ref h71, .ref h72, .int wp22081, .int wp22082, .int wp22083, .int wp22084, .ref h77, .ref h78, .ref h79, .ref h80, .ref h81, .ref h82, .ref h83, .ref h84, .ref h85]))), (h57, .inl (y 0, 3, .inl (upd (fun _ => 0) ((1 : Int32).toNatClampNeg) 6))), (h58, .inl (y 0, 18, .inl fn22214))] H := hP
              replace hD : va_D A [(h0, .inr (12, (.ref h4 :: .int wp22065 :: .int wp22066 :: .ref h7 :: .ref h8 :: .ref h9 :: .ref h10 :: .ref h11 :: .ref h12 :: .ref h13 :: .ref h14 :: .ref h15 :: .int wp22067 :: .ref h17 :: .int wp22068 :: .ref h19 :: .int wp22069 :: .ref h21 :: .ref h22 :: .ref h23 :: .ref h24 :: .ref h25 :: .ref h26 :: .ref h27 :: .ref h28 :: .ref h29 :: .ref h30 :: .ref h31 :: .int wp22070 :: .ref h33 :: .ref h34 :: .ref h35 :: .int wp22071 :: [.ref h37, .ref h38, .ref h39, .ref h40, .ref h41, .ref h42, .ref h43, .ref h44, .ref h45, .ref h46, .ref h47, .ref h48, .ref h49, .ref h50, .ref h51, .int wp22072, .int wp22073, .int wp22074, .int wp22075, .int wp22076, .ref h57, .ref h58, .int wp22077, .ref h60, .int 0, .ref h61, .int wp22078, .ref h63, .ref h64, .int wp22079, .ref h66, .ref h67, .int wp22080, .ref h69, .ref h70, .ref h71, .ref h72, .int wp22081, .int wp22082, .int wp22083, .int wp22084, .ref h77, .ref h78, .ref h79, .ref h80, .ref h81, .ref h82, .ref h83, .ref h84, .ref h85]))), (h57, .inl (y 0, 3, .inl (upd (fun _ => 0) ((1 : Int32).toNatClampNeg) 6))), (h58, .inl (y 0, 18, .inl fn22214))] := hD
              refine va_iast hx hb hK.1 hP hD hS 2 0 rfl rfl (by unfold vp_in; decide +kernel) dX12_secret_87 ?_
              clear hP hD hS H locs
              refine fun H locs (hP : va_P D vwCl [(h0, .inr (12, (.ref h4 :: .int wp22065 :: .int wp22066 :: .ref h7 :: .ref h8 :: .ref h9 :: .ref h10 :: .ref h11 :: .ref h12 :: .ref h13 :: .ref h14 :: .ref h15 :: .int wp22067 :: .ref h17 :: .int wp22068 :: .ref h19 :: .int wp22069 :: .ref h21 :: .ref h22 :: .ref h23 :: .ref h24 :: .ref h25 :: .ref h26 :: .ref h27 :: .ref h28 :: .ref h29 :: .ref h30 :: .ref h31 :: .int wp22070 :: .ref h33 :: .ref h34 :: .ref h35 :: .int wp22071 :: [.ref h37, .ref h38, .ref h39, .ref h40, .ref h41, .ref h42, .ref h43, .ref h44, .ref h45, .ref h46, .ref h47, .ref h48, .ref h49, .ref h50, .ref h51, .int wp22072, .int wp22073, .int wp22074, .int wp22075, .int wp22076, .ref h57, .ref h58, .int wp22077, .ref h60, .int 0, .ref h61, .int wp22078, .ref h63, .ref h64, .int wp22079, .ref h66, .ref h67, .int wp22080, .ref h69, .ref h70, .ref h71, .ref h72, .int wp22081, .int wp22082, .int wp22083, .int wp22084, .ref h77, .ref h78, .ref h79, .ref h80, .ref h81, .ref h82, .ref h83, .ref h84, .ref h85]))), (h57, .inl (y 0, 3, .inl (upd (fun _ => 0) ((1 : Int32).toNatClampNeg) 6))), (h58, .inl (y 0, 18, .inl (upd fn22214 ((10 : Int32).toNatClampNeg) ((p2 / 10) - (p2 / 10) / 10 * 10))))] H) (hD : va_D A [(h0, .inr (12, (.ref h4 :: .int wp22065 :: .int wp22066 :: .ref h7 :: .ref h8 :: .ref h9 :: .ref h10 :: .ref h11 :: .ref h12 :: .ref h13 :: .ref h14 :: .ref h15 :: .int wp22067 :: .ref h17 :: .int wp22068 :: .ref h19 :: .int wp22069 :: .ref h21 :: .ref h22 :: .ref h23 :: .ref h24 :: .ref h25 :: .ref h26 :: .ref h27 :: .ref h28 :: .ref h29 :: .ref h30 :: .ref h31 :: .int wp22070 :: .ref h33 :: .ref h34 :: .ref h35 :: .int wp22071 :: [.ref h37, .ref h38, .ref h39, .ref h40, .ref h41, .ref h42, .ref h43, .ref h44, .ref h45, .ref h46, .ref h47, .ref h48, .ref h49, .ref h50, .ref h51, .int wp22072, .int wp22073, .int wp22074, .int wp22075, .int wp22076, .ref h57, .ref h58, .int wp22077, .ref h60, .int 0, .ref h61, .int wp22078, .ref h63, .ref h64, .int wp22079, .ref h66, .ref h67, .int wp22080, .ref h69, .ref h70, .ref h71, .ref h72, .int wp22081, .int wp22082, .int wp22083, .int wp22084, .ref h77, .ref h78, .ref h79, .ref h80, .ref h81, .ref h82, .ref h83, .ref h84, .ref h85]))), (h57, .inl (y 0, 3, .inl (upd (fun _ => 0) ((1 : Int32).toNatClampNeg) 6))), (h58, .inl (y 0, 18, .inl (upd fn22214 ((10 : Int32).toNatClampNeg) ((p2 / 10) - (p2 / 10) / 10 * 10))))]) hS => ?_
              obtain ⟨fn22216, hfn22216⟩ : ∃ f9 : Nat → Int32, f9 = (upd fn22214 ((10 : Int32).toNatClampNeg) ((p2 / 10) - (p2 / 10) / 10 * 10)) := ⟨_, rfl⟩
              rw [← hfn22216] at hP hD
              clear hfn22216
              refine lv_iinc (v := 5) (lv' := [(4, .int 5), (0, .ref h0), (1, .int 1), (2, .int p2), (3, .int 6)]) hx hb dX12_secret_88 hl (k := 0) rfl (by decide +kernel) (by decide) rfl ?_
              clear hl
              clear ls
              intro ls hl
              refine lv_goto (tgt := 63) hx hb dX12_secret_91 (by decide) ?_
              refine lv_iload hx hb dX12_secret_63 (lv_at hl 0 rfl) ?_
              refine lv_iload_n hx hb dX12_secret_65 rfl (lv_at hl 4 rfl) ?_
              refine lv_icmp_ge (tgt := 94) hx hb dX12_secret_66 (by decide) (fun c9 => absurd c9 (by decide +kernel)) (fun _ => ?_)
              refine lv_aload_n hx hb dX12_secret_69 rfl (lv_at hl 1 rfl) ?_
              refine gm_get (D := D) (ci := 12) (v := .ref h58) (C := RX12) (T := TX12) (N := 83) hx hb hg inlX12 hown hK.1 hP 0 rfl rfl 54 (by decide) tX12_54 (hg _ gw_208) rfl dX12_secret_70 ?_
              refine lv_bipush (v := 6) hx hb dX12_secret_73 (by decide +kernel) ?_
              refine lv_iload_n hx hb dX12_secret_75 rfl (lv_at hl 2 rfl) ?_
              refine lv_imul hx hb dX12_secret_76 ?_
              refine g_fi (v := 6) (by decide +kernel) ?_
              refine lv_iload hx hb dX12_secret_77 (lv_at hl 0 rfl) ?_
              refine lv_iadd hx hb dX12_secret_79 ?_
              refine g_fi (v := 11) (by decide +kernel) ?_
              refine lv_iload_n hx hb dX12_secret_80 rfl (lv_at hl 3 rfl) ?_
              refine lv_iload_n hx hb dX12_secret_81 rfl (lv_at hl 4 rfl) ?_
              refine lv_iload hx hb dX12_secret_82 (lv_at hl 0 rfl) ?_
              refine g_ai (wr := [(h0, .inr (12, (.ref h4 :: .int wp22065 :: .int wp22066 :: .ref h7 :: .ref h8 :: .ref h9 :: .ref h10 :: .ref h11 :: .ref h12 :: .ref h13 :: .ref h14 :: .ref h15 :: .int wp22067 :: .ref h17 :: .int wp22068 :: .ref h19 :: .int wp22069 :: .ref h21 :: .ref h22 :: .ref h23 :: .ref h24 :: .ref h25 :: .ref h26 :: .ref h27 :: .ref h28 :: .ref h29 :: .ref h30 :: .ref h31 :: .int wp22070 :: .ref h33 :: .ref h34 :: .ref h35 :: .int wp22071 :: [.ref h37, .ref h38, .ref h39, .ref h40, .ref h41, .ref h42, .ref h43, .ref h44, .ref h45, .ref h46, .ref h47, .ref h48, .ref h49, .ref h50, .ref h51, .int wp22072, .int wp22073, .int wp22074, .int wp22075, .int wp22076, .ref h57, .ref h58, .int wp22077, .ref h60, .int 0, .ref h61, .int wp22078, .ref h63, .ref h64, .int wp22079, .ref h66, .ref h67, .int wp22080, .ref h69, .ref h70, .ref h71, .ref h72, .int wp22081, .int wp22082, .int wp22083, .int wp22084, .ref h77, .ref h78, .ref h79, .ref h80, .ref h81, .ref h82, .ref h83, .ref h84, .ref h85]))), (h57, .inl (y 0, 3, .inl (upd (fun _ => 0) ((1 : Int32).toNatClampNeg) 6))), (h58, .inl (y 0, 18, .inl fn22216))]) (va_runS (As := [.int p2, .int 6, .int 5]) (rest := [.int 11, .ref h58]) ⟨hx, hb, hml, hown, hg⟩ (k_X12_digitOf_19 l D y aS H.size p2) (va_cwS 3 hg ggS_RX12_484_X12_digitOf rfl rfl rfl (by decide +kernel) ⟨Nat.le_of_ble_eq_true rfl, Nat.le_of_ble_eq_true rfl⟩) (g_preS hK hP hD [] rfl (by decide)) rfl rfl hl.1 rfl (lv_room (Nat.le_of_ble_eq_true rfl)) dX12_secret_84 ⟨Nat.le_of_ble_eq_true rfl, Nat.le_of_ble_eq_true rfl⟩) hP hD hS hA [] [0, 1, 2] rfl rfl (by decide) (by decide) ?_
              clear hP hD hS H locs
              refine fun r22217 u H locs hq hP hD hS => ?_
              subst hq
              replace hP : va_P D vwCl [(h0, .inr (12, (.ref h4 :: .int wp22065 :: .int wp22066 :: .ref h7 :: .ref h8 :: .ref h9 :: .ref h10 :: .ref h11 :: .ref h12 :: .ref h13 :: .ref h14 :: .ref h15 :: .int wp22067 :: .ref h17 :: .int wp22068 :: .ref h19 :: .int wp22069 :: .ref h21 :: .ref h22 :: .ref h23 :: .ref h24 :: .ref h25 :: .ref h26 :: .ref h27 :: .ref h28 :: .ref h29 :: .ref h30 :: .ref h31 :: .int wp22070 :: .ref h33 :: .ref h34 :: .ref h35 :: .int wp22071 :: [.ref h37, .ref h38, .ref h39, .ref h40, .ref h41, .ref h42, .ref h43, .ref h44, .ref h45, .ref h46, .ref h47, .ref h48, .ref h49, .ref h50, .ref h51, .int wp22072, .int wp22073, .int wp22074, .int wp22075, .int wp22076, .ref h57, .ref h58, .int wp22077, .ref h60, .int 0, .ref h61, .int wp22078, .ref h63, .ref h64, .int wp22079, .ref h66, .ref h67, .int wp22080, .ref h69, .ref h70, .ref h71, .ref h72, .int wp22081, .int wp22082, .int wp22083, .int wp22084, .ref h77, .ref h78, .ref h79, .ref h80, .ref h81, .ref h82, .ref h83, .ref h84, .ref h85]))), (h57, .inl (y 0, 3, .inl (upd (fun _ => 0) ((1 : Int32).toNatClampNeg) 6))), (h58, .inl (y 0, 18, .inl fn22216))] H := hP
              replace hD : va_D A [(h0, .inr (12, (.ref h4 :: .int wp22065 :: .int wp22066 :: .ref h7 :: .ref h8 :: .ref h9 :: .ref h10 :: .ref h11 :: .ref h12 :: .ref h13 :: .ref h14 :: .ref h15 :: .int wp22067 :: .ref h17 :: .int wp22068 :: .ref h19 :: .int wp22069 :: .ref h21 :: .ref h22 :: .ref h23 :: .ref h24 :: .ref h25 :: .ref h26 :: .ref h27 :: .ref h28 :: .ref h29 :: .ref h30 :: .ref h31 :: .int wp22070 :: .ref h33 :: .ref h34 :: .ref h35 :: .int wp22071 :: [.ref h37, .ref h38, .ref h39, .ref h40, .ref h41, .ref h42, .ref h43, .ref h44, .ref h45, .ref h46, .ref h47, .ref h48, .ref h49, .ref h50, .ref h51, .int wp22072, .int wp22073, .int wp22074, .int wp22075, .int wp22076, .ref h57, .ref h58, .int wp22077, .ref h60, .int 0, .ref h61, .int wp22078, .ref h63, .ref h64, .int wp22079, .ref h66, .ref h67, .int wp22080, .ref h69, .ref h70, .ref h71, .ref h72, .int wp22081, .int wp22082, .int wp22083, .int wp22084, .ref h77, .ref h78, .ref h79, .ref h80, .ref h81, .ref h82, .ref h83, .ref h84, .ref h85]))), (h57, .inl (y 0, 3, .inl (upd (fun _ => 0) ((1 : Int32).toNatClampNeg) 6))), (h58, .inl (y 0, 18, .inl fn22216))] := hD
              refine va_iast hx hb hK.1 hP hD hS 2 0 rfl rfl (by unfold vp_in; decide +kernel) dX12_secret_87 ?_
              clear hP hD hS H locs
              refine fun H locs (hP : va_P D vwCl [(h0, .inr (12, (.ref h4 :: .int wp22065 :: .int wp22066 :: .ref h7 :: .ref h8 :: .ref h9 :: .ref h10 :: .ref h11 :: .ref h12 :: .ref h13 :: .ref h14 :: .ref h15 :: .int wp22067 :: .ref h17 :: .int wp22068 :: .ref h19 :: .int wp22069 :: .ref h21 :: .ref h22 :: .ref h23 :: .ref h24 :: .ref h25 :: .ref h26 :: .ref h27 :: .ref h28 :: .ref h29 :: .ref h30 :: .ref h31 :: .int wp22070 :: .ref h33 :: .ref h34 :: .ref h35 :: .int wp22071 :: [.ref h37, .ref h38, .ref h39, .ref h40, .ref h41, .ref h42, .ref h43, .ref h44, .ref h45, .ref h46, .ref h47, .ref h48, .ref h49, .ref h50, .ref h51, .int wp22072, .int wp22073, .int wp22074, .int wp22075, .int wp22076, .ref h57, .ref h58, .int wp22077, .ref h60, .int 0, .ref h61, .int wp22078, .ref h63, .ref h64, .int wp22079, .ref h66, .ref h67, .int wp22080, .ref h69, .ref h70, .ref h71, .ref h72, .int wp22081, .int wp22082, .int wp22083, .int wp22084, .ref h77, .ref h78, .ref h79, .ref h80, .ref h81, .ref h82, .ref h83, .ref h84, .ref h85]))), (h57, .inl (y 0, 3, .inl (upd (fun _ => 0) ((1 : Int32).toNatClampNeg) 6))), (h58, .inl (y 0, 18, .inl (upd fn22216 ((11 : Int32).toNatClampNeg) ((p2 / 1) - (p2 / 1) / 10 * 10))))] H) (hD : va_D A [(h0, .inr (12, (.ref h4 :: .int wp22065 :: .int wp22066 :: .ref h7 :: .ref h8 :: .ref h9 :: .ref h10 :: .ref h11 :: .ref h12 :: .ref h13 :: .ref h14 :: .ref h15 :: .int wp22067 :: .ref h17 :: .int wp22068 :: .ref h19 :: .int wp22069 :: .ref h21 :: .ref h22 :: .ref h23 :: .ref h24 :: .ref h25 :: .ref h26 :: .ref h27 :: .ref h28 :: .ref h29 :: .ref h30 :: .ref h31 :: .int wp22070 :: .ref h33 :: .ref h34 :: .ref h35 :: .int wp22071 :: [.ref h37, .ref h38, .ref h39, .ref h40, .ref h41, .ref h42, .ref h43, .ref h44, .ref h45, .ref h46, .ref h47, .ref h48, .ref h49, .ref h50, .ref h51, .int wp22072, .int wp22073, .int wp22074, .int wp22075, .int wp22076, .ref h57, .ref h58, .int wp22077, .ref h60, .int 0, .ref h61, .int wp22078, .ref h63, .ref h64, .int wp22079, .ref h66, .ref h67, .int wp22080, .ref h69, .ref h70, .ref h71, .ref h72, .int wp22081, .int wp22082, .int wp22083, .int wp22084, .ref h77, .ref h78, .ref h79, .ref h80, .ref h81, .ref h82, .ref h83, .ref h84, .ref h85]))), (h57, .inl (y 0, 3, .inl (upd (fun _ => 0) ((1 : Int32).toNatClampNeg) 6))), (h58, .inl (y 0, 18, .inl (upd fn22216 ((11 : Int32).toNatClampNeg) ((p2 / 1) - (p2 / 1) / 10 * 10))))]) hS => ?_
              obtain ⟨fn22218, hfn22218⟩ : ∃ f9 : Nat → Int32, f9 = (upd fn22216 ((11 : Int32).toNatClampNeg) ((p2 / 1) - (p2 / 1) / 10 * 10)) := ⟨_, rfl⟩
              rw [← hfn22218] at hP hD
              clear hfn22218
              refine lv_iinc (v := 6) (lv' := [(4, .int 6), (0, .ref h0), (1, .int 1), (2, .int p2), (3, .int 6)]) hx hb dX12_secret_88 hl (k := 0) rfl (by decide +kernel) (by decide) rfl ?_
              clear hl
              clear ls
              intro ls hl
              refine lv_goto (tgt := 63) hx hb dX12_secret_91 (by decide) ?_
              refine lv_iload hx hb dX12_secret_63 (lv_at hl 0 rfl) ?_
              refine lv_iload_n hx hb dX12_secret_65 rfl (lv_at hl 4 rfl) ?_
              refine lv_icmp_ge (tgt := 94) hx hb dX12_secret_66 (by decide) (fun _ => ?_) (fun c9 => absurd c9 (by decide +kernel))
              refine lv_iconst (v := 0) hx hb dX12_secret_94 (by decide) ?_
              refine lv_istore (lv' := [(4, .int 0), (0, .ref h0), (1, .int 1), (2, .int p2), (3, .int 6)]) hx hb dX12_secret_95 hl (by decide) rfl ?_
              clear hl
              clear ls
              intro ls hl
              refine lv_iconst (v := 0) hx hb dX12_secret_97 (by decide) ?_
              refine lv_istore (lv' := [(5, .int 0), (4, .int 0), (0, .ref h0), (1, .int 1), (2, .int p2), (3, .int 6)]) hx hb dX12_secret_98 hl (by decide) rfl ?_
              clear hl
              clear ls
              intro ls hl
              refine lv_iload hx hb dX12_secret_100 (lv_at hl 0 rfl) ?_
              refine lv_iconst (v := 3) hx hb dX12_secret_102 (by decide) ?_
              refine lv_icmp_ge (tgt := 132) hx hb dX12_secret_103 (by decide) (fun c9 => absurd c9 (by decide +kernel)) (fun _ => ?_)
              refine lv_iload hx hb dX12_secret_106 (lv_at hl 1 rfl) ?_
              refine lv_aload_n hx hb dX12_secret_108 rfl (lv_at hl 2 rfl) ?_
              refine gm_get (D := D) (ci := 12) (v := .ref h57) (C := RX12) (T := TX12) (N := 83) hx hb hg inlX12 hown hK.1 hP 0 rfl rfl 53 (by decide) tX12_53 (hg _ gw_207) rfl dX12_secret_109 ?_
              refine lv_iload hx hb dX12_secret_112 (lv_at hl 0 rfl) ?_
              refine va_iald hx hb hK.1 hP 1 0 rfl rfl (by unfold vp_in; decide +kernel) dX12_secret_114 ?_
              refine g_fi (v := 0) (by rfl) ?_
              refine lv_if_le (tgt := 122) hx hb dX12_secret_115 (by decide) (fun _ => ?_) (fun c9 => absurd c9 (by decide +kernel))
              refine lv_iconst (v := 0) hx hb dX12_secret_122 (by decide) ?_
              refine lv_iadd hx hb dX12_secret_123 ?_
              refine g_fi (v := 0) (by decide +kernel) ?_
              refine lv_istore (lv' := [(4, .int 0), (5, .int 0), (0, .ref h0), (1, .int 1), (2, .int p2), (3, .int 6)]) hx hb dX12_secret_124 hl (by decide) rfl ?_
              clear hl
              clear ls
              intro ls hl
              refine lv_iinc (v := 1) (lv' := [(5, .int 1), (4, .int 0), (0, .ref h0), (1, .int 1), (2, .int p2), (3, .int 6)]) hx hb dX12_secret_126 hl (k := 1) rfl (by decide +kernel) (by decide) rfl ?_
              clear hl
              clear ls
              intro ls hl
              refine lv_goto (tgt := 100) hx hb dX12_secret_129 (by decide) ?_
              refine lv_iload hx hb dX12_secret_100 (lv_at hl 0 rfl) ?_
              refine lv_iconst (v := 3) hx hb dX12_secret_102 (by decide) ?_
              refine lv_icmp_ge (tgt := 132) hx hb dX12_secret_103 (by decide) (fun c9 => absurd c9 (by decide +kernel)) (fun _ => ?_)
              refine lv_iload hx hb dX12_secret_106 (lv_at hl 1 rfl) ?_
              refine lv_aload_n hx hb dX12_secret_108 rfl (lv_at hl 2 rfl) ?_
              refine gm_get (D := D) (ci := 12) (v := .ref h57) (C := RX12) (T := TX12) (N := 83) hx hb hg inlX12 hown hK.1 hP 0 rfl rfl 53 (by decide) tX12_53 (hg _ gw_207) rfl dX12_secret_109 ?_
              refine lv_iload hx hb dX12_secret_112 (lv_at hl 0 rfl) ?_
              refine va_iald hx hb hK.1 hP 1 0 rfl rfl (by unfold vp_in; decide +kernel) dX12_secret_114 ?_
              refine g_fi (v := 6) (by rfl) ?_
              refine lv_if_le (tgt := 122) hx hb dX12_secret_115 (by decide) (fun c9 => absurd c9 (by decide +kernel)) (fun _ => ?_)
              refine lv_iconst (v := 1) hx hb dX12_secret_118 (by decide) ?_
              refine lv_goto (tgt := 123) hx hb dX12_secret_119 (by decide) ?_
              refine lv_iadd hx hb dX12_secret_123 ?_
              refine g_fi (v := 1) (by decide +kernel) ?_
              refine lv_istore (lv' := [(4, .int 1), (5, .int 1), (0, .ref h0), (1, .int 1), (2, .int p2), (3, .int 6)]) hx hb dX12_secret_124 hl (by decide) rfl ?_
              clear hl
              clear ls
              intro ls hl
              refine lv_iinc (v := 2) (lv' := [(5, .int 2), (4, .int 1), (0, .ref h0), (1, .int 1), (2, .int p2), (3, .int 6)]) hx hb dX12_secret_126 hl (k := 1) rfl (by decide +kernel) (by decide) rfl ?_
              clear hl
              clear ls
              intro ls hl
              refine lv_goto (tgt := 100) hx hb dX12_secret_129 (by decide) ?_
              refine lv_iload hx hb dX12_secret_100 (lv_at hl 0 rfl) ?_
              refine lv_iconst (v := 3) hx hb dX12_secret_102 (by decide) ?_
              refine lv_icmp_ge (tgt := 132) hx hb dX12_secret_103 (by decide) (fun c9 => absurd c9 (by decide +kernel)) (fun _ => ?_)
              refine lv_iload hx hb dX12_secret_106 (lv_at hl 1 rfl) ?_
              refine lv_aload_n hx hb dX12_secret_108 rfl (lv_at hl 2 rfl) ?_
              refine gm_get (D := D) (ci := 12) (v := .ref h57) (C := RX12) (T := TX12) (N := 83) hx hb hg inlX12 hown hK.1 hP 0 rfl rfl 53 (by decide) tX12_53 (hg _ gw_207) rfl dX12_secret_109 ?_
              refine lv_iload hx hb dX12_secret_112 (lv_at hl 0 rfl) ?_
              refine va_iald hx hb hK.1 hP 1 0 rfl rfl (by unfold vp_in; decide +kernel) dX12_secret_114 ?_
              refine g_fi (v := 0) (by rfl) ?_
              refine lv_if_le (tgt := 122) hx hb dX12_secret_115 (by decide) (fun _ => ?_) (fun c9 => absurd c9 (by decide +kernel))
              refine lv_iconst (v := 0) hx hb dX12_secret_122 (by decide) ?_
              refine lv_iadd hx hb dX12_secret_123 ?_
              refine g_fi (v := 1) (by decide +kernel) ?_
              refine lv_istore (lv' := [(4, .int 1), (5, .int 2), (0, .ref h0), (1, .int 1), (2, .int p2), (3, .int 6)]) hx hb dX12_secret_124 hl (by decide) rfl ?_
              clear hl
              clear ls
              intro ls hl
              refine lv_iinc (v := 3) (lv' := [(5, .int 3), (4, .int 1), (0, .ref h0), (1, .int 1), (2, .int p2), (3, .int 6)]) hx hb dX12_secret_126 hl (k := 1) rfl (by decide +kernel) (by decide) rfl ?_
              clear hl
              clear ls
              intro ls hl
              refine lv_goto (tgt := 100) hx hb dX12_secret_129 (by decide) ?_
              refine lv_iload hx hb dX12_secret_100 (lv_at hl 0 rfl) ?_
              refine lv_iconst (v := 3) hx hb dX12_secret_102 (by decide) ?_
              refine lv_icmp_ge (tgt := 132) hx hb dX12_secret_103 (by decide) (fun _ => ?_) (fun c9 => absurd c9 (by decide +kernel))
              refine lv_iload hx hb dX12_secret_132 (lv_at hl 1 rfl) ?_
              exact g_iret hx hb hr hlocks ⟨0, (upd (fun _ => 0) ((1 : Int32).toNatClampNeg) 6), fn22218⟩ hP hD hS rfl (Or.inr (Or.inr (Or.inr (Or.inr (Or.inr (Or.inr (Or.inr (Or.inr (Or.inr (Or.inr (Or.inr (Or.inr (Or.inr (Or.inr (Or.inr (Or.inr (Or.inr (Or.inr (Or.inr (Or.inr (Or.inr (Or.inr (Or.inl ⟨rfl, rfl, rfl, (by first | omega | (simp_all; done)), (by first | omega | (simp_all; done)), (by first | omega | (simp_all; done)), (by first | omega | (simp_all; done)), (by first | omega | (simp_all; done)), (by first | omega | (simp_all; done))⟩))))))))))))))))))))))) (Nat.le_of_ble_eq_true rfl) (Nat.le_of_ble_eq_true rfl) dX12_secret_134
            ·
              refine lv_aload_n hx hb dX12_secret_53 rfl (lv_at hl 0 rfl) ?_
              refine gm_get (D := D) (ci := 12) (v := .ref h57) (C := RX12) (T := TX12) (N := 83) hx hb hg inlX12 hown hK.1 hP 0 rfl rfl 53 (by decide) tX12_53 (hg _ gw_207) rfl dX12_secret_54 ?_
              refine lv_iload_n hx hb dX12_secret_57 rfl (lv_at hl 1 rfl) ?_
              refine lv_iload_n hx hb dX12_secret_58 rfl (lv_at hl 3 rfl) ?_
              refine va_iast hx hb hK.1 hP hD hS 1 0 rfl rfl (by unfold vp_in; decide +kernel) dX12_secret_59 ?_
              clear hP hD hS H locs
              refine fun H locs (hP : va_P D vwCl [(h0, .inr (12, (.ref h4 :: .int wp22065 :: .int wp22066 :: .ref h7 :: .ref h8 :: .ref h9 :: .ref h10 :: .ref h11 :: .ref h12 :: .ref h13 :: .ref h14 :: .ref h15 :: .int wp22067 :: .ref h17 :: .int wp22068 :: .ref h19 :: .int wp22069 :: .ref h21 :: .ref h22 :: .ref h23 :: .ref h24 :: .ref h25 :: .ref h26 :: .ref h27 :: .ref h28 :: .ref h29 :: .ref h30 :: .ref h31 :: .int wp22070 :: .ref h33 :: .ref h34 :: .ref h35 :: .int wp22071 :: [.ref h37, .ref h38, .ref h39, .ref h40, .ref h41, .ref h42, .ref h43, .ref h44, .ref h45, .ref h46, .ref h47, .ref h48, .ref h49, .ref h50, .ref h51, .int wp22072, .int wp22073, .int wp22074, .int wp22075, .int wp22076, .ref h57, .ref h58, .int wp22077, .ref h60, .int 0, .ref h61, .int wp22078, .ref h63, .ref h64, .int wp22079, .ref h66, .ref h67, .int wp22080, .ref h69, .ref h70, .ref h71, .ref h72, .int wp22081, .int wp22082, .int wp22083, .int wp22084, .ref h77, .ref h78, .ref h79, .ref h80, .ref h81, .ref h82, .ref h83, .ref h84, .ref h85]))), (h57, .inl (y 0, 3, .inl (upd (fun _ => 0) ((2 : Int32).toNatClampNeg) 6))), (h58, .inl (y 0, 18, .inl wf22085))] H) (hD : va_D A [(h0, .inr (12, (.ref h4 :: .int wp22065 :: .int wp22066 :: .ref h7 :: .ref h8 :: .ref h9 :: .ref h10 :: .ref h11 :: .ref h12 :: .ref h13 :: .ref h14 :: .ref h15 :: .int wp22067 :: .ref h17 :: .int wp22068 :: .ref h19 :: .int wp22069 :: .ref h21 :: .ref h22 :: .ref h23 :: .ref h24 :: .ref h25 :: .ref h26 :: .ref h27 :: .ref h28 :: .ref h29 :: .ref h30 :: .ref h31 :: .int wp22070 :: .ref h33 :: .ref h34 :: .ref h35 :: .int wp22071 :: [.ref h37, .ref h38, .ref h39, .ref h40, .ref h41, .ref h42, .ref h43, .ref h44, .ref h45, .ref h46, .ref h47, .ref h48, .ref h49, .ref h50, .ref h51, .int wp22072, .int wp22073, .int wp22074, .int wp22075, .int wp22076, .ref h57, .ref h58, .int wp22077, .ref h60, .int 0, .ref h61, .int wp22078, .ref h63, .ref h64, .int wp22079, .ref h66, .ref h67, .int wp22080, .ref h69, .ref h70, .ref h71, .ref h72, .int wp22081, .int wp22082, .int wp22083, .int wp22084, .ref h77, .ref h78, .ref h79, .ref h80, .ref h81, .ref h82, .ref h83, .ref h84, .ref h85]))), (h57, .inl (y 0, 3, .inl (upd (fun _ => 0) ((2 : Int32).toNatClampNeg) 6))), (h58, .inl (y 0, 18, .inl wf22085))]) hS => ?_
              refine lv_iconst (v := 0) hx hb dX12_secret_60 (by decide) ?_
              refine lv_istore (lv' := [(4, .int 0), (0, .ref h0), (1, .int 2), (2, .int p2), (3, .int 6)]) hx hb dX12_secret_61 hl (by decide) rfl ?_
              clear hl
              clear ls
              intro ls hl
              refine lv_iload hx hb dX12_secret_63 (lv_at hl 0 rfl) ?_
              refine lv_iload_n hx hb dX12_secret_65 rfl (lv_at hl 4 rfl) ?_
              refine lv_icmp_ge (tgt := 94) hx hb dX12_secret_66 (by decide) (fun c9 => absurd c9 (by decide +kernel)) (fun _ => ?_)
              refine lv_aload_n hx hb dX12_secret_69 rfl (lv_at hl 1 rfl) ?_
              refine gm_get (D := D) (ci := 12) (v := .ref h58) (C := RX12) (T := TX12) (N := 83) hx hb hg inlX12 hown hK.1 hP 0 rfl rfl 54 (by decide) tX12_54 (hg _ gw_208) rfl dX12_secret_70 ?_
              refine lv_bipush (v := 6) hx hb dX12_secret_73 (by decide +kernel) ?_
              refine lv_iload_n hx hb dX12_secret_75 rfl (lv_at hl 2 rfl) ?_
              refine lv_imul hx hb dX12_secret_76 ?_
              refine g_fi (v := 12) (by decide +kernel) ?_
              refine lv_iload hx hb dX12_secret_77 (lv_at hl 0 rfl) ?_
              refine lv_iadd hx hb dX12_secret_79 ?_
              refine g_fi (v := 12) (by decide +kernel) ?_
              refine lv_iload_n hx hb dX12_secret_80 rfl (lv_at hl 3 rfl) ?_
              refine lv_iload_n hx hb dX12_secret_81 rfl (lv_at hl 4 rfl) ?_
              refine lv_iload hx hb dX12_secret_82 (lv_at hl 0 rfl) ?_
              refine g_ai (wr := [(h0, .inr (12, (.ref h4 :: .int wp22065 :: .int wp22066 :: .ref h7 :: .ref h8 :: .ref h9 :: .ref h10 :: .ref h11 :: .ref h12 :: .ref h13 :: .ref h14 :: .ref h15 :: .int wp22067 :: .ref h17 :: .int wp22068 :: .ref h19 :: .int wp22069 :: .ref h21 :: .ref h22 :: .ref h23 :: .ref h24 :: .ref h25 :: .ref h26 :: .ref h27 :: .ref h28 :: .ref h29 :: .ref h30 :: .ref h31 :: .int wp22070 :: .ref h33 :: .ref h34 :: .ref h35 :: .int wp22071 :: [.ref h37, .ref h38, .ref h39, .ref h40, .ref h41, .ref h42, .ref h43, .ref h44, .ref h45, .ref h46, .ref h47, .ref h48, .ref h49, .ref h50, .ref h51, .int wp22072, .int wp22073, .int wp22074, .int wp22075, .int wp22076, .ref h57, .ref h58, .int wp22077, .ref h60, .int 0, .ref h61, .int wp22078, .ref h63, .ref h64, .int wp22079, .ref h66, .ref h67, .int wp22080, .ref h69, .ref h70, .ref h71, .ref h72, .int wp22081, .int wp22082, .int wp22083, .int wp22084, .ref h77, .ref h78, .ref h79, .ref h80, .ref h81, .ref h82, .ref h83, .ref h84, .ref h85]))), (h57, .inl (y 0, 3, .inl (upd (fun _ => 0) ((2 : Int32).toNatClampNeg) 6))), (h58, .inl (y 0, 18, .inl wf22085))]) (va_runS (As := [.int p2, .int 6, .int 0]) (rest := [.int 12, .ref h58]) ⟨hx, hb, hml, hown, hg⟩ (k_X12_digitOf_14 l D y aS H.size p2) (va_cwS 3 hg ggS_RX12_484_X12_digitOf rfl rfl rfl (by decide +kernel) ⟨Nat.le_of_ble_eq_true rfl, Nat.le_of_ble_eq_true rfl⟩) (g_preS hK hP hD [] rfl (by decide)) rfl rfl hl.1 rfl (lv_room (Nat.le_of_ble_eq_true rfl)) dX12_secret_84 ⟨Nat.le_of_ble_eq_true rfl, Nat.le_of_ble_eq_true rfl⟩) hP hD hS hA [] [0, 1, 2] rfl rfl (by decide) (by decide) ?_
              clear hP hD hS H locs
              refine fun r22219 u H locs hq hP hD hS => ?_
              subst hq
              replace hP : va_P D vwCl [(h0, .inr (12, (.ref h4 :: .int wp22065 :: .int wp22066 :: .ref h7 :: .ref h8 :: .ref h9 :: .ref h10 :: .ref h11 :: .ref h12 :: .ref h13 :: .ref h14 :: .ref h15 :: .int wp22067 :: .ref h17 :: .int wp22068 :: .ref h19 :: .int wp22069 :: .ref h21 :: .ref h22 :: .ref h23 :: .ref h24 :: .ref h25 :: .ref h26 :: .ref h27 :: .ref h28 :: .ref h29 :: .ref h30 :: .ref h31 :: .int wp22070 :: .ref h33 :: .ref h34 :: .ref h35 :: .int wp22071 :: [.ref h37, .ref h38, .ref h39, .ref h40, .ref h41, .ref h42, .ref h43, .ref h44, .ref h45, .ref h46, .ref h47, .ref h48, .ref h49, .ref h50, .ref h51, .int wp22072, .int wp22073, .int wp22074, .int wp22075, .int wp22076, .ref h57, .ref h58, .int wp22077, .ref h60, .int 0, .ref h61, .int wp22078, .ref h63, .ref h64, .int wp22079, .ref h66, .ref h67, .int wp22080, .ref h69, .ref h70, .ref h71, .ref h72, .int wp22081, .int wp22082, .int wp22083, .int wp22084, .ref h77, .ref h78, .ref h79, .ref h80, .ref h81, .ref h82, .ref h83, .ref h84, .ref h85]))), (h57, .inl (y 0, 3, .inl (upd (fun _ => 0) ((2 : Int32).toNatClampNeg) 6))), (h58, .inl (y 0, 18, .inl wf22085))] H := hP
              replace hD : va_D A [(h0, .inr (12, (.ref h4 :: .int wp22065 :: .int wp22066 :: .ref h7 :: .ref h8 :: .ref h9 :: .ref h10 :: .ref h11 :: .ref h12 :: .ref h13 :: .ref h14 :: .ref h15 :: .int wp22067 :: .ref h17 :: .int wp22068 :: .ref h19 :: .int wp22069 :: .ref h21 :: .ref h22 :: .ref h23 :: .ref h24 :: .ref h25 :: .ref h26 :: .ref h27 :: .ref h28 :: .ref h29 :: .ref h30 :: .ref h31 :: .int wp22070 :: .ref h33 :: .ref h34 :: .ref h35 :: .int wp22071 :: [.ref h37, .ref h38, .ref h39, .ref h40, .ref h41, .ref h42, .ref h43, .ref h44, .ref h45, .ref h46, .ref h47, .ref h48, .ref h49, .ref h50, .ref h51, .int wp22072, .int wp22073, .int wp22074, .int wp22075, .int wp22076, .ref h57, .ref h58, .int wp22077, .ref h60, .int 0, .ref h61, .int wp22078, .ref h63, .ref h64, .int wp22079, .ref h66, .ref h67, .int wp22080, .ref h69, .ref h70, .ref h71, .ref h72, .int wp22081, .int wp22082, .int wp22083, .int wp22084, .ref h77, .ref h78, .ref h79, .ref h80, .ref h81, .ref h82, .ref h83, .ref h84, .ref h85]))), (h57, .inl (y 0, 3, .inl (upd (fun _ => 0) ((2 : Int32).toNatClampNeg) 6))), (h58, .inl (y 0, 18, .inl wf22085))] := hD
              refine va_iast hx hb hK.1 hP hD hS 2 0 rfl rfl (by unfold vp_in; decide +kernel) dX12_secret_87 ?_
              clear hP hD hS H locs
              refine fun H locs (hP : va_P D vwCl [(h0, .inr (12, (.ref h4 :: .int wp22065 :: .int wp22066 :: .ref h7 :: .ref h8 :: .ref h9 :: .ref h10 :: .ref h11 :: .ref h12 :: .ref h13 :: .ref h14 :: .ref h15 :: .int wp22067 :: .ref h17 :: .int wp22068 :: .ref h19 :: .int wp22069 :: .ref h21 :: .ref h22 :: .ref h23 :: .ref h24 :: .ref h25 :: .ref h26 :: .ref h27 :: .ref h28 :: .ref h29 :: .ref h30 :: .ref h31 :: .int wp22070 :: .ref h33 :: .ref h34 :: .ref h35 :: .int wp22071 :: [.ref h37, .ref h38, .ref h39, .ref h40, .ref h41, .ref h42, .ref h43, .ref h44, .ref h45, .ref h46, .ref h47, .ref h48, .ref h49, .ref h50, .ref h51, .int wp22072, .int wp22073, .int wp22074, .int wp22075, .int wp22076, .ref h57, .ref h58, .int wp22077, .ref h60, .int 0, .ref h61, .int wp22078, .ref h63, .ref h64, .int wp22079, .ref h66, .ref h67, .int wp22080, .ref h69, .ref h70, .ref h71, .ref h72, .int wp22081, .int wp22082, .int wp22083, .int wp22084, .ref h77, .ref h78, .ref h79, .ref h80, .ref h81, .ref h82, .ref h83, .ref h84, .ref h85]))), (h57, .inl (y 0, 3, .inl (upd (fun _ => 0) ((2 : Int32).toNatClampNeg) 6))), (h58, .inl (y 0, 18, .inl (upd wf22085 ((12 : Int32).toNatClampNeg) ((p2 / 100000) - (p2 / 100000) / 10 * 10))))] H) (hD : va_D A [(h0, .inr (12, (.ref h4 :: .int wp22065 :: .int wp22066 :: .ref h7 :: .ref h8 :: .ref h9 :: .ref h10 :: .ref h11 :: .ref h12 :: .ref h13 :: .ref h14 :: .ref h15 :: .int wp22067 :: .ref h17 :: .int wp22068 :: .ref h19 :: .int wp22069 :: .ref h21 :: .ref h22 :: .ref h23 :: .ref h24 :: .ref h25 :: .ref h26 :: .ref h27 :: .ref h28 :: .ref h29 :: .ref h30 :: .ref h31 :: .int wp22070 :: .ref h33 :: .ref h34 :: .ref h35 :: .int wp22071 :: [.ref h37, .ref h38, .ref h39, .ref h40, .ref h41, .ref h42, .ref h43, .ref h44, .ref h45, .ref h46, .ref h47, .ref h48, .ref h49, .ref h50, .ref h51, .int wp22072, .int wp22073, .int wp22074, .int wp22075, .int wp22076, .ref h57, .ref h58, .int wp22077, .ref h60, .int 0, .ref h61, .int wp22078, .ref h63, .ref h64, .int wp22079, .ref h66, .ref h67, .int wp22080, .ref h69, .ref h70, .ref h71, .ref h72, .int wp22081, .int wp22082, .int wp22083, .int wp22084, .ref h77, .ref h78, .ref h79, .ref h80, .ref h81, .ref h82, .ref h83, .ref h84, .ref h85]))), (h57, .inl (y 0, 3, .inl (upd (fun _ => 0) ((2 : Int32).toNatClampNeg) 6))), (h58, .inl (y 0, 18, .inl (upd wf22085 ((12 : Int32).toNatClampNeg) ((p2 / 100000) - (p2 / 100000) / 10 * 10))))]) hS => ?_
              obtain ⟨fn22220, hfn22220⟩ : ∃ f9 : Nat → Int32, f9 = (upd wf22085 ((12 : Int32).toNatClampNeg) ((p2 / 100000) - (p2 / 100000) / 10 * 10)) := ⟨_, rfl⟩
              rw [← hfn22220] at hP hD
              clear hfn22220
              refine lv_iinc (v := 1) (lv' := [(4, .int 1), (0, .ref h0), (1, .int 2), (2, .int p2), (3, .int 6)]) hx hb dX12_secret_88 hl (k := 0) rfl (by decide +kernel) (by decide) rfl ?_
              clear hl
              clear ls
              intro ls hl
              refine lv_goto (tgt := 63) hx hb dX12_secret_91 (by decide) ?_
              refine lv_iload hx hb dX12_secret_63 (lv_at hl 0 rfl) ?_
              refine lv_iload_n hx hb dX12_secret_65 rfl (lv_at hl 4 rfl) ?_
              refine lv_icmp_ge (tgt := 94) hx hb dX12_secret_66 (by decide) (fun c9 => absurd c9 (by decide +kernel)) (fun _ => ?_)
              refine lv_aload_n hx hb dX12_secret_69 rfl (lv_at hl 1 rfl) ?_
              refine gm_get (D := D) (ci := 12) (v := .ref h58) (C := RX12) (T := TX12) (N := 83) hx hb hg inlX12 hown hK.1 hP 0 rfl rfl 54 (by decide) tX12_54 (hg _ gw_208) rfl dX12_secret_70 ?_
              refine lv_bipush (v := 6) hx hb dX12_secret_73 (by decide +kernel) ?_
              refine lv_iload_n hx hb dX12_secret_75 rfl (lv_at hl 2 rfl) ?_
              refine lv_imul hx hb dX12_secret_76 ?_
              refine g_fi (v := 12) (by decide +kernel) ?_
              refine lv_iload hx hb dX12_secret_77 (lv_at hl 0 rfl) ?_
              refine lv_iadd hx hb dX12_secret_79 ?_
              refine g_fi (v := 13) (by decide +kernel) ?_
              refine lv_iload_n hx hb dX12_secret_80 rfl (lv_at hl 3 rfl) ?_
              refine lv_iload_n hx hb dX12_secret_81 rfl (lv_at hl 4 rfl) ?_
              refine lv_iload hx hb dX12_secret_82 (lv_at hl 0 rfl) ?_
              refine g_ai (wr := [(h0, .inr (12, (.ref h4 :: .int wp22065 :: .int wp22066 :: .ref h7 :: .ref h8 :: .ref h9 :: .ref h10 :: .ref h11 :: .ref h12 :: .ref h13 :: .ref h14 :: .ref h15 :: .int wp22067 :: .ref h17 :: .int wp22068 :: .ref h19 :: .int wp22069 :: .ref h21 :: .ref h22 :: .ref h23 :: .ref h24 :: .ref h25 :: .ref h26 :: .ref h27 :: .ref h28 :: .ref h29 :: .ref h30 :: .ref h31 :: .int wp22070 :: .ref h33 :: .ref h34 :: .ref h35 :: .int wp22071 :: [.ref h37, .ref h38, .ref h39, .ref h40, .ref h41, .ref h42, .ref h43, .ref h44, .ref h45, .ref h46, .ref h47, .ref h48, .ref h49, .ref h50, .ref h51, .int wp22072, .int wp22073, .int wp22074, .int wp22075, .int wp22076, .ref h57, .ref h58, .int wp22077, .ref h60, .int 0, .ref h61, .int wp22078, .ref h63, .ref h64, .int wp22079, .ref h66, .ref h67, .int wp22080, .ref h69, .ref h70, .ref h71, .ref h72, .int wp22081, .int wp22082, .int wp22083, .int wp22084, .ref h77, .ref h78, .ref h79, .ref h80, .ref h81, .ref h82, .ref h83, .ref h84, .ref h85]))), (h57, .inl (y 0, 3, .inl (upd (fun _ => 0) ((2 : Int32).toNatClampNeg) 6))), (h58, .inl (y 0, 18, .inl fn22220))]) (va_runS (As := [.int p2, .int 6, .int 1]) (rest := [.int 13, .ref h58]) ⟨hx, hb, hml, hown, hg⟩ (k_X12_digitOf_15 l D y aS H.size p2) (va_cwS 3 hg ggS_RX12_484_X12_digitOf rfl rfl rfl (by decide +kernel) ⟨Nat.le_of_ble_eq_true rfl, Nat.le_of_ble_eq_true rfl⟩) (g_preS hK hP hD [] rfl (by decide)) rfl rfl hl.1 rfl (lv_room (Nat.le_of_ble_eq_true rfl)) dX12_secret_84 ⟨Nat.le_of_ble_eq_true rfl, Nat.le_of_ble_eq_true rfl⟩) hP hD hS hA [] [0, 1, 2] rfl rfl (by decide) (by decide) ?_
              clear hP hD hS H locs
              refine fun r22221 u H locs hq hP hD hS => ?_
              subst hq
              replace hP : va_P D vwCl [(h0, .inr (12, (.ref h4 :: .int wp22065 :: .int wp22066 :: .ref h7 :: .ref h8 :: .ref h9 :: .ref h10 :: .ref h11 :: .ref h12 :: .ref h13 :: .ref h14 :: .ref h15 :: .int wp22067 :: .ref h17 :: .int wp22068 :: .ref h19 :: .int wp22069 :: .ref h21 :: .ref h22 :: .ref h23 :: .ref h24 :: .ref h25 :: .ref h26 :: .ref h27 :: .ref h28 :: .ref h29 :: .ref h30 :: .ref h31 :: .int wp22070 :: .ref h33 :: .ref h34 :: .ref h35 :: .int wp22071 :: [.ref h37, .ref h38, .ref h39, .ref h40, .ref h41, .ref h42, .ref h43, .ref h44, .ref h45, .ref h46, .ref h47, .ref h48, .ref h49, .ref h50, .ref h51, .int wp22072, .int wp22073, .int wp22074, .int wp22075, .int wp22076, .ref h57, .ref h58, .int wp22077, .ref h60, .int 0, .ref h61, .int wp22078, .ref h63, .ref h64, .int wp22079, .ref h66, .ref h67, .int wp22080, .ref h69, .ref h70, .ref h71, .ref h72, .int wp22081, .int wp22082, .int wp22083, .int wp22084, .ref h77, .ref h78, .ref h79, .ref h80, .ref h81, .ref h82, .ref h83, .ref h84, .ref h85]))), (h57, .inl (y 0, 3, .inl (upd (fun _ => 0) ((2 : Int32).toNatClampNeg) 6))), (h58, .inl (y 0, 18, .inl fn22220))] H := hP
              replace hD : va_D A [(h0, .inr (12, (.ref h4 :: .int wp22065 :: .int wp22066 :: .ref h7 :: .ref h8 :: .ref h9 :: .ref h10 :: .ref h11 :: .ref h12 :: .ref h13 :: .ref h14 :: .ref h15 :: .int wp22067 :: .ref h17 :: .int wp22068 :: .ref h19 :: .int wp22069 :: .ref h21 :: .ref h22 :: .ref h23 :: .ref h24 :: .ref h25 :: .ref h26 :: .ref h27 :: .ref h28 :: .ref h29 :: .ref h30 :: .ref h31 :: .int wp22070 :: .ref h33 :: .ref h34 :: .ref h35 :: .int wp22071 :: [.ref h37, .ref h38, .ref h39, .ref h40, .ref h41, .ref h42, .ref h43, .ref h44, .ref h45, .ref h46, .ref h47, .ref h48, .ref h49, .ref h50, .ref h51, .int wp22072, .int wp22073, .int wp22074, .int wp22075, .int wp22076, .ref h57, .ref h58, .int wp22077, .ref h60, .int 0, .ref h61, .int wp22078, .ref h63, .ref h64, .int wp22079, .ref h66, .ref h67, .int wp22080, .ref h69, .ref h70, .ref h71, .ref h72, .int wp22081, .int wp22082, .int wp22083, .int wp22084, .ref h77, .ref h78, .ref h79, .ref h80, .ref h81, .ref h82, .ref h83, .ref h84, .ref h85]))), (h57, .inl (y 0, 3, .inl (upd (fun _ => 0) ((2 : Int32).toNatClampNeg) 6))), (h58, .inl (y 0, 18, .inl fn22220))] := hD
              refine va_iast hx hb hK.1 hP hD hS 2 0 rfl rfl (by unfold vp_in; decide +kernel) dX12_secret_87 ?_
              clear hP hD hS H locs
              refine fun H locs (hP : va_P D vwCl [(h0, .inr (12, (.ref h4 :: .int wp22065 :: .int wp22066 :: .ref h7 :: .ref h8 :: .ref h9 :: .ref h10 :: .ref h11 :: .ref h12 :: .ref h13 :: .ref h14 :: .ref h15 :: .int wp22067 :: .ref h17 :: .int wp22068 :: .ref h19 :: .int wp22069 :: .ref h21 :: .ref h22 :: .ref h23 :: .ref h24 :: .ref h25 :: .ref h26 :: .ref h27 :: .ref h28 :: .ref h29 :: .ref h30 :: .ref h31 :: .int wp22070 :: .ref h33 :: .ref h34 :: .ref h35 :: .int wp22071 :: [.ref h37, .ref h38, .ref h39, .ref h40, .ref h41, .ref h42, .ref h43, .ref h44, .ref h45, .ref h46, .ref h47, .ref h48, .ref h49, .ref h50, .ref h51, .int wp22072, .int wp22073, .int wp22074, .int wp22075, .int wp22076, .ref h57, .ref h58, .int wp22077, .ref h60, .int 0, .ref h61, .int wp22078, .ref h63, .ref h64, .int wp22079, .ref h66, .ref h67, .int wp22080, .ref h69, .ref h70, .ref h71, .ref h72, .int wp22081, .int wp22082, .int wp22083, .int wp22084, .ref h77, .ref h78, .ref h79, .ref h80, .ref h81, .ref h82, .ref h83, .ref h84, .ref h85]))), (h57, .inl (y 0, 3, .inl (upd (fun _ => 0) ((2 : Int32).toNatClampNeg) 6))), (h58, .inl (y 0, 18, .inl (upd fn22220 ((13 : Int32).toNatClampNeg) ((p2 / 10000) - (p2 / 10000) / 10 * 10))))] H) (hD : va_D A [(h0, .inr (12, (.ref h4 :: .int wp22065 :: .int wp22066 :: .ref h7 :: .ref h8 :: .ref h9 :: .ref h10 :: .ref h11 :: .ref h12 :: .ref h13 :: .ref h14 :: .ref h15 :: .int wp22067 :: .ref h17 :: .int wp22068 :: .ref h19 :: .int wp22069 :: .ref h21 :: .ref h22 :: .ref h23 :: .ref h24 :: .ref h25 :: .ref h26 :: .ref h27 :: .ref h28 :: .ref h29 :: .ref h30 :: .ref h31 :: .int wp22070 :: .ref h33 :: .ref h34 :: .ref h35 :: .int wp22071 :: [.ref h37, .ref h38, .ref h39, .ref h40, .ref h41, .ref h42, .ref h43, .ref h44, .ref h45, .ref h46, .ref h47, .ref h48, .ref h49, .ref h50, .ref h51, .int wp22072, .int wp22073, .int wp22074, .int wp22075, .int wp22076, .ref h57, .ref h58, .int wp22077, .ref h60, .int 0, .ref h61, .int wp22078, .ref h63, .ref h64, .int wp22079, .ref h66, .ref h67, .int wp22080, .ref h69, .ref h70, .ref h71, .ref h72, .int wp22081, .int wp22082, .int wp22083, .int wp22084, .ref h77, .ref h78, .ref h79, .ref h80, .ref h81, .ref h82, .ref h83, .ref h84, .ref h85]))), (h57, .inl (y 0, 3, .inl (upd (fun _ => 0) ((2 : Int32).toNatClampNeg) 6))), (h58, .inl (y 0, 18, .inl (upd fn22220 ((13 : Int32).toNatClampNeg) ((p2 / 10000) - (p2 / 10000) / 10 * 10))))]) hS => ?_
              obtain ⟨fn22222, hfn22222⟩ : ∃ f9 : Nat → Int32, f9 = (upd fn22220 ((13 : Int32).toNatClampNeg) ((p2 / 10000) - (p2 / 10000) / 10 * 10)) := ⟨_, rfl⟩
              rw [← hfn22222] at hP hD
              clear hfn22222
              refine lv_iinc (v := 2) (lv' := [(4, .int 2), (0, .ref h0), (1, .int 2), (2, .int p2), (3, .int 6)]) hx hb dX12_secret_88 hl (k := 0) rfl (by decide +kernel) (by decide) rfl ?_
              clear hl
              clear ls
              intro ls hl
              refine lv_goto (tgt := 63) hx hb dX12_secret_91 (by decide) ?_
              refine lv_iload hx hb dX12_secret_63 (lv_at hl 0 rfl) ?_
              refine lv_iload_n hx hb dX12_secret_65 rfl (lv_at hl 4 rfl) ?_
              refine lv_icmp_ge (tgt := 94) hx hb dX12_secret_66 (by decide) (fun c9 => absurd c9 (by decide +kernel)) (fun _ => ?_)
              refine lv_aload_n hx hb dX12_secret_69 rfl (lv_at hl 1 rfl) ?_
              refine gm_get (D := D) (ci := 12) (v := .ref h58) (C := RX12) (T := TX12) (N := 83) hx hb hg inlX12 hown hK.1 hP 0 rfl rfl 54 (by decide) tX12_54 (hg _ gw_208) rfl dX12_secret_70 ?_
              refine lv_bipush (v := 6) hx hb dX12_secret_73 (by decide +kernel) ?_
              refine lv_iload_n hx hb dX12_secret_75 rfl (lv_at hl 2 rfl) ?_
              refine lv_imul hx hb dX12_secret_76 ?_
              refine g_fi (v := 12) (by decide +kernel) ?_
              refine lv_iload hx hb dX12_secret_77 (lv_at hl 0 rfl) ?_
              refine lv_iadd hx hb dX12_secret_79 ?_
              refine g_fi (v := 14) (by decide +kernel) ?_
              refine lv_iload_n hx hb dX12_secret_80 rfl (lv_at hl 3 rfl) ?_
              refine lv_iload_n hx hb dX12_secret_81 rfl (lv_at hl 4 rfl) ?_
              refine lv_iload hx hb dX12_secret_82 (lv_at hl 0 rfl) ?_
              refine g_ai (wr := [(h0, .inr (12, (.ref h4 :: .int wp22065 :: .int wp22066 :: .ref h7 :: .ref h8 :: .ref h9 :: .ref h10 :: .ref h11 :: .ref h12 :: .ref h13 :: .ref h14 :: .ref h15 :: .int wp22067 :: .ref h17 :: .int wp22068 :: .ref h19 :: .int wp22069 :: .ref h21 :: .ref h22 :: .ref h23 :: .ref h24 :: .ref h25 :: .ref h26 :: .ref h27 :: .ref h28 :: .ref h29 :: .ref h30 :: .ref h31 :: .int wp22070 :: .ref h33 :: .ref h34 :: .ref h35 :: .int wp22071 :: [.ref h37, .ref h38, .ref h39, .ref h40, .ref h41, .ref h42, .ref h43, .ref h44, .ref h45, .ref h46, .ref h47, .ref h48, .ref h49, .ref h50, .ref h51, .int wp22072, .int wp22073, .int wp22074, .int wp22075, .int wp22076, .ref h57, .ref h58, .int wp22077, .ref h60, .int 0, .ref h61, .int wp22078, .ref h63, .ref h64, .int wp22079, .ref h66, .ref h67, .int wp22080, .ref h69, .ref h70, .ref h71, .ref h72, .int wp22081, .int wp22082, .int wp22083, .int wp22084, .ref h77, .ref h78, .ref h79, .ref h80, .ref h81, .ref h82, .ref h83, .ref h84, .ref h85]))), (h57, .inl (y 0, 3, .inl (upd (fun _ => 0) ((2 : Int32).toNatClampNeg) 6))), (h58, .inl (y 0, 18, .inl fn22222))]) (va_runS (As := [.int p2, .int 6, .int 2]) (rest := [.int 14, .ref h58]) ⟨hx, hb, hml, hown, hg⟩ (k_X12_digitOf_16 l D y aS H.size p2) (va_cwS 3 hg ggS_RX12_484_X12_digitOf rfl rfl rfl (by decide +kernel) ⟨Nat.le_of_ble_eq_true rfl, Nat.le_of_ble_eq_true rfl⟩) (g_preS hK hP hD [] rfl (by decide)) rfl rfl hl.1 rfl (lv_room (Nat.le_of_ble_eq_true rfl)) dX12_secret_84 ⟨Nat.le_of_ble_eq_true rfl, Nat.le_of_ble_eq_true rfl⟩) hP hD hS hA [] [0, 1, 2] rfl rfl (by decide) (by decide) ?_
              clear hP hD hS H locs
              refine fun r22223 u H locs hq hP hD hS => ?_
              subst hq
              replace hP : va_P D vwCl [(h0, .inr (12, (.ref h4 :: .int wp22065 :: .int wp22066 :: .ref h7 :: .ref h8 :: .ref h9 :: .ref h10 :: .ref h11 :: .ref h12 :: .ref h13 :: .ref h14 :: .ref h15 :: .int wp22067 :: .ref h17 :: .int wp22068 :: .ref h19 :: .int wp22069 :: .ref h21 :: .ref h22 :: .ref h23 :: .ref h24 :: .ref h25 :: .ref h26 :: .ref h27 :: .ref h28 :: .ref h29 :: .ref h30 :: .ref h31 :: .int wp22070 :: .ref h33 :: .ref h34 :: .ref h35 :: .int wp22071 :: [.ref h37, .ref h38, .ref h39, .ref h40, .ref h41, .ref h42, .ref h43, .ref h44, .ref h45, .ref h46, .ref h47, .ref h48, .ref h49, .ref h50, .ref h51, .int wp22072, .int wp22073, .int wp22074, .int wp22075, .int wp22076, .ref h57, .ref h58, .int wp22077, .ref h60, .int 0, .ref h61, .int wp22078, .ref h63, .ref h64, .int wp22079, .ref h66, .ref h67, .int wp22080, .ref h69, .ref h70, .ref h71, .ref h72, .int wp22081, .int wp22082, .int wp22083, .int wp22084, .ref h77, .ref h78, .ref h79, .ref h80, .ref h81, .ref h82, .ref h83, .ref h84, .ref h85]))), (h57, .inl (y 0, 3, .inl (upd (fun _ => 0) ((2 : Int32).toNatClampNeg) 6))), (h58, .inl (y 0, 18, .inl fn22222))] H := hP
              replace hD : va_D A [(h0, .inr (12, (.ref h4 :: .int wp22065 :: .int wp22066 :: .ref h7 :: .ref h8 :: .ref h9 :: .ref h10 :: .ref h11 :: .ref h12 :: .ref h13 :: .ref h14 :: .ref h15 :: .int wp22067 :: .ref h17 :: .int wp22068 :: .ref h19 :: .int wp22069 :: .ref h21 :: .ref h22 :: .ref h23 :: .ref h24 :: .ref h25 :: .ref h26 :: .ref h27 :: .ref h28 :: .ref h29 :: .ref h30 :: .ref h31 :: .int wp22070 :: .ref h33 :: .ref h34 :: .ref h35 :: .int wp22071 :: [.ref h37, .ref h38, .ref h39, .ref h40, .ref h41, .ref h42, .ref h43, .ref h44, .ref h45, .ref h46, .ref h47, .ref h48, .ref h49, .ref h50, .ref h51, .int wp22072, .int wp22073, .int wp22074, .int wp22075, .int wp22076, .ref h57, .ref h58, .int wp22077, .ref h60, .int 0, .ref h61, .int wp22078, .ref h63, .ref h64, .int wp22079, .ref h66, .ref h67, .int wp22080, .ref h69, .ref h70, .ref h71, .ref h72, .int wp22081, .int wp22082, .int wp22083, .int wp22084, .ref h77, .ref h78, .ref h79, .ref h80, .ref h81, .ref h82, .ref h83, .ref h84, .ref h85]))), (h57, .inl (y 0, 3, .inl (upd (fun _ => 0) ((2 : Int32).toNatClampNeg) 6))), (h58, .inl (y 0, 18, .inl fn22222))] := hD
              refine va_iast hx hb hK.1 hP hD hS 2 0 rfl rfl (by unfold vp_in; decide +kernel) dX12_secret_87 ?_
              clear hP hD hS H locs
              refine fun H locs (hP : va_P D vwCl [(h0, .inr (12, (.ref h4 :: .int wp22065 :: .int wp22066 :: .ref h7 :: .ref h8 :: .ref h9 :: .ref h10 :: .ref h11 :: .ref h12 :: .ref h13 :: .ref h14 :: .ref h15 :: .int wp22067 :: .ref h17 :: .int wp22068 :: .ref h19 :: .int wp22069 :: .ref h21 :: .ref h22 :: .ref h23 :: .ref h24 :: .ref h25 :: .ref h26 :: .ref h27 :: .ref h28 :: .ref h29 :: .ref h30 :: .ref h31 :: .int wp22070 :: .ref h33 :: .ref h34 :: .ref h35 :: .int wp22071 :: [.ref h37, .ref h38, .ref h39, .ref h40, .ref h41, .ref h42, .ref h43, .ref h44, .ref h45, .ref h46, .ref h47, .ref h48, .ref h49, .ref h50, .ref h51, .int wp22072, .int wp22073, .int wp22074, .int wp22075, .int wp22076, .ref h57, .ref h58, .int wp22077, .ref h60, .int 0, .ref h61, .int wp22078, .ref h63, .ref h64, .int wp22079, .ref h66, .ref h67, .int wp22080, .ref h69, .ref h70, .ref h71, .ref h72, .int wp22081, .int wp22082, .int wp22083, .int wp22084, .ref h77, .ref h78, .ref h79, .ref h80, .ref h81, .ref h82, .ref h83, .ref h84, .ref h85]))), (h57, .inl (y 0, 3, .inl (upd (fun _ => 0) ((2 : Int32).toNatClampNeg) 6))), (h58, .inl (y 0, 18, .inl (upd fn22222 ((14 : Int32).toNatClampNeg) ((p2 / 1000) - (p2 / 1000) / 10 * 10))))] H) (hD : va_D A [(h0, .inr (12, (.ref h4 :: .int wp22065 :: .int wp22066 :: .ref h7 :: .ref h8 :: .ref h9 :: .ref h10 :: .ref h11 :: .ref h12 :: .ref h13 :: .ref h14 :: .ref h15 :: .int wp22067 :: .ref h17 :: .int wp22068 :: .ref h19 :: .int wp22069 :: .ref h21 :: .ref h22 :: .ref h23 :: .ref h24 :: .ref h25 :: .ref h26 :: .ref h27 :: .ref h28 :: .ref h29 :: .ref h30 :: .ref h31 :: .int wp22070 :: .ref h33 :: .ref h34 :: .ref h35 :: .int wp22071 :: [.ref h37, .ref h38, .ref h39, .ref h40, .ref h41, .ref h42, .ref h43, .ref h44, .ref h45, .ref h46, .ref h47, .ref h48, .ref h49, .ref h50, .ref h51, .int wp22072, .int wp22073, .int wp22074, .int wp22075, .int wp22076, .ref h57, .ref h58, .int wp22077, .ref h60, .int 0, .ref h61, .int wp22078, .ref h63, .ref h64, .int wp22079, .ref h66, .ref h67, .int wp22080, .ref h69, .ref h70, .ref h71, .ref h72, .int wp22081, .int wp22082, .int wp22083, .int wp22084, .ref h77, .ref h78, .ref h79, .ref h80, .ref h81, .ref h82, .ref h83, .ref h84, .ref h85]))), (h57, .inl (y 0, 3, .inl (upd (fun _ => 0) ((2 : Int32).toNatClampNeg) 6))), (h58, .inl (y 0, 18, .inl (upd fn22222 ((14 : Int32).toNatClampNeg) ((p2 / 1000) - (p2 / 1000) / 10 * 10))))]) hS => ?_
              obtain ⟨fn22224, hfn22224⟩ : ∃ f9 : Nat → Int32, f9 = (upd fn22222 ((14 : Int32).toNatClampNeg) ((p2 / 1000) - (p2 / 1000) / 10 * 10)) := ⟨_, rfl⟩
              rw [← hfn22224] at hP hD
              clear hfn22224
              refine lv_iinc (v := 3) (lv' := [(4, .int 3), (0, .ref h0), (1, .int 2), (2, .int p2), (3, .int 6)]) hx hb dX12_secret_88 hl (k := 0) rfl (by decide +kernel) (by decide) rfl ?_
              clear hl
              clear ls
              intro ls hl
              refine lv_goto (tgt := 63) hx hb dX12_secret_91 (by decide) ?_
              refine lv_iload hx hb dX12_secret_63 (lv_at hl 0 rfl) ?_
              refine lv_iload_n hx hb dX12_secret_65 rfl (lv_at hl 4 rfl) ?_
              refine lv_icmp_ge (tgt := 94) hx hb dX12_secret_66 (by decide) (fun c9 => absurd c9 (by decide +kernel)) (fun _ => ?_)
              refine lv_aload_n hx hb dX12_secret_69 rfl (lv_at hl 1 rfl) ?_
              refine gm_get (D := D) (ci := 12) (v := .ref h58) (C := RX12) (T := TX12) (N := 83) hx hb hg inlX12 hown hK.1 hP 0 rfl rfl 54 (by decide) tX12_54 (hg _ gw_208) rfl dX12_secret_70 ?_
              refine lv_bipush (v := 6) hx hb dX12_secret_73 (by decide +kernel) ?_
              refine lv_iload_n hx hb dX12_secret_75 rfl (lv_at hl 2 rfl) ?_
              refine lv_imul hx hb dX12_secret_76 ?_
              refine g_fi (v := 12) (by decide +kernel) ?_
              refine lv_iload hx hb dX12_secret_77 (lv_at hl 0 rfl) ?_
              refine lv_iadd hx hb dX12_secret_79 ?_
              refine g_fi (v := 15) (by decide +kernel) ?_
              refine lv_iload_n hx hb dX12_secret_80 rfl (lv_at hl 3 rfl) ?_
              refine lv_iload_n hx hb dX12_secret_81 rfl (lv_at hl 4 rfl) ?_
              refine lv_iload hx hb dX12_secret_82 (lv_at hl 0 rfl) ?_
              refine g_ai (wr := [(h0, .inr (12, (.ref h4 :: .int wp22065 :: .int wp22066 :: .ref h7 :: .ref h8 :: .ref h9 :: .ref h10 :: .ref h11 :: .ref h12 :: .ref h13 :: .ref h14 :: .ref h15 :: .int wp22067 :: .ref h17 :: .int wp22068 :: .ref h19 :: .int wp22069 :: .ref h21 :: .ref h22 :: .ref h23 :: .ref h24 :: .ref h25 :: .ref h26 :: .ref h27 :: .ref h28 :: .ref h29 :: .ref h30 :: .ref h31 :: .int wp22070 :: .ref h33 :: .ref h34 :: .ref h35 :: .int wp22071 :: [.ref h37, .ref h38, .ref h39, .ref h40, .ref h41, .ref h42, .ref h43, .ref h44, .ref h45, .ref h46, .ref h47, .ref h48, .ref h49, .ref h50, .ref h51, .int wp22072, .int wp22073, .int wp22074, .int wp22075, .int wp22076, .ref h57, .ref h58, .int wp22077, .ref h60, .int 0, .ref h61, .int wp22078, .ref h63, .ref h64, .int wp22079, .ref h66, .ref h67, .int wp22080, .ref h69, .ref h70, .ref h71, .ref h72, .int wp22081, .int wp22082, .int wp22083, .int wp22084, .ref h77, .ref h78, .ref h79, .ref h80, .ref h81, .ref h82, .ref h83, .ref h84, .ref h85]))), (h57, .inl (y 0, 3, .inl (upd (fun _ => 0) ((2 : Int32).toNatClampNeg) 6))), (h58, .inl (y 0, 18, .inl fn22224))]) (va_runS (As := [.int p2, .int 6, .int 3]) (rest := [.int 15, .ref h58]) ⟨hx, hb, hml, hown, hg⟩ (k_X12_digitOf_17 l D y aS H.size p2) (va_cwS 3 hg ggS_RX12_484_X12_digitOf rfl rfl rfl (by decide +kernel) ⟨Nat.le_of_ble_eq_true rfl, Nat.le_of_ble_eq_true rfl⟩) (g_preS hK hP hD [] rfl (by decide)) rfl rfl hl.1 rfl (lv_room (Nat.le_of_ble_eq_true rfl)) dX12_secret_84 ⟨Nat.le_of_ble_eq_true rfl, Nat.le_of_ble_eq_true rfl⟩) hP hD hS hA [] [0, 1, 2] rfl rfl (by decide) (by decide) ?_
              clear hP hD hS H locs
              refine fun r22225 u H locs hq hP hD hS => ?_
              subst hq
              replace hP : va_P D vwCl [(h0, .inr (12, (.ref h4 :: .int wp22065 :: .int wp22066 :: .ref h7 :: .ref h8 :: .ref h9 :: .ref h10 :: .ref h11 :: .ref h12 :: .ref h13 :: .ref h14 :: .ref h15 :: .int wp22067 :: .ref h17 :: .int wp22068 :: .ref h19 :: .int wp22069 :: .ref h21 :: .ref h22 :: .ref h23 :: .ref h24 :: .ref h25 :: .ref h26 :: .ref h27 :: .ref h28 :: .ref h29 :: .ref h30 :: .ref h31 :: .int wp22070 :: .ref h33 :: .ref h34 :: .ref h35 :: .int wp22071 :: [.ref h37, .ref h38, .ref h39, .ref h40, .ref h41, .ref h42, .ref h43, .ref h44, .ref h45, .ref h46, .ref h47, .ref h48, .ref h49, .ref h50, .ref h51, .int wp22072, .int wp22073, .int wp22074, .int wp22075, .int wp22076, .ref h57, .ref h58, .int wp22077, .ref h60, .int 0, .ref h61, .int wp22078, .ref h63, .ref h64, .int wp22079, .ref h66, .ref h67, .int wp22080, .ref h69, .ref h70, .ref h71, .ref h72, .int wp22081, .int wp22082, .int wp22083, .int wp22084, .ref h77, .ref h78, .ref h79, .ref h80, .ref h81, .ref h82, .ref h83, .ref h84, .ref h85]))), (h57, .inl (y 0, 3, .inl (upd (fun _ => 0) ((2 : Int32).toNatClampNeg) 6))), (h58, .inl (y 0, 18, .inl fn22224))] H := hP
              replace hD : va_D A [(h0, .inr (12, (.ref h4 :: .int wp22065 :: .int wp22066 :: .ref h7 :: .ref h8 :: .ref h9 :: .ref h10 :: .ref h11 :: .ref h12 :: .ref h13 :: .ref h14 :: .ref h15 :: .int wp22067 :: .ref h17 :: .int wp22068 :: .ref h19 :: .int wp22069 :: .ref h21 :: .ref h22 :: .ref h23 :: .ref h24 :: .ref h25 :: .ref h26 :: .ref h27 :: .ref h28 :: .ref h29 :: .ref h30 :: .ref h31 :: .int wp22070 :: .ref h33 :: .ref h34 :: .ref h35 :: .int wp22071 :: [.ref h37, .ref h38, .ref h39, .ref h40, .ref h41, .ref h42, .ref h43, .ref h44, .ref h45, .ref h46, .ref h47, .ref h48, .ref h49, .ref h50, .ref h51, .int wp22072, .int wp22073, .int wp22074, .int wp22075, .int wp22076, .ref h57, .ref h58, .int wp22077, .ref h60, .int 0, .ref h61, .int wp22078, .ref h63, .ref h64, .int wp22079, .ref h66, .ref h67, .int wp22080, .ref h69, .ref h70, .ref h71, .ref h72, .int wp22081, .int wp22082, .int wp22083, .int wp22084, .ref h77, .ref h78, .ref h79, .ref h80, .ref h81, .ref h82, .ref h83, .ref h84, .ref h85]))), (h57, .inl (y 0, 3, .inl (upd (fun _ => 0) ((2 : Int32).toNatClampNeg) 6))), (h58, .inl (y 0, 18, .inl fn22224))] := hD
              refine va_iast hx hb hK.1 hP hD hS 2 0 rfl rfl (by unfold vp_in; decide +kernel) dX12_secret_87 ?_
              clear hP hD hS H locs
              refine fun H locs (hP : va_P D vwCl [(h0, .inr (12, (.ref h4 :: .int wp22065 :: .int wp22066 :: .ref h7 :: .ref h8 :: .ref h9 :: .ref h10 :: .ref h11 :: .ref h12 :: .ref h13 :: .ref h14 :: .ref h15 :: .int wp22067 :: .ref h17 :: .int wp22068 :: .ref h19 :: .int wp22069 :: .ref h21 :: .ref h22 :: .ref h23 :: .ref h24 :: .ref h25 :: .ref h26 :: .ref h27 :: .ref h28 :: .ref h29 :: .ref h30 :: .ref h31 :: .int wp22070 :: .ref h33 :: .ref h34 :: .ref h35 :: .int wp22071 :: [.ref h37, .ref h38, .ref h39, .ref h40, .ref h41, .ref h42, .ref h43, .ref h44, .ref h45, .ref h46, .ref h47, .ref h48, .ref h49, .ref h50, .ref h51, .int wp22072, .int wp22073, .int wp22074, .int wp22075, .int wp22076, .ref h57, .ref h58, .int wp22077, .ref h60, .int 0, .ref h61, .int wp22078, .ref h63, .ref h64, .int wp22079, .ref h66, .ref h67, .int wp22080, .ref h69, .ref h70, .ref h71, .ref h72, .int wp22081, .int wp22082, .int wp22083, .int wp22084, .ref h77, .ref h78, .ref h79, .ref h80, .ref h81, .ref h82, .ref h83, .ref h84, .ref h85]))), (h57, .inl (y 0, 3, .inl (upd (fun _ => 0) ((2 : Int32).toNatClampNeg) 6))), (h58, .inl (y 0, 18, .inl (upd fn22224 ((15 : Int32).toNatClampNeg) ((p2 / 100) - (p2 / 100) / 10 * 10))))] H) (hD : va_D A [(h0, .inr (12, (.ref h4 :: .int wp22065 :: .int wp22066 :: .ref h7 :: .ref h8 :: .ref h9 :: .ref h10 :: .ref h11 :: .ref h12 :: .ref h13 :: .ref h14 :: .ref h15 :: .int wp22067 :: .ref h17 :: .int wp22068 :: .ref h19 :: .int wp22069 :: .ref h21 :: .ref h22 :: .ref h23 :: .ref h24 :: .ref h25 :: .ref h26 :: .ref h27 :: .ref h28 :: .ref h29 :: .ref h30 :: .ref h31 :: .int wp22070 :: .ref h33 :: .ref h34 :: .ref h35 :: .int wp22071 :: [.ref h37, .ref h38, .ref h39, .ref h40, .ref h41, .ref h42, .ref h43, .ref h44, .ref h45, .ref h46, .ref h47, .ref h48, .ref h49, .ref h50, .ref h51, .int wp22072, .int wp22073, .int wp22074, .int wp22075, .int wp22076, .ref h57, .ref h58, .int wp22077, .ref h60, .int 0, .ref h61, .int wp22078, .ref h63, .ref h64, .int wp22079, .ref h66, .ref h67, .int wp22080, .ref h69, .ref h70, .ref h71, .ref h72, .int wp22081, .int wp22082, .int wp22083, .int wp22084, .ref h77, .ref h78, .ref h79, .ref h80, .ref h81, .ref h82, .ref h83, .ref h84, .ref h85]))), (h57, .inl (y 0, 3, .inl (upd (fun _ => 0) ((2 : Int32).toNatClampNeg) 6))), (h58, .inl (y 0, 18, .inl (upd fn22224 ((15 : Int32).toNatClampNeg) ((p2 / 100) - (p2 / 100) / 10 * 10))))]) hS => ?_
              obtain ⟨fn22226, hfn22226⟩ : ∃ f9 : Nat → Int32, f9 = (upd fn22224 ((15 : Int32).toNatClampNeg) ((p2 / 100) - (p2 / 100) / 10 * 10)) := ⟨_, rfl⟩
              rw [← hfn22226] at hP hD
              clear hfn22226
              refine lv_iinc (v := 4) (lv' := [(4, .int 4), (0, .ref h0), (1, .int 2), (2, .int p2), (3, .int 6)]) hx hb dX12_secret_88 hl (k := 0) rfl (by decide +kernel) (by decide) rfl ?_
              clear hl
              clear ls
              intro ls hl
              refine lv_goto (tgt := 63) hx hb dX12_secret_91 (by decide) ?_
              refine lv_iload hx hb dX12_secret_63 (lv_at hl 0 rfl) ?_
              refine lv_iload_n hx hb dX12_secret_65 rfl (lv_at hl 4 rfl) ?_
              refine lv_icmp_ge (tgt := 94) hx hb dX12_secret_66 (by decide) (fun c9 => absurd c9 (by decide +kernel)) (fun _ => ?_)
              refine lv_aload_n hx hb dX12_secret_69 rfl (lv_at hl 1 rfl) ?_
              refine gm_get (D := D) (ci := 12) (v := .ref h58) (C := RX12) (T := TX12) (N := 83) hx hb hg inlX12 hown hK.1 hP 0 rfl rfl 54 (by decide) tX12_54 (hg _ gw_208) rfl dX12_secret_70 ?_
              refine lv_bipush (v := 6) hx hb dX12_secret_73 (by decide +kernel) ?_
              refine lv_iload_n hx hb dX12_secret_75 rfl (lv_at hl 2 rfl) ?_
              refine lv_imul hx hb dX12_secret_76 ?_
              refine g_fi (v := 12) (by decide +kernel) ?_
              refine lv_iload hx hb dX12_secret_77 (lv_at hl 0 rfl) ?_
              refine lv_iadd hx hb dX12_secret_79 ?_
              refine g_fi (v := 16) (by decide +kernel) ?_
              refine lv_iload_n hx hb dX12_secret_80 rfl (lv_at hl 3 rfl) ?_
              refine lv_iload_n hx hb dX12_secret_81 rfl (lv_at hl 4 rfl) ?_
              refine lv_iload hx hb dX12_secret_82 (lv_at hl 0 rfl) ?_
              refine g_ai (wr := [(h0, .inr (12, (.ref h4 :: .int wp22065 :: .int wp22066 :: .ref h7 :: .ref h8 :: .ref h9 :: .ref h10 :: .ref h11 :: .ref h12 :: .ref h13 :: .ref h14 :: .ref h15 :: .int wp22067 :: .ref h17 :: .int wp22068 :: .ref h19 :: .int wp22069 :: .ref h21 :: .ref h22 :: .ref h23 :: .ref h24 :: .ref h25 :: .ref h26 :: .ref h27 :: .ref h28 :: .ref h29 :: .ref h30 :: .ref h31 :: .int wp22070 :: .ref h33 :: .ref h34 :: .ref h35 :: .int wp22071 :: [.ref h37, .ref h38, .ref h39, .ref h40, .ref h41, .ref h42, .ref h43, .ref h44, .ref h45, .ref h46, .ref h47, .ref h48, .ref h49, .ref h50, .ref h51, .int wp22072, .int wp22073, .int wp22074, .int wp22075, .int wp22076, .ref h57, .ref h58, .int wp22077, .ref h60, .int 0, .ref h61, .int wp22078, .ref h63, .ref h64, .int wp22079, .ref h66, .ref h67, .int wp22080, .ref h69, .ref h70, .ref h71, .ref h72, .int wp22081, .int wp22082, .int wp22083, .int wp22084, .ref h77, .ref h78, .ref h79, .ref h80, .ref h81, .ref h82, .ref h83, .ref h84, .ref h85]))), (h57, .inl (y 0, 3, .inl (upd (fun _ => 0) ((2 : Int32).toNatClampNeg) 6))), (h58, .inl (y 0, 18, .inl fn22226))]) (va_runS (As := [.int p2, .int 6, .int 4]) (rest := [.int 16, .ref h58]) ⟨hx, hb, hml, hown, hg⟩ (k_X12_digitOf_18 l D y aS H.size p2) (va_cwS 3 hg ggS_RX12_484_X12_digitOf rfl rfl rfl (by decide +kernel) ⟨Nat.le_of_ble_eq_true rfl, Nat.le_of_ble_eq_true rfl⟩) (g_preS hK hP hD [] rfl (by decide)) rfl rfl hl.1 rfl (lv_room (Nat.le_of_ble_eq_true rfl)) dX12_secret_84 ⟨Nat.le_of_ble_eq_true rfl, Nat.le_of_ble_eq_true rfl⟩) hP hD hS hA [] [0, 1, 2] rfl rfl (by decide) (by decide) ?_
              clear hP hD hS H locs
              refine fun r22227 u H locs hq hP hD hS => ?_
              subst hq
              replace hP : va_P D vwCl [(h0, .inr (12, (.ref h4 :: .int wp22065 :: .int wp22066 :: .ref h7 :: .ref h8 :: .ref h9 :: .ref h10 :: .ref h11 :: .ref h12 :: .ref h13 :: .ref h14 :: .ref h15 :: .int wp22067 :: .ref h17 :: .int wp22068 :: .ref h19 :: .int wp22069 :: .ref h21 :: .ref h22 :: .ref h23 :: .ref h24 :: .ref h25 :: .ref h26 :: .ref h27 :: .ref h28 :: .ref h29 :: .ref h30 :: .ref h31 :: .int wp22070 :: .ref h33 :: .ref h34 :: .ref h35 :: .int wp22071 :: [.ref h37, .ref h38, .ref h39, .ref h40, .ref h41, .ref h42, .ref h43, .ref h44, .ref h45, .ref h46, .ref h47, .ref h48, .ref h49, .ref h50, .ref h51, .int wp22072, .int wp22073, .int wp22074, .int wp22075, .int wp22076, .ref h57, .ref h58, .int wp22077, .ref h60, .int 0, .ref h61, .int wp22078, .ref h63, .ref h64, .int wp22079, .ref h66, .ref h67, .int wp22080, .ref h69, .ref h70, .ref h71, .ref h72, .int wp22081, .int wp22082, .int wp22083, .int wp22084, .ref h77, .ref h78, .ref h79, .ref h80, .ref h81, .ref h82, .ref h83, .ref h84, .ref h85]))), (h57, .inl (y 0, 3, .inl (upd (fun _ => 0) ((2 : Int32).toNatClampNeg) 6))), (h58, .inl (y 0, 18, .inl fn22226))] H := hP
              replace hD : va_D A [(h0, .inr (12, (.ref h4 :: .int wp22065 :: .int wp22066 :: .ref h7 :: .ref h8 :: .ref h9 :: .ref h10 :: .ref h11 :: .ref h12 :: .ref h13 :: .ref h14 :: .ref h15 :: .int wp22067 :: .ref h17 :: .int wp22068 :: .ref h19 :: .int wp22069 :: .ref h21 :: .ref h22 :: .ref h23 :: .ref h24 :: .ref h25 :: .ref h26 :: .ref h27 :: .ref h28 :: .ref h29 :: .ref h30 :: .ref h31 :: .int wp22070 :: .ref h33 :: .ref h34 :: .ref h35 :: .int wp22071 :: [.ref h37, .ref h38, .ref h39, .ref h40, .ref h41, .ref h42, .ref h43, .ref h44, .ref h45, .ref h46, .ref h47, .ref h48, .ref h49, .ref h50, .ref h51, .int wp22072, .int wp22073, .int wp22074, .int wp22075, .int wp22076, .ref h57, .ref h58, .int wp22077, .ref h60, .int 0, .ref h61, .int wp22078, .ref h63, .ref h64, .int wp22079, .ref h66, .ref h67, .int wp22080, .ref h69, .ref h70, .ref h71, .ref h72, .int wp22081, .int wp22082, .int wp22083, .int wp22084, .ref h77, .ref h78, .ref h79, .ref h80, .ref h81, .ref h82, .ref h83, .ref h84, .ref h85]))), (h57, .inl (y 0, 3, .inl (upd (fun _ => 0) ((2 : Int32).toNatClampNeg) 6))), (h58, .inl (y 0, 18, .inl fn22226))] := hD
              refine va_iast hx hb hK.1 hP hD hS 2 0 rfl rfl (by unfold vp_in; decide +kernel) dX12_secret_87 ?_
              clear hP hD hS H locs
              refine fun H locs (hP : va_P D vwCl [(h0, .inr (12, (.ref h4 :: .int wp22065 :: .int wp22066 :: .ref h7 :: .ref h8 :: .ref h9 :: .ref h10 :: .ref h11 :: .ref h12 :: .ref h13 :: .ref h14 :: .ref h15 :: .int wp22067 :: .ref h17 :: .int wp22068 :: .ref h19 :: .int wp22069 :: .ref h21 :: .ref h22 :: .ref h23 :: .ref h24 :: .ref h25 :: .ref h26 :: .ref h27 :: .ref h28 :: .ref h29 :: .ref h30 :: .ref h31 :: .int wp22070 :: .ref h33 :: .ref h34 :: .ref h35 :: .int wp22071 :: [.ref h37, .ref h38, .ref h39, .ref h40, .ref h41, .ref h42, .ref h43, .ref h44, .ref h45, .ref h46, .ref h47, .ref h48, .ref h49, .ref h50, .ref h51, .int wp22072, .int wp22073, .int wp22074, .int wp22075, .int wp22076, .ref h57, .ref h58, .int wp22077, .ref h60, .int 0, .ref h61, .int wp22078, .ref h63, .ref h64, .int wp22079, .ref h66, .ref h67, .int wp22080, .ref h69, .ref h70, .ref h71, .ref h72, .int wp22081, .int wp22082, .int wp22083, .int wp22084, .ref h77, .ref h78, .ref h79, .ref h80, .ref h81, .ref h82, .ref h83, .ref h84, .ref h85]))), (h57, .inl (y 0, 3, .inl (upd (fun _ => 0) ((2 : Int32).toNatClampNeg) 6))), (h58, .inl (y 0, 18, .inl (upd fn22226 ((16 : Int32).toNatClampNeg) ((p2 / 10) - (p2 / 10) / 10 * 10))))] H) (hD : va_D A [(h0, .inr (12, (.ref h4 :: .int wp22065 :: .int wp22066 :: .ref h7 :: .ref h8 :: .ref h9 :: .ref h10 :: .ref h11 :: .ref h12 :: .ref h13 :: .ref h14 :: .ref h15 :: .int wp22067 :: .ref h17 :: .int wp22068 :: .ref h19 :: .int wp22069 :: .ref h21 :: .ref h22 :: .ref h23 :: .ref h24 :: .ref h25 :: .ref h26 :: .ref h27 :: .ref h28 :: .ref h29 :: .ref h30 :: .ref h31 :: .int wp22070 :: .ref h33 :: .ref h34 :: .ref h35 :: .int wp22071 :: [.ref h37, .ref h38, .ref h39, .ref h40, .ref h41, .ref h42, .ref h43, .ref h44, .ref h45, .ref h46, .ref h47, .ref h48, .ref h49, .ref h50, .ref h51, .int wp22072, .int wp22073, .int wp22074, .int wp22075, .int wp22076, .ref h57, .ref h58, .int wp22077, .ref h60, .int 0, .ref h61, .int wp22078, .ref h63, .ref h64, .int wp22079, .ref h66, .ref h67, .int wp22080, .ref h69, .ref h70, .ref h71, .ref h72, .int wp22081, .int wp22082, .int wp22083, .int wp22084, .ref h77, .ref h78, .ref h79, .ref h80, .ref h81, .ref h82, .ref h83, .ref h84, .ref h85]))), (h57, .inl (y 0, 3, .inl (upd (fun _ => 0) ((2 : Int32).toNatClampNeg) 6))), (h58, .inl (y 0, 18, .inl (upd fn22226 ((16 : Int32).toNatClampNeg) ((p2 / 10) - (p2 / 10) / 10 * 10))))]) hS => ?_
              obtain ⟨fn22228, hfn22228⟩ : ∃ f9 : Nat → Int32, f9 = (upd fn22226 ((16 : Int32).toNatClampNeg) ((p2 / 10) - (p2 / 10) / 10 * 10)) := ⟨_, rfl⟩
              rw [← hfn22228] at hP hD
              clear hfn22228
              refine lv_iinc (v := 5) (lv' := [(4, .int 5), (0, .ref h0), (1, .int 2), (2, .int p2), (3, .int 6)]) hx hb dX12_secret_88 hl (k := 0) rfl (by decide +kernel) (by decide) rfl ?_
              clear hl
              clear ls
              intro ls hl
              refine lv_goto (tgt := 63) hx hb dX12_secret_91 (by decide) ?_
              refine lv_iload hx hb dX12_secret_63 (lv_at hl 0 rfl) ?_
              refine lv_iload_n hx hb dX12_secret_65 rfl (lv_at hl 4 rfl) ?_
              refine lv_icmp_ge (tgt := 94) hx hb dX12_secret_66 (by decide) (fun c9 => absurd c9 (by decide +kernel)) (fun _ => ?_)
              refine lv_aload_n hx hb dX12_secret_69 rfl (lv_at hl 1 rfl) ?_
              refine gm_get (D := D) (ci := 12) (v := .ref h58) (C := RX12) (T := TX12) (N := 83) hx hb hg inlX12 hown hK.1 hP 0 rfl rfl 54 (by decide) tX12_54 (hg _ gw_208) rfl dX12_secret_70 ?_
              refine lv_bipush (v := 6) hx hb dX12_secret_73 (by decide +kernel) ?_
              refine lv_iload_n hx hb dX12_secret_75 rfl (lv_at hl 2 rfl) ?_
              refine lv_imul hx hb dX12_secret_76 ?_
              refine g_fi (v := 12) (by decide +kernel) ?_
              refine lv_iload hx hb dX12_secret_77 (lv_at hl 0 rfl) ?_
              refine lv_iadd hx hb dX12_secret_79 ?_
              refine g_fi (v := 17) (by decide +kernel) ?_
              refine lv_iload_n hx hb dX12_secret_80 rfl (lv_at hl 3 rfl) ?_
              refine lv_iload_n hx hb dX12_secret_81 rfl (lv_at hl 4 rfl) ?_
              refine lv_iload hx hb dX12_secret_82 (lv_at hl 0 rfl) ?_
              refine g_ai (wr := [(h0, .inr (12, (.ref h4 :: .int wp22065 :: .int wp22066 :: .ref h7 :: .ref h8 :: .ref h9 :: .ref h10 :: .ref h11 :: .ref h12 :: .ref h13 :: .ref h14 :: .ref h15 :: .int wp22067 :: .ref h17 :: .int wp22068 :: .ref h19 :: .int wp22069 :: .ref h21 :: .ref h22 :: .ref h23 :: .ref h24 :: .ref h25 :: .ref h26 :: .ref h27 :: .ref h28 :: .ref h29 :: .ref h30 :: .ref h31 :: .int wp22070 :: .ref h33 :: .ref h34 :: .ref h35 :: .int wp22071 :: [.ref h37, .ref h38, .ref h39, .ref h40, .ref h41, .ref h42, .ref h43, .ref h44, .ref h45, .ref h46, .ref h47, .ref h48, .ref h49, .ref h50, .ref h51, .int wp22072, .int wp22073, .int wp22074, .int wp22075, .int wp22076, .ref h57, .ref h58, .int wp22077, .ref h60, .int 0, .ref h61, .int wp22078, .ref h63, .ref h64, .int wp22079, .ref h66, .ref h67, .int wp22080, .ref h69, .ref h70, .ref h71, .ref h72, .int wp22081, .int wp22082, .int wp22083, .int wp22084, .ref h77, .ref h78, .ref h79, .ref h80, .ref h81, .ref h82, .ref h83, .ref h84, .ref h85]))), (h57, .inl (y 0, 3, .inl (upd (fun _ => 0) ((2 : Int32).toNatClampNeg) 6))), (h58, .inl (y 0, 18, .inl fn22228))]) (va_runS (As := [.int p2, .int 6, .int 5]) (rest := [.int 17, .ref h58]) ⟨hx, hb, hml, hown, hg⟩ (k_X12_digitOf_19 l D y aS H.size p2) (va_cwS 3 hg ggS_RX12_484_X12_digitOf rfl rfl rfl (by decide +kernel) ⟨Nat.le_of_ble_eq_true rfl, Nat.le_of_ble_eq_true rfl⟩) (g_preS hK hP hD [] rfl (by decide)) rfl rfl hl.1 rfl (lv_room (Nat.le_of_ble_eq_true rfl)) dX12_secret_84 ⟨Nat.le_of_ble_eq_true rfl, Nat.le_of_ble_eq_true rfl⟩) hP hD hS hA [] [0, 1, 2] rfl rfl (by decide) (by decide) ?_
              clear hP hD hS H locs
              refine fun r22229 u H locs hq hP hD hS => ?_
              subst hq
              replace hP : va_P D vwCl [(h0, .inr (12, (.ref h4 :: .int wp22065 :: .int wp22066 :: .ref h7 :: .ref h8 :: .ref h9 :: .ref h10 :: .ref h11 :: .ref h12 :: .ref h13 :: .ref h14 :: .ref h15 :: .int wp22067 :: .ref h17 :: .int wp22068 :: .ref h19 :: .int wp22069 :: .ref h21 :: .ref h22 :: .ref h23 :: .ref h24 :: .ref h25 :: .ref h26 :: .ref h27 :: .ref h28 :: .ref h29 :: .ref h30 :: .ref h31 :: .int wp22070 :: .ref h33 :: .ref h34 :: .ref h35 :: .int wp22071 :: [.ref h37, .ref h38, .ref h39, .ref h40, .ref h41, .ref h42, .ref h43, .ref h44, .ref h45, .ref h46, .ref h47, .ref h48, .ref h49, .ref h50, .ref h51, .int wp22072, .int wp22073, .int wp22074, .int wp22075, .int wp22076, .ref h57, .ref h58, .int wp22077, .ref h60, .int 0, .ref h61, .int wp22078, .ref h63, .ref h64, .int wp22079, .ref h66, .ref h67, .int wp22080, .ref h69, .ref h70, .ref h71, .ref h72, .int wp22081, .int wp22082, .int wp22083, .int wp22084, .ref h77, .ref h78, .ref h79, .ref h80, .ref h81, .ref h82, .ref h83, .ref h84, .ref h85]))), (h57, .inl (y 0, 3, .inl (upd (fun _ => 0) ((2 : Int32).toNatClampNeg) 6))), (h58, .inl (y 0, 18, .inl fn22228))] H := hP
              replace hD : va_D A [(h0, .inr (12, (.ref h4 :: .int wp22065 :: .int wp22066 :: .ref h7 :: .ref h8 :: .ref h9 :: .ref h10 :: .ref h11 :: .ref h12 :: .ref h13 :: .ref h14 :: .ref h15 :: .int wp22067 :: .ref h17 :: .int wp22068 :: .ref h19 :: .int wp22069 :: .ref h21 :: .ref h22 :: .ref h23 :: .ref h24 :: .ref h25 :: .ref h26 :: .ref h27 :: .ref h28 :: .ref h29 :: .ref h30 :: .ref h31 :: .int wp22070 :: .ref h33 :: .ref h34 :: .ref h35 :: .int wp22071 :: [.ref h37, .ref h38, .ref h39, .ref h40, .ref h41, .ref h42, .ref h43, .ref h44, .ref h45, .ref h46, .ref h47, .ref h48, .ref h49, .ref h50, .ref h51, .int wp22072, .int wp22073, .int wp22074, .int wp22075, .int wp22076, .ref h57, .ref h58, .int wp22077, .ref h60, .int 0, .ref h61, .int wp22078, .ref h63, .ref h64, .int wp22079, .ref h66, .ref h67, .int wp22080, .ref h69, .ref h70, .ref h71, .ref h72, .int wp22081, .int wp22082, .int wp22083, .int wp22084, .ref h77, .ref h78, .ref h79, .ref h80, .ref h81, .ref h82, .ref h83, .ref h84, .ref h85]))), (h57, .inl (y 0, 3, .inl (upd (fun _ => 0) ((2 : Int32).toNatClampNeg) 6))), (h58, .inl (y 0, 18, .inl fn22228))] := hD
              refine va_iast hx hb hK.1 hP hD hS 2 0 rfl rfl (by unfold vp_in; decide +kernel) dX12_secret_87 ?_
              clear hP hD hS H locs
              refine fun H locs (hP : va_P D vwCl [(h0, .inr (12, (.ref h4 :: .int wp22065 :: .int wp22066 :: .ref h7 :: .ref h8 :: .ref h9 :: .ref h10 :: .ref h11 :: .ref h12 :: .ref h13 :: .ref h14 :: .ref h15 :: .int wp22067 :: .ref h17 :: .int wp22068 :: .ref h19 :: .int wp22069 :: .ref h21 :: .ref h22 :: .ref h23 :: .ref h24 :: .ref h25 :: .ref h26 :: .ref h27 :: .ref h28 :: .ref h29 :: .ref h30 :: .ref h31 :: .int wp22070 :: .ref h33 :: .ref h34 :: .ref h35 :: .int wp22071 :: [.ref h37, .ref h38, .ref h39, .ref h40, .ref h41, .ref h42, .ref h43, .ref h44, .ref h45, .ref h46, .ref h47, .ref h48, .ref h49, .ref h50, .ref h51, .int wp22072, .int wp22073, .int wp22074, .int wp22075, .int wp22076, .ref h57, .ref h58, .int wp22077, .ref h60, .int 0, .ref h61, .int wp22078, .ref h63, .ref h64, .int wp22079, .ref h66, .ref h67, .int wp22080, .ref h69, .ref h70, .ref h71, .ref h72, .int wp22081, .int wp22082, .int wp22083, .int wp22084, .ref h77, .ref h78, .ref h79, .ref h80, .ref h81, .ref h82, .ref h83, .ref h84, .ref h85]))), (h57, .inl (y 0, 3, .inl (upd (fun _ => 0) ((2 : Int32).toNatClampNeg) 6))), (h58, .inl (y 0, 18, .inl (upd fn22228 ((17 : Int32).toNatClampNeg) ((p2 / 1) - (p2 / 1) / 10 * 10))))] H) (hD : va_D A [(h0, .inr (12, (.ref h4 :: .int wp22065 :: .int wp22066 :: .ref h7 :: .ref h8 :: .ref h9 :: .ref h10 :: .ref h11 :: .ref h12 :: .ref h13 :: .ref h14 :: .ref h15 :: .int wp22067 :: .ref h17 :: .int wp22068 :: .ref h19 :: .int wp22069 :: .ref h21 :: .ref h22 :: .ref h23 :: .ref h24 :: .ref h25 :: .ref h26 :: .ref h27 :: .ref h28 :: .ref h29 :: .ref h30 :: .ref h31 :: .int wp22070 :: .ref h33 :: .ref h34 :: .ref h35 :: .int wp22071 :: [.ref h37, .ref h38, .ref h39, .ref h40, .ref h41, .ref h42, .ref h43, .ref h44, .ref h45, .ref h46, .ref h47, .ref h48, .ref h49, .ref h50, .ref h51, .int wp22072, .int wp22073, .int wp22074, .int wp22075, .int wp22076, .ref h57, .ref h58, .int wp22077, .ref h60, .int 0, .ref h61, .int wp22078, .ref h63, .ref h64, .int wp22079, .ref h66, .ref h67, .int wp22080, .ref h69, .ref h70, .ref h71, .ref h72, .int wp22081, .int wp22082, .int wp22083, .int wp22084, .ref h77, .ref h78, .ref h79, .ref h80, .ref h81, .ref h82, .ref h83, .ref h84, .ref h85]))), (h57, .inl (y 0, 3, .inl (upd (fun _ => 0) ((2 : Int32).toNatClampNeg) 6))), (h58, .inl (y 0, 18, .inl (upd fn22228 ((17 : Int32).toNatClampNeg) ((p2 / 1) - (p2 / 1) / 10 * 10))))]) hS => ?_
              obtain ⟨fn22230, hfn22230⟩ : ∃ f9 : Nat → Int32, f9 = (upd fn22228 ((17 : Int32).toNatClampNeg) ((p2 / 1) - (p2 / 1) / 10 * 10)) := ⟨_, rfl⟩
              rw [← hfn22230] at hP hD
              clear hfn22230
              refine lv_iinc (v := 6) (lv' := [(4, .int 6), (0, .ref h0), (1, .int 2), (2, .int p2), (3, .int 6)]) hx hb dX12_secret_88 hl (k := 0) rfl (by decide +kernel) (by decide) rfl ?_
              clear hl
              clear ls
              intro ls hl
              refine lv_goto (tgt := 63) hx hb dX12_secret_91 (by decide) ?_
              refine lv_iload hx hb dX12_secret_63 (lv_at hl 0 rfl) ?_
              refine lv_iload_n hx hb dX12_secret_65 rfl (lv_at hl 4 rfl) ?_
              refine lv_icmp_ge (tgt := 94) hx hb dX12_secret_66 (by decide) (fun _ => ?_) (fun c9 => absurd c9 (by decide +kernel))
              refine lv_iconst (v := 0) hx hb dX12_secret_94 (by decide) ?_
              refine lv_istore (lv' := [(4, .int 0), (0, .ref h0), (1, .int 2), (2, .int p2), (3, .int 6)]) hx hb dX12_secret_95 hl (by decide) rfl ?_
              clear hl
              clear ls
              intro ls hl
              refine lv_iconst (v := 0) hx hb dX12_secret_97 (by decide) ?_
              refine lv_istore (lv' := [(5, .int 0), (4, .int 0), (0, .ref h0), (1, .int 2), (2, .int p2), (3, .int 6)]) hx hb dX12_secret_98 hl (by decide) rfl ?_
              clear hl
              clear ls
              intro ls hl
              refine lv_iload hx hb dX12_secret_100 (lv_at hl 0 rfl) ?_
              refine lv_iconst (v := 3) hx hb dX12_secret_102 (by decide) ?_
              refine lv_icmp_ge (tgt := 132) hx hb dX12_secret_103 (by decide) (fun c9 => absurd c9 (by decide +kernel)) (fun _ => ?_)
              refine lv_iload hx hb dX12_secret_106 (lv_at hl 1 rfl) ?_
              refine lv_aload_n hx hb dX12_secret_108 rfl (lv_at hl 2 rfl) ?_
              refine gm_get (D := D) (ci := 12) (v := .ref h57) (C := RX12) (T := TX12) (N := 83) hx hb hg inlX12 hown hK.1 hP 0 rfl rfl 53 (by decide) tX12_53 (hg _ gw_207) rfl dX12_secret_109 ?_
              refine lv_iload hx hb dX12_secret_112 (lv_at hl 0 rfl) ?_
              refine va_iald hx hb hK.1 hP 1 0 rfl rfl (by unfold vp_in; decide +kernel) dX12_secret_114 ?_
              refine g_fi (v := 0) (by rfl) ?_
              refine lv_if_le (tgt := 122) hx hb dX12_secret_115 (by decide) (fun _ => ?_) (fun c9 => absurd c9 (by decide +kernel))
              refine lv_iconst (v := 0) hx hb dX12_secret_122 (by decide) ?_
              refine lv_iadd hx hb dX12_secret_123 ?_
              refine g_fi (v := 0) (by decide +kernel) ?_
              refine lv_istore (lv' := [(4, .int 0), (5, .int 0), (0, .ref h0), (1, .int 2), (2, .int p2), (3, .int 6)]) hx hb dX12_secret_124 hl (by decide) rfl ?_
              clear hl
              clear ls
              intro ls hl
              refine lv_iinc (v := 1) (lv' := [(5, .int 1), (4, .int 0), (0, .ref h0), (1, .int 2), (2, .int p2), (3, .int 6)]) hx hb dX12_secret_126 hl (k := 1) rfl (by decide +kernel) (by decide) rfl ?_
              clear hl
              clear ls
              intro ls hl
              refine lv_goto (tgt := 100) hx hb dX12_secret_129 (by decide) ?_
              refine lv_iload hx hb dX12_secret_100 (lv_at hl 0 rfl) ?_
              refine lv_iconst (v := 3) hx hb dX12_secret_102 (by decide) ?_
              refine lv_icmp_ge (tgt := 132) hx hb dX12_secret_103 (by decide) (fun c9 => absurd c9 (by decide +kernel)) (fun _ => ?_)
              refine lv_iload hx hb dX12_secret_106 (lv_at hl 1 rfl) ?_
              refine lv_aload_n hx hb dX12_secret_108 rfl (lv_at hl 2 rfl) ?_
              refine gm_get (D := D) (ci := 12) (v := .ref h57) (C := RX12) (T := TX12) (N := 83) hx hb hg inlX12 hown hK.1 hP 0 rfl rfl 53 (by decide) tX12_53 (hg _ gw_207) rfl dX12_secret_109 ?_
              refine lv_iload hx hb dX12_secret_112 (lv_at hl 0 rfl) ?_
              refine va_iald hx hb hK.1 hP 1 0 rfl rfl (by unfold vp_in; decide +kernel) dX12_secret_114 ?_
              refine g_fi (v := 0) (by rfl) ?_
              refine lv_if_le (tgt := 122) hx hb dX12_secret_115 (by decide) (fun _ => ?_) (fun c9 => absurd c9 (by decide +kernel))
              refine lv_iconst (v := 0) hx hb dX12_secret_122 (by decide) ?_
              refine lv_iadd hx hb dX12_secret_123 ?_
              refine g_fi (v := 0) (by decide +kernel) ?_
              refine lv_istore (lv' := [(4, .int 0), (5, .int 1), (0, .ref h0), (1, .int 2), (2, .int p2), (3, .int 6)]) hx hb dX12_secret_124 hl (by decide) rfl ?_
              clear hl
              clear ls
              intro ls hl
              refine lv_iinc (v := 2) (lv' := [(5, .int 2), (4, .int 0), (0, .ref h0), (1, .int 2), (2, .int p2), (3, .int 6)]) hx hb dX12_secret_126 hl (k := 1) rfl (by decide +kernel) (by decide) rfl ?_
              clear hl
              clear ls
              intro ls hl
              refine lv_goto (tgt := 100) hx hb dX12_secret_129 (by decide) ?_
              refine lv_iload hx hb dX12_secret_100 (lv_at hl 0 rfl) ?_
              refine lv_iconst (v := 3) hx hb dX12_secret_102 (by decide) ?_
              refine lv_icmp_ge (tgt := 132) hx hb dX12_secret_103 (by decide) (fun c9 => absurd c9 (by decide +kernel)) (fun _ => ?_)
              refine lv_iload hx hb dX12_secret_106 (lv_at hl 1 rfl) ?_
              refine lv_aload_n hx hb dX12_secret_108 rfl (lv_at hl 2 rfl) ?_
              refine gm_get (D := D) (ci := 12) (v := .ref h57) (C := RX12) (T := TX12) (N := 83) hx hb hg inlX12 hown hK.1 hP 0 rfl rfl 53 (by decide) tX12_53 (hg _ gw_207) rfl dX12_secret_109 ?_
              refine lv_iload hx hb dX12_secret_112 (lv_at hl 0 rfl) ?_
              refine va_iald hx hb hK.1 hP 1 0 rfl rfl (by unfold vp_in; decide +kernel) dX12_secret_114 ?_
              refine g_fi (v := 6) (by rfl) ?_
              refine lv_if_le (tgt := 122) hx hb dX12_secret_115 (by decide) (fun c9 => absurd c9 (by decide +kernel)) (fun _ => ?_)
              refine lv_iconst (v := 1) hx hb dX12_secret_118 (by decide) ?_
              refine lv_goto (tgt := 123) hx hb dX12_secret_119 (by decide) ?_
              refine lv_iadd hx hb dX12_secret_123 ?_
              refine g_fi (v := 1) (by decide +kernel) ?_
              refine lv_istore (lv' := [(4, .int 1), (5, .int 2), (0, .ref h0), (1, .int 2), (2, .int p2), (3, .int 6)]) hx hb dX12_secret_124 hl (by decide) rfl ?_
              clear hl
              clear ls
              intro ls hl
              refine lv_iinc (v := 3) (lv' := [(5, .int 3), (4, .int 1), (0, .ref h0), (1, .int 2), (2, .int p2), (3, .int 6)]) hx hb dX12_secret_126 hl (k := 1) rfl (by decide +kernel) (by decide) rfl ?_
              clear hl
              clear ls
              intro ls hl
              refine lv_goto (tgt := 100) hx hb dX12_secret_129 (by decide) ?_
              refine lv_iload hx hb dX12_secret_100 (lv_at hl 0 rfl) ?_
              refine lv_iconst (v := 3) hx hb dX12_secret_102 (by decide) ?_
              refine lv_icmp_ge (tgt := 132) hx hb dX12_secret_103 (by decide) (fun _ => ?_) (fun c9 => absurd c9 (by decide +kernel))
              refine lv_iload hx hb dX12_secret_132 (lv_at hl 1 rfl) ?_
              exact g_iret hx hb hr hlocks ⟨0, (upd (fun _ => 0) ((2 : Int32).toNatClampNeg) 6), fn22230⟩ hP hD hS rfl (Or.inr (Or.inr (Or.inr (Or.inr (Or.inr (Or.inr (Or.inr (Or.inr (Or.inr (Or.inr (Or.inr (Or.inr (Or.inr (Or.inr (Or.inr (Or.inr (Or.inr (Or.inr (Or.inr (Or.inr (Or.inr (Or.inr (Or.inr (Or.inl ⟨rfl, rfl, rfl, (by first | omega | (simp_all; done)), (by first | omega | (simp_all; done)), (by first | omega | (simp_all; done)), (by first | omega | (simp_all; done)), (by first | omega | (simp_all; done)), (by first | omega | (simp_all; done))⟩)))))))))))))))))))))))) (Nat.le_of_ble_eq_true rfl) (Nat.le_of_ble_eq_true rfl) dX12_secret_134
          · have z22194 := g_ltf z22194; rw [g_l1000000] at z22194
            refine lv_iconst (v := 2) hx hb dX12_secret_36 (by decide) ?_
            refine lv_goto (tgt := 41) hx hb dX12_secret_37 (by decide) ?_
            refine gm_put (D := D) (ci := 12) (v := .int 2) (ty := .int) (C := RX12) (T := TX12) (N := 83) hx hb hg inlX12 tyX12 tyX12_ok nmX12 hown hK.1 hP hD hS 0 rfl rfl 57 (by decide) tX12_57 (hg _ gw_276) (by decide +kernel) rfl rfl (Nat.le_of_ble_eq_true rfl) dX12_secret_41 ?_
            clear hP hD hS H locs
            refine fun H locs (hP : va_P D vwCl [(h0, .inr (12, (.ref h4 :: .int wp22065 :: .int wp22066 :: .ref h7 :: .ref h8 :: .ref h9 :: .ref h10 :: .ref h11 :: .ref h12 :: .ref h13 :: .ref h14 :: .ref h15 :: .int wp22067 :: .ref h17 :: .int wp22068 :: .ref h19 :: .int wp22069 :: .ref h21 :: .ref h22 :: .ref h23 :: .ref h24 :: .ref h25 :: .ref h26 :: .ref h27 :: .ref h28 :: .ref h29 :: .ref h30 :: .ref h31 :: .int wp22070 :: .ref h33 :: .ref h34 :: .ref h35 :: .int wp22071 :: [.ref h37, .ref h38, .ref h39, .ref h40, .ref h41, .ref h42, .ref h43, .ref h44, .ref h45, .ref h46, .ref h47, .ref h48, .ref h49, .ref h50, .ref h51, .int wp22072, .int wp22073, .int wp22074, .int wp22075, .int wp22076, .ref h57, .ref h58, .int wp22077, .ref h60, .int 2, .ref h61, .int wp22078, .ref h63, .ref h64, .int wp22079, .ref h66, .ref h67, .int wp22080, .ref h69, .ref h70, .ref h71, .ref h72, .int wp22081, .int wp22082, .int wp22083, .int wp22084, .ref h77, .ref h78, .ref h79, .ref h80, .ref h81, .ref h82, .ref h83, .ref h84, .ref h85]))), (h57, .inl (y 0, 3, .inl (fun _ => 0))), (h58, .inl (y 0, 18, .inl wf22085))] H) (hD : va_D A [(h0, .inr (12, (.ref h4 :: .int wp22065 :: .int wp22066 :: .ref h7 :: .ref h8 :: .ref h9 :: .ref h10 :: .ref h11 :: .ref h12 :: .ref h13 :: .ref h14 :: .ref h15 :: .int wp22067 :: .ref h17 :: .int wp22068 :: .ref h19 :: .int wp22069 :: .ref h21 :: .ref h22 :: .ref h23 :: .ref h24 :: .ref h25 :: .ref h26 :: .ref h27 :: .ref h28 :: .ref h29 :: .ref h30 :: .ref h31 :: .int wp22070 :: .ref h33 :: .ref h34 :: .ref h35 :: .int wp22071 :: [.ref h37, .ref h38, .ref h39, .ref h40, .ref h41, .ref h42, .ref h43, .ref h44, .ref h45, .ref h46, .ref h47, .ref h48, .ref h49, .ref h50, .ref h51, .int wp22072, .int wp22073, .int wp22074, .int wp22075, .int wp22076, .ref h57, .ref h58, .int wp22077, .ref h60, .int 2, .ref h61, .int wp22078, .ref h63, .ref h64, .int wp22079, .ref h66, .ref h67, .int wp22080, .ref h69, .ref h70, .ref h71, .ref h72, .int wp22081, .int wp22082, .int wp22083, .int wp22084, .ref h77, .ref h78, .ref h79, .ref h80, .ref h81, .ref h82, .ref h83, .ref h84, .ref h85]))), (h57, .inl (y 0, 3, .inl (fun _ => 0))), (h58, .inl (y 0, 18, .inl wf22085))]) hS => ?_
            refine lv_aload_n hx hb dX12_secret_44 rfl (lv_at hl 0 rfl) ?_
            refine gm_get (D := D) (ci := 12) (v := .int 2) (C := RX12) (T := TX12) (N := 83) hx hb hg inlX12 hown hK.1 hP 0 rfl rfl 57 (by decide) tX12_57 (hg _ gw_276) rfl dX12_secret_45 ?_
            refine lv_if_le (tgt := 53) hx hb dX12_secret_48 (by decide) (fun c9 => absurd c9 (by decide +kernel)) (fun _ => ?_)
            refine lv_iconst (v := 0) hx hb dX12_secret_51 (by decide) ?_
            exact g_iret hx hb hr hlocks ⟨2, (fun _ => 0), wf22085⟩ hP hD hS rfl (Or.inr (Or.inr (Or.inr (Or.inr (Or.inr (Or.inr (Or.inr (Or.inr (Or.inr (Or.inr (Or.inr (Or.inr (Or.inr (Or.inr (Or.inr (Or.inr (Or.inr (Or.inr (Or.inr (Or.inr (Or.inr (Or.inr (Or.inr (Or.inr ⟨rfl, rfl, rfl, rfl, (by first | omega | (simp_all; done)), (by first | omega | (simp_all; done)), (by first | omega | (simp_all; done)), (by first | omega | (simp_all; done)), (by first | omega | (simp_all; done))⟩)))))))))))))))))))))))) (Nat.le_of_ble_eq_true rfl) (Nat.le_of_ble_eq_true rfl) dX12_secret_52
