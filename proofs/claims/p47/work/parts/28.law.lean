def dt135_L_bits : List (Nat × Instr × Nat) := [(31, (.lor, 1)), (32, (.lstore_n 1, 1)), (33, (.iinc 3 1, 3)), (36, (.goto (-32), 3)), (4, (.iload_n 3, 1)), (5, (.bipush 12, 2)), (7, (.if_icmp .ge 32, 3)), (39, (.lload_n 1, 1)), (40, (.lreturn, 1)), (10, (.lload_n 1, 1)), (11, (.iload_n 0, 1)), (12, (.iload_n 3, 1)), (13, (.ishr, 1)), (14, (.iconst 1, 1)), (15, (.iand, 1)), (16, (.iconst 1, 1)), (17, (.if_icmp .ne 13, 3)), (30, (.lconst 0, 1)), (20, (.ldc2_w 7, 3)), (23, (.iconst 4, 1)), (24, (.iload_n 3, 1)), (25, (.imul, 1)), (26, (.lshl, 1)), (27, (.goto 4, 3)), (0, (.lconst 0, 1)), (1, (.lstore_n 1, 1)), (2, (.iconst 0, 1)), (3, (.istore_n 3, 1))]
theorem dt135_L_bits_ok : ∀ q ∈ dt135_L_bits, decode cL_bits q.1 = .ok q.2 := by decide +kernel
theorem dL_bits_31 : decode cL_bits 31 = .ok (.lor, 1) := g_dec dt135_L_bits_ok (k := 0) rfl
theorem dL_bits_32 : decode cL_bits 32 = .ok (.lstore_n 1, 1) := g_dec dt135_L_bits_ok (k := 1) rfl
theorem dL_bits_33 : decode cL_bits 33 = .ok (.iinc 3 1, 3) := g_dec dt135_L_bits_ok (k := 2) rfl
theorem dL_bits_36 : decode cL_bits 36 = .ok (.goto (-32), 3) := g_dec dt135_L_bits_ok (k := 3) rfl
theorem dL_bits_4 : decode cL_bits 4 = .ok (.iload_n 3, 1) := g_dec dt135_L_bits_ok (k := 4) rfl
theorem dL_bits_5 : decode cL_bits 5 = .ok (.bipush 12, 2) := g_dec dt135_L_bits_ok (k := 5) rfl
theorem dL_bits_7 : decode cL_bits 7 = .ok (.if_icmp .ge 32, 3) := g_dec dt135_L_bits_ok (k := 6) rfl
theorem dL_bits_39 : decode cL_bits 39 = .ok (.lload_n 1, 1) := g_dec dt135_L_bits_ok (k := 7) rfl
theorem dL_bits_40 : decode cL_bits 40 = .ok (.lreturn, 1) := g_dec dt135_L_bits_ok (k := 8) rfl
theorem dL_bits_10 : decode cL_bits 10 = .ok (.lload_n 1, 1) := g_dec dt135_L_bits_ok (k := 9) rfl
theorem dL_bits_11 : decode cL_bits 11 = .ok (.iload_n 0, 1) := g_dec dt135_L_bits_ok (k := 10) rfl
theorem dL_bits_12 : decode cL_bits 12 = .ok (.iload_n 3, 1) := g_dec dt135_L_bits_ok (k := 11) rfl
theorem dL_bits_13 : decode cL_bits 13 = .ok (.ishr, 1) := g_dec dt135_L_bits_ok (k := 12) rfl
theorem dL_bits_14 : decode cL_bits 14 = .ok (.iconst 1, 1) := g_dec dt135_L_bits_ok (k := 13) rfl
theorem dL_bits_15 : decode cL_bits 15 = .ok (.iand, 1) := g_dec dt135_L_bits_ok (k := 14) rfl
theorem dL_bits_16 : decode cL_bits 16 = .ok (.iconst 1, 1) := g_dec dt135_L_bits_ok (k := 15) rfl
theorem dL_bits_17 : decode cL_bits 17 = .ok (.if_icmp .ne 13, 3) := g_dec dt135_L_bits_ok (k := 16) rfl
theorem dL_bits_30 : decode cL_bits 30 = .ok (.lconst 0, 1) := g_dec dt135_L_bits_ok (k := 17) rfl
theorem dL_bits_20 : decode cL_bits 20 = .ok (.ldc2_w 7, 3) := g_dec dt135_L_bits_ok (k := 18) rfl
theorem dL_bits_23 : decode cL_bits 23 = .ok (.iconst 4, 1) := g_dec dt135_L_bits_ok (k := 19) rfl
theorem dL_bits_24 : decode cL_bits 24 = .ok (.iload_n 3, 1) := g_dec dt135_L_bits_ok (k := 20) rfl
theorem dL_bits_25 : decode cL_bits 25 = .ok (.imul, 1) := g_dec dt135_L_bits_ok (k := 21) rfl
theorem dL_bits_26 : decode cL_bits 26 = .ok (.lshl, 1) := g_dec dt135_L_bits_ok (k := 22) rfl
theorem dL_bits_27 : decode cL_bits 27 = .ok (.goto 4, 3) := g_dec dt135_L_bits_ok (k := 23) rfl
theorem dL_bits_0 : decode cL_bits 0 = .ok (.lconst 0, 1) := g_dec dt135_L_bits_ok (k := 24) rfl
theorem dL_bits_1 : decode cL_bits 1 = .ok (.lstore_n 1, 1) := g_dec dt135_L_bits_ok (k := 25) rfl
theorem dL_bits_2 : decode cL_bits 2 = .ok (.iconst 0, 1) := g_dec dt135_L_bits_ok (k := 26) rfl
theorem dL_bits_3 : decode cL_bits 3 = .ok (.istore_n 3, 1) := g_dec dt135_L_bits_ok (k := 27) rfl
def dt136_L_at : List (Nat × Instr × Nat) := [(0, (.lload_n 0, 1)), (1, (.iconst 4, 1)), (2, (.iload_n 2, 1)), (3, (.imul, 1)), (4, (.lshr, 1)), (5, (.ldc2_w 7, 3)), (8, (.land, 1)), (9, (.l2i, 1)), (10, (.ireturn, 1))]
theorem dt136_L_at_ok : ∀ q ∈ dt136_L_at, decode cL_at q.1 = .ok q.2 := by decide +kernel
theorem dL_at_0 : decode cL_at 0 = .ok (.lload_n 0, 1) := g_dec dt136_L_at_ok (k := 0) rfl
theorem dL_at_1 : decode cL_at 1 = .ok (.iconst 4, 1) := g_dec dt136_L_at_ok (k := 1) rfl
theorem dL_at_2 : decode cL_at 2 = .ok (.iload_n 2, 1) := g_dec dt136_L_at_ok (k := 2) rfl
theorem dL_at_3 : decode cL_at 3 = .ok (.imul, 1) := g_dec dt136_L_at_ok (k := 3) rfl
theorem dL_at_4 : decode cL_at 4 = .ok (.lshr, 1) := g_dec dt136_L_at_ok (k := 4) rfl
theorem dL_at_5 : decode cL_at 5 = .ok (.ldc2_w 7, 3) := g_dec dt136_L_at_ok (k := 5) rfl
theorem dL_at_8 : decode cL_at 8 = .ok (.land, 1) := g_dec dt136_L_at_ok (k := 6) rfl
theorem dL_at_9 : decode cL_at 9 = .ok (.l2i, 1) := g_dec dt136_L_at_ok (k := 7) rfl
theorem dL_at_10 : decode cL_at 10 = .ok (.ireturn, 1) := g_dec dt136_L_at_ok (k := 8) rfl
def dt137_L_fits : List (Nat × Instr × Nat) := [(22, (.ireturn, 1)), (0, (.lload_n 3, 1)), (1, (.aload_n 1, 1)), (2, (.iload_n 2, 1)), (3, (.laload, 1)), (4, (.lxor, 1)), (5, (.aload_n 0, 1)), (6, (.iload_n 2, 1)), (7, (.iaload, 1)), (8, (.invokestatic 9, 3)), (11, (.land, 1)), (12, (.lconst 0, 1)), (13, (.lcmp, 1)), (14, (.ifCond .ne 7, 3)), (21, (.iconst 0, 1)), (17, (.iconst 1, 1)), (18, (.goto 4, 3))]
theorem dt137_L_fits_ok : ∀ q ∈ dt137_L_fits, decode cL_fits q.1 = .ok q.2 := by decide +kernel
theorem dL_fits_22 : decode cL_fits 22 = .ok (.ireturn, 1) := g_dec dt137_L_fits_ok (k := 0) rfl
theorem dL_fits_0 : decode cL_fits 0 = .ok (.lload_n 3, 1) := g_dec dt137_L_fits_ok (k := 1) rfl
theorem dL_fits_1 : decode cL_fits 1 = .ok (.aload_n 1, 1) := g_dec dt137_L_fits_ok (k := 2) rfl
theorem dL_fits_2 : decode cL_fits 2 = .ok (.iload_n 2, 1) := g_dec dt137_L_fits_ok (k := 3) rfl
theorem dL_fits_3 : decode cL_fits 3 = .ok (.laload, 1) := g_dec dt137_L_fits_ok (k := 4) rfl
theorem dL_fits_4 : decode cL_fits 4 = .ok (.lxor, 1) := g_dec dt137_L_fits_ok (k := 5) rfl
theorem dL_fits_5 : decode cL_fits 5 = .ok (.aload_n 0, 1) := g_dec dt137_L_fits_ok (k := 6) rfl
theorem dL_fits_6 : decode cL_fits 6 = .ok (.iload_n 2, 1) := g_dec dt137_L_fits_ok (k := 7) rfl
theorem dL_fits_7 : decode cL_fits 7 = .ok (.iaload, 1) := g_dec dt137_L_fits_ok (k := 8) rfl
theorem dL_fits_8 : decode cL_fits 8 = .ok (.invokestatic 9, 3) := g_dec dt137_L_fits_ok (k := 9) rfl
theorem dL_fits_11 : decode cL_fits 11 = .ok (.land, 1) := g_dec dt137_L_fits_ok (k := 10) rfl
theorem dL_fits_12 : decode cL_fits 12 = .ok (.lconst 0, 1) := g_dec dt137_L_fits_ok (k := 11) rfl
theorem dL_fits_13 : decode cL_fits 13 = .ok (.lcmp, 1) := g_dec dt137_L_fits_ok (k := 12) rfl
theorem dL_fits_14 : decode cL_fits 14 = .ok (.ifCond .ne 7, 3) := g_dec dt137_L_fits_ok (k := 13) rfl
theorem dL_fits_21 : decode cL_fits 21 = .ok (.iconst 0, 1) := g_dec dt137_L_fits_ok (k := 14) rfl
theorem dL_fits_17 : decode cL_fits 17 = .ok (.iconst 1, 1) := g_dec dt137_L_fits_ok (k := 15) rfl
theorem dL_fits_18 : decode cL_fits 18 = .ok (.goto 4, 3) := g_dec dt137_L_fits_ok (k := 16) rfl
def dt138_L_onto : List (Nat × Instr × Nat) := [(0, (.lload_n 3, 1)), (1, (.aload_n 0, 1)), (2, (.iload_n 2, 1)), (3, (.iaload, 1)), (4, (.invokestatic 9, 3)), (7, (.ldc2_w 15, 3)), (10, (.lxor, 1)), (11, (.land, 1)), (12, (.aload_n 1, 1)), (13, (.iload_n 2, 1)), (14, (.laload, 1)), (15, (.lor, 1)), (16, (.lreturn, 1))]
theorem dt138_L_onto_ok : ∀ q ∈ dt138_L_onto, decode cL_onto q.1 = .ok q.2 := by decide +kernel
theorem dL_onto_0 : decode cL_onto 0 = .ok (.lload_n 3, 1) := g_dec dt138_L_onto_ok (k := 0) rfl
theorem dL_onto_1 : decode cL_onto 1 = .ok (.aload_n 0, 1) := g_dec dt138_L_onto_ok (k := 1) rfl
theorem dL_onto_2 : decode cL_onto 2 = .ok (.iload_n 2, 1) := g_dec dt138_L_onto_ok (k := 2) rfl
theorem dL_onto_3 : decode cL_onto 3 = .ok (.iaload, 1) := g_dec dt138_L_onto_ok (k := 3) rfl
theorem dL_onto_4 : decode cL_onto 4 = .ok (.invokestatic 9, 3) := g_dec dt138_L_onto_ok (k := 4) rfl
theorem dL_onto_7 : decode cL_onto 7 = .ok (.ldc2_w 15, 3) := g_dec dt138_L_onto_ok (k := 5) rfl
theorem dL_onto_10 : decode cL_onto 10 = .ok (.lxor, 1) := g_dec dt138_L_onto_ok (k := 6) rfl
theorem dL_onto_11 : decode cL_onto 11 = .ok (.land, 1) := g_dec dt138_L_onto_ok (k := 7) rfl
theorem dL_onto_12 : decode cL_onto 12 = .ok (.aload_n 1, 1) := g_dec dt138_L_onto_ok (k := 8) rfl
theorem dL_onto_13 : decode cL_onto 13 = .ok (.iload_n 2, 1) := g_dec dt138_L_onto_ok (k := 9) rfl
theorem dL_onto_14 : decode cL_onto 14 = .ok (.laload, 1) := g_dec dt138_L_onto_ok (k := 10) rfl
theorem dL_onto_15 : decode cL_onto 15 = .ok (.lor, 1) := g_dec dt138_L_onto_ok (k := 11) rfl
theorem dL_onto_16 : decode cL_onto 16 = .ok (.lreturn, 1) := g_dec dt138_L_onto_ok (k := 12) rfl
def dt139_L_required : List (Nat × Instr × Nat) := [(148, (.ior, 1)), (149, (.istore 6, 2)), (151, (.iinc 7 1, 3)), (154, (.goto (-103), 3)), (126, (.istore 9, 2)), (128, (.iload 6, 2)), (130, (.iload 9, 2)), (132, (.ifCond .eq 15, 3)), (147, (.iconst 0, 1)), (135, (.iconst 1, 1)), (136, (.aload 4, 2)), (138, (.iload 7, 2)), (140, (.iaload, 1)), (141, (.iconst 4, 1)), (142, (.irem, 1)), (143, (.ishl, 1)), (144, (.goto 4, 3)), (121, (.iconst 1, 1)), (122, (.goto 4, 3)), (125, (.iconst 0, 1)), (51, (.iload 7, 2)), (53, (.aload_n 0, 1)), (54, (.iconst 3, 1)), (55, (.iaload, 1)), (56, (.if_icmp .ge 101, 3)), (157, (.iload 6, 2)), (159, (.ireturn, 1)), (59, (.aload 4, 2)), (61, (.iload 7, 2)), (63, (.iaload, 1)), (64, (.bipush 16, 2)), (66, (.idiv, 1)), (67, (.istore 8, 2)), (69, (.aload 4, 2)), (71, (.iload 7, 2)), (73, (.iaload, 1)), (74, (.iconst 4, 1)), (75, (.idiv, 1)), (76, (.iconst 4, 1)), (77, (.irem, 1)), (78, (.ifCond .eq 43, 3)), (81, (.aload 4, 2)), (83, (.iload 7, 2)), (85, (.iaload, 1)), (86, (.iconst 4, 1)), (87, (.idiv, 1)), (88, (.iconst 4, 1)), (89, (.irem, 1)), (90, (.iconst 1, 1)), (91, (.if_icmp .ne 19, 3)), (110, (.aload_n 1, 1)), (111, (.iload 5, 2)), (113, (.iaload, 1)), (114, (.iconst 3, 1)), (115, (.irem, 1)), (116, (.iload 8, 2)), (118, (.if_icmp .ne 7, 3)), (94, (.aload_n 2, 1)), (95, (.iload 5, 2)), (97, (.iaload, 1))]
theorem dt139_L_required_ok : ∀ q ∈ dt139_L_required, decode cL_required q.1 = .ok q.2 := by decide +kernel
theorem dL_required_148 : decode cL_required 148 = .ok (.ior, 1) := g_dec dt139_L_required_ok (k := 0) rfl
theorem dL_required_149 : decode cL_required 149 = .ok (.istore 6, 2) := g_dec dt139_L_required_ok (k := 1) rfl
theorem dL_required_151 : decode cL_required 151 = .ok (.iinc 7 1, 3) := g_dec dt139_L_required_ok (k := 2) rfl
theorem dL_required_154 : decode cL_required 154 = .ok (.goto (-103), 3) := g_dec dt139_L_required_ok (k := 3) rfl
theorem dL_required_126 : decode cL_required 126 = .ok (.istore 9, 2) := g_dec dt139_L_required_ok (k := 4) rfl
theorem dL_required_128 : decode cL_required 128 = .ok (.iload 6, 2) := g_dec dt139_L_required_ok (k := 5) rfl
theorem dL_required_130 : decode cL_required 130 = .ok (.iload 9, 2) := g_dec dt139_L_required_ok (k := 6) rfl
theorem dL_required_132 : decode cL_required 132 = .ok (.ifCond .eq 15, 3) := g_dec dt139_L_required_ok (k := 7) rfl
theorem dL_required_147 : decode cL_required 147 = .ok (.iconst 0, 1) := g_dec dt139_L_required_ok (k := 8) rfl
theorem dL_required_135 : decode cL_required 135 = .ok (.iconst 1, 1) := g_dec dt139_L_required_ok (k := 9) rfl
theorem dL_required_136 : decode cL_required 136 = .ok (.aload 4, 2) := g_dec dt139_L_required_ok (k := 10) rfl
theorem dL_required_138 : decode cL_required 138 = .ok (.iload 7, 2) := g_dec dt139_L_required_ok (k := 11) rfl
theorem dL_required_140 : decode cL_required 140 = .ok (.iaload, 1) := g_dec dt139_L_required_ok (k := 12) rfl
theorem dL_required_141 : decode cL_required 141 = .ok (.iconst 4, 1) := g_dec dt139_L_required_ok (k := 13) rfl
theorem dL_required_142 : decode cL_required 142 = .ok (.irem, 1) := g_dec dt139_L_required_ok (k := 14) rfl
theorem dL_required_143 : decode cL_required 143 = .ok (.ishl, 1) := g_dec dt139_L_required_ok (k := 15) rfl
theorem dL_required_144 : decode cL_required 144 = .ok (.goto 4, 3) := g_dec dt139_L_required_ok (k := 16) rfl
theorem dL_required_121 : decode cL_required 121 = .ok (.iconst 1, 1) := g_dec dt139_L_required_ok (k := 17) rfl
theorem dL_required_122 : decode cL_required 122 = .ok (.goto 4, 3) := g_dec dt139_L_required_ok (k := 18) rfl
theorem dL_required_125 : decode cL_required 125 = .ok (.iconst 0, 1) := g_dec dt139_L_required_ok (k := 19) rfl
theorem dL_required_51 : decode cL_required 51 = .ok (.iload 7, 2) := g_dec dt139_L_required_ok (k := 20) rfl
theorem dL_required_53 : decode cL_required 53 = .ok (.aload_n 0, 1) := g_dec dt139_L_required_ok (k := 21) rfl
theorem dL_required_54 : decode cL_required 54 = .ok (.iconst 3, 1) := g_dec dt139_L_required_ok (k := 22) rfl
theorem dL_required_55 : decode cL_required 55 = .ok (.iaload, 1) := g_dec dt139_L_required_ok (k := 23) rfl
theorem dL_required_56 : decode cL_required 56 = .ok (.if_icmp .ge 101, 3) := g_dec dt139_L_required_ok (k := 24) rfl
theorem dL_required_157 : decode cL_required 157 = .ok (.iload 6, 2) := g_dec dt139_L_required_ok (k := 25) rfl
theorem dL_required_159 : decode cL_required 159 = .ok (.ireturn, 1) := g_dec dt139_L_required_ok (k := 26) rfl
theorem dL_required_59 : decode cL_required 59 = .ok (.aload 4, 2) := g_dec dt139_L_required_ok (k := 27) rfl
theorem dL_required_61 : decode cL_required 61 = .ok (.iload 7, 2) := g_dec dt139_L_required_ok (k := 28) rfl
theorem dL_required_63 : decode cL_required 63 = .ok (.iaload, 1) := g_dec dt139_L_required_ok (k := 29) rfl
theorem dL_required_64 : decode cL_required 64 = .ok (.bipush 16, 2) := g_dec dt139_L_required_ok (k := 30) rfl
theorem dL_required_66 : decode cL_required 66 = .ok (.idiv, 1) := g_dec dt139_L_required_ok (k := 31) rfl
theorem dL_required_67 : decode cL_required 67 = .ok (.istore 8, 2) := g_dec dt139_L_required_ok (k := 32) rfl
theorem dL_required_69 : decode cL_required 69 = .ok (.aload 4, 2) := g_dec dt139_L_required_ok (k := 33) rfl
theorem dL_required_71 : decode cL_required 71 = .ok (.iload 7, 2) := g_dec dt139_L_required_ok (k := 34) rfl
theorem dL_required_73 : decode cL_required 73 = .ok (.iaload, 1) := g_dec dt139_L_required_ok (k := 35) rfl
theorem dL_required_74 : decode cL_required 74 = .ok (.iconst 4, 1) := g_dec dt139_L_required_ok (k := 36) rfl
theorem dL_required_75 : decode cL_required 75 = .ok (.idiv, 1) := g_dec dt139_L_required_ok (k := 37) rfl
theorem dL_required_76 : decode cL_required 76 = .ok (.iconst 4, 1) := g_dec dt139_L_required_ok (k := 38) rfl
theorem dL_required_77 : decode cL_required 77 = .ok (.irem, 1) := g_dec dt139_L_required_ok (k := 39) rfl
theorem dL_required_78 : decode cL_required 78 = .ok (.ifCond .eq 43, 3) := g_dec dt139_L_required_ok (k := 40) rfl
theorem dL_required_81 : decode cL_required 81 = .ok (.aload 4, 2) := g_dec dt139_L_required_ok (k := 41) rfl
theorem dL_required_83 : decode cL_required 83 = .ok (.iload 7, 2) := g_dec dt139_L_required_ok (k := 42) rfl
theorem dL_required_85 : decode cL_required 85 = .ok (.iaload, 1) := g_dec dt139_L_required_ok (k := 43) rfl
theorem dL_required_86 : decode cL_required 86 = .ok (.iconst 4, 1) := g_dec dt139_L_required_ok (k := 44) rfl
theorem dL_required_87 : decode cL_required 87 = .ok (.idiv, 1) := g_dec dt139_L_required_ok (k := 45) rfl
theorem dL_required_88 : decode cL_required 88 = .ok (.iconst 4, 1) := g_dec dt139_L_required_ok (k := 46) rfl
theorem dL_required_89 : decode cL_required 89 = .ok (.irem, 1) := g_dec dt139_L_required_ok (k := 47) rfl
theorem dL_required_90 : decode cL_required 90 = .ok (.iconst 1, 1) := g_dec dt139_L_required_ok (k := 48) rfl
theorem dL_required_91 : decode cL_required 91 = .ok (.if_icmp .ne 19, 3) := g_dec dt139_L_required_ok (k := 49) rfl
theorem dL_required_110 : decode cL_required 110 = .ok (.aload_n 1, 1) := g_dec dt139_L_required_ok (k := 50) rfl
theorem dL_required_111 : decode cL_required 111 = .ok (.iload 5, 2) := g_dec dt139_L_required_ok (k := 51) rfl
theorem dL_required_113 : decode cL_required 113 = .ok (.iaload, 1) := g_dec dt139_L_required_ok (k := 52) rfl
theorem dL_required_114 : decode cL_required 114 = .ok (.iconst 3, 1) := g_dec dt139_L_required_ok (k := 53) rfl
theorem dL_required_115 : decode cL_required 115 = .ok (.irem, 1) := g_dec dt139_L_required_ok (k := 54) rfl
theorem dL_required_116 : decode cL_required 116 = .ok (.iload 8, 2) := g_dec dt139_L_required_ok (k := 55) rfl
theorem dL_required_118 : decode cL_required 118 = .ok (.if_icmp .ne 7, 3) := g_dec dt139_L_required_ok (k := 56) rfl
theorem dL_required_94 : decode cL_required 94 = .ok (.aload_n 2, 1) := g_dec dt139_L_required_ok (k := 57) rfl
theorem dL_required_95 : decode cL_required 95 = .ok (.iload 5, 2) := g_dec dt139_L_required_ok (k := 58) rfl
theorem dL_required_97 : decode cL_required 97 = .ok (.iaload, 1) := g_dec dt139_L_required_ok (k := 59) rfl
def dt140_L_required : List (Nat × Instr × Nat) := [(98, (.iload 8, 2)), (100, (.ishr, 1)), (101, (.iconst 1, 1)), (102, (.iand, 1)), (103, (.iconst 1, 1)), (104, (.if_icmp .ne 21, 3)), (107, (.goto 14, 3)), (39, (.ior, 1)), (40, (.istore 6, 2)), (42, (.iinc 7 1, 3)), (45, (.goto (-39), 3)), (6, (.iload 7, 2)), (8, (.aload_n 0, 1)), (9, (.iconst 2, 1)), (10, (.iaload, 1)), (11, (.if_icmp .ge 37, 3)), (48, (.iconst 0, 1)), (49, (.istore 7, 2)), (14, (.iload 6, 2)), (16, (.aload_n 3, 1)), (17, (.bipush 12, 2)), (19, (.iload 7, 2)), (21, (.imul, 1)), (22, (.iaload, 1)), (23, (.aload_n 2, 1)), (24, (.iload 5, 2)), (26, (.iaload, 1)), (27, (.iand, 1)), (28, (.ifCond .eq 10, 3)), (38, (.iconst 0, 1)), (31, (.iconst 1, 1)), (32, (.iload 7, 2)), (34, (.ishl, 1)), (35, (.goto 4, 3)), (0, (.iconst 0, 1)), (1, (.istore 6, 2)), (3, (.iconst 0, 1)), (4, (.istore 7, 2))]
theorem dt140_L_required_ok : ∀ q ∈ dt140_L_required, decode cL_required q.1 = .ok q.2 := by decide +kernel
theorem dL_required_98 : decode cL_required 98 = .ok (.iload 8, 2) := g_dec dt140_L_required_ok (k := 0) rfl
theorem dL_required_100 : decode cL_required 100 = .ok (.ishr, 1) := g_dec dt140_L_required_ok (k := 1) rfl
theorem dL_required_101 : decode cL_required 101 = .ok (.iconst 1, 1) := g_dec dt140_L_required_ok (k := 2) rfl
theorem dL_required_102 : decode cL_required 102 = .ok (.iand, 1) := g_dec dt140_L_required_ok (k := 3) rfl
theorem dL_required_103 : decode cL_required 103 = .ok (.iconst 1, 1) := g_dec dt140_L_required_ok (k := 4) rfl
theorem dL_required_104 : decode cL_required 104 = .ok (.if_icmp .ne 21, 3) := g_dec dt140_L_required_ok (k := 5) rfl
theorem dL_required_107 : decode cL_required 107 = .ok (.goto 14, 3) := g_dec dt140_L_required_ok (k := 6) rfl
theorem dL_required_39 : decode cL_required 39 = .ok (.ior, 1) := g_dec dt140_L_required_ok (k := 7) rfl
theorem dL_required_40 : decode cL_required 40 = .ok (.istore 6, 2) := g_dec dt140_L_required_ok (k := 8) rfl
theorem dL_required_42 : decode cL_required 42 = .ok (.iinc 7 1, 3) := g_dec dt140_L_required_ok (k := 9) rfl
theorem dL_required_45 : decode cL_required 45 = .ok (.goto (-39), 3) := g_dec dt140_L_required_ok (k := 10) rfl
theorem dL_required_6 : decode cL_required 6 = .ok (.iload 7, 2) := g_dec dt140_L_required_ok (k := 11) rfl
theorem dL_required_8 : decode cL_required 8 = .ok (.aload_n 0, 1) := g_dec dt140_L_required_ok (k := 12) rfl
theorem dL_required_9 : decode cL_required 9 = .ok (.iconst 2, 1) := g_dec dt140_L_required_ok (k := 13) rfl
theorem dL_required_10 : decode cL_required 10 = .ok (.iaload, 1) := g_dec dt140_L_required_ok (k := 14) rfl
theorem dL_required_11 : decode cL_required 11 = .ok (.if_icmp .ge 37, 3) := g_dec dt140_L_required_ok (k := 15) rfl
theorem dL_required_48 : decode cL_required 48 = .ok (.iconst 0, 1) := g_dec dt140_L_required_ok (k := 16) rfl
theorem dL_required_49 : decode cL_required 49 = .ok (.istore 7, 2) := g_dec dt140_L_required_ok (k := 17) rfl
theorem dL_required_14 : decode cL_required 14 = .ok (.iload 6, 2) := g_dec dt140_L_required_ok (k := 18) rfl
theorem dL_required_16 : decode cL_required 16 = .ok (.aload_n 3, 1) := g_dec dt140_L_required_ok (k := 19) rfl
theorem dL_required_17 : decode cL_required 17 = .ok (.bipush 12, 2) := g_dec dt140_L_required_ok (k := 20) rfl
theorem dL_required_19 : decode cL_required 19 = .ok (.iload 7, 2) := g_dec dt140_L_required_ok (k := 21) rfl
theorem dL_required_21 : decode cL_required 21 = .ok (.imul, 1) := g_dec dt140_L_required_ok (k := 22) rfl
theorem dL_required_22 : decode cL_required 22 = .ok (.iaload, 1) := g_dec dt140_L_required_ok (k := 23) rfl
theorem dL_required_23 : decode cL_required 23 = .ok (.aload_n 2, 1) := g_dec dt140_L_required_ok (k := 24) rfl
theorem dL_required_24 : decode cL_required 24 = .ok (.iload 5, 2) := g_dec dt140_L_required_ok (k := 25) rfl
theorem dL_required_26 : decode cL_required 26 = .ok (.iaload, 1) := g_dec dt140_L_required_ok (k := 26) rfl
theorem dL_required_27 : decode cL_required 27 = .ok (.iand, 1) := g_dec dt140_L_required_ok (k := 27) rfl
theorem dL_required_28 : decode cL_required 28 = .ok (.ifCond .eq 10, 3) := g_dec dt140_L_required_ok (k := 28) rfl
theorem dL_required_38 : decode cL_required 38 = .ok (.iconst 0, 1) := g_dec dt140_L_required_ok (k := 29) rfl
theorem dL_required_31 : decode cL_required 31 = .ok (.iconst 1, 1) := g_dec dt140_L_required_ok (k := 30) rfl
theorem dL_required_32 : decode cL_required 32 = .ok (.iload 7, 2) := g_dec dt140_L_required_ok (k := 31) rfl
theorem dL_required_34 : decode cL_required 34 = .ok (.ishl, 1) := g_dec dt140_L_required_ok (k := 32) rfl
theorem dL_required_35 : decode cL_required 35 = .ok (.goto 4, 3) := g_dec dt140_L_required_ok (k := 33) rfl
theorem dL_required_0 : decode cL_required 0 = .ok (.iconst 0, 1) := g_dec dt140_L_required_ok (k := 34) rfl
theorem dL_required_1 : decode cL_required 1 = .ok (.istore 6, 2) := g_dec dt140_L_required_ok (k := 35) rfl
theorem dL_required_3 : decode cL_required 3 = .ok (.iconst 0, 1) := g_dec dt140_L_required_ok (k := 36) rfl
theorem dL_required_4 : decode cL_required 4 = .ok (.istore 7, 2) := g_dec dt140_L_required_ok (k := 37) rfl
def dt141_L_key : List (Nat × Instr × Nat) := [(0, (.lload_n 2, 1)), (1, (.aload_n 0, 1)), (2, (.bipush 12, 2)), (4, (.iload_n 1, 1)), (5, (.imul, 1)), (6, (.iaload, 1)), (7, (.invokestatic 9, 3)), (10, (.land, 1)), (11, (.iload_n 1, 1)), (12, (.i2l, 1)), (13, (.bipush 50, 2)), (15, (.lshl, 1)), (16, (.lor, 1)), (17, (.lreturn, 1))]
theorem dt141_L_key_ok : ∀ q ∈ dt141_L_key, decode cL_key q.1 = .ok q.2 := by decide +kernel
theorem dL_key_0 : decode cL_key 0 = .ok (.lload_n 2, 1) := g_dec dt141_L_key_ok (k := 0) rfl
theorem dL_key_1 : decode cL_key 1 = .ok (.aload_n 0, 1) := g_dec dt141_L_key_ok (k := 1) rfl
theorem dL_key_2 : decode cL_key 2 = .ok (.bipush 12, 2) := g_dec dt141_L_key_ok (k := 2) rfl
theorem dL_key_4 : decode cL_key 4 = .ok (.iload_n 1, 1) := g_dec dt141_L_key_ok (k := 3) rfl
theorem dL_key_5 : decode cL_key 5 = .ok (.imul, 1) := g_dec dt141_L_key_ok (k := 4) rfl
theorem dL_key_6 : decode cL_key 6 = .ok (.iaload, 1) := g_dec dt141_L_key_ok (k := 5) rfl
theorem dL_key_7 : decode cL_key 7 = .ok (.invokestatic 9, 3) := g_dec dt141_L_key_ok (k := 6) rfl
theorem dL_key_10 : decode cL_key 10 = .ok (.land, 1) := g_dec dt141_L_key_ok (k := 7) rfl
theorem dL_key_11 : decode cL_key 11 = .ok (.iload_n 1, 1) := g_dec dt141_L_key_ok (k := 8) rfl
theorem dL_key_12 : decode cL_key 12 = .ok (.i2l, 1) := g_dec dt141_L_key_ok (k := 9) rfl
theorem dL_key_13 : decode cL_key 13 = .ok (.bipush 50, 2) := g_dec dt141_L_key_ok (k := 10) rfl
theorem dL_key_15 : decode cL_key 15 = .ok (.lshl, 1) := g_dec dt141_L_key_ok (k := 11) rfl
theorem dL_key_16 : decode cL_key 16 = .ok (.lor, 1) := g_dec dt141_L_key_ok (k := 12) rfl
theorem dL_key_17 : decode cL_key 17 = .ok (.lreturn, 1) := g_dec dt141_L_key_ok (k := 13) rfl
def dt142_L_entry : List (Nat × Instr × Nat) := [(30, (.istore 4, 2)), (32, (.iinc 5 1, 3)), (35, (.goto (-29), 3)), (6, (.iload 5, 2)), (8, (.aload_n 0, 1)), (9, (.iconst 4, 1)), (10, (.iaload, 1)), (11, (.if_icmp .ge 27, 3)), (38, (.iload 4, 2)), (40, (.ireturn, 1)), (14, (.aload_n 1, 1)), (15, (.iload 5, 2)), (17, (.laload, 1)), (18, (.lload_n 2, 1)), (19, (.lcmp, 1)), (20, (.ifCond .ne 8, 3)), (28, (.iload 4, 2)), (23, (.iload 5, 2)), (25, (.goto 5, 3)), (0, (.iconst (-1), 1)), (1, (.istore 4, 2)), (3, (.iconst 0, 1)), (4, (.istore 5, 2))]
theorem dt142_L_entry_ok : ∀ q ∈ dt142_L_entry, decode cL_entry q.1 = .ok q.2 := by decide +kernel
theorem dL_entry_30 : decode cL_entry 30 = .ok (.istore 4, 2) := g_dec dt142_L_entry_ok (k := 0) rfl
theorem dL_entry_32 : decode cL_entry 32 = .ok (.iinc 5 1, 3) := g_dec dt142_L_entry_ok (k := 1) rfl
theorem dL_entry_35 : decode cL_entry 35 = .ok (.goto (-29), 3) := g_dec dt142_L_entry_ok (k := 2) rfl
theorem dL_entry_6 : decode cL_entry 6 = .ok (.iload 5, 2) := g_dec dt142_L_entry_ok (k := 3) rfl
theorem dL_entry_8 : decode cL_entry 8 = .ok (.aload_n 0, 1) := g_dec dt142_L_entry_ok (k := 4) rfl
theorem dL_entry_9 : decode cL_entry 9 = .ok (.iconst 4, 1) := g_dec dt142_L_entry_ok (k := 5) rfl
theorem dL_entry_10 : decode cL_entry 10 = .ok (.iaload, 1) := g_dec dt142_L_entry_ok (k := 6) rfl
theorem dL_entry_11 : decode cL_entry 11 = .ok (.if_icmp .ge 27, 3) := g_dec dt142_L_entry_ok (k := 7) rfl
theorem dL_entry_38 : decode cL_entry 38 = .ok (.iload 4, 2) := g_dec dt142_L_entry_ok (k := 8) rfl
theorem dL_entry_40 : decode cL_entry 40 = .ok (.ireturn, 1) := g_dec dt142_L_entry_ok (k := 9) rfl
theorem dL_entry_14 : decode cL_entry 14 = .ok (.aload_n 1, 1) := g_dec dt142_L_entry_ok (k := 10) rfl
theorem dL_entry_15 : decode cL_entry 15 = .ok (.iload 5, 2) := g_dec dt142_L_entry_ok (k := 11) rfl
theorem dL_entry_17 : decode cL_entry 17 = .ok (.laload, 1) := g_dec dt142_L_entry_ok (k := 12) rfl
theorem dL_entry_18 : decode cL_entry 18 = .ok (.lload_n 2, 1) := g_dec dt142_L_entry_ok (k := 13) rfl
theorem dL_entry_19 : decode cL_entry 19 = .ok (.lcmp, 1) := g_dec dt142_L_entry_ok (k := 14) rfl
theorem dL_entry_20 : decode cL_entry 20 = .ok (.ifCond .ne 8, 3) := g_dec dt142_L_entry_ok (k := 15) rfl
theorem dL_entry_28 : decode cL_entry 28 = .ok (.iload 4, 2) := g_dec dt142_L_entry_ok (k := 16) rfl
theorem dL_entry_23 : decode cL_entry 23 = .ok (.iload 5, 2) := g_dec dt142_L_entry_ok (k := 17) rfl
theorem dL_entry_25 : decode cL_entry 25 = .ok (.goto 5, 3) := g_dec dt142_L_entry_ok (k := 18) rfl
theorem dL_entry_0 : decode cL_entry 0 = .ok (.iconst (-1), 1) := g_dec dt142_L_entry_ok (k := 19) rfl
theorem dL_entry_1 : decode cL_entry 1 = .ok (.istore 4, 2) := g_dec dt142_L_entry_ok (k := 20) rfl
theorem dL_entry_3 : decode cL_entry 3 = .ok (.iconst 0, 1) := g_dec dt142_L_entry_ok (k := 21) rfl
theorem dL_entry_4 : decode cL_entry 4 = .ok (.istore 5, 2) := g_dec dt142_L_entry_ok (k := 22) rfl
def dt143_L_verdict : List (Nat × Instr × Nat) := [(30, (.ireturn, 1)), (0, (.aload_n 0, 1)), (1, (.aload_n 2, 1)), (2, (.aload_n 1, 1)), (3, (.iload 4, 2)), (5, (.lload 5, 2)), (7, (.invokestatic 17, 3)), (10, (.invokestatic 21, 3)), (13, (.istore 7, 2)), (15, (.iload 7, 2)), (17, (.ifCond .ge 7, 3)), (24, (.aload_n 3, 1)), (25, (.iload 7, 2)), (27, (.iaload, 1)), (28, (.iconst 4, 1)), (29, (.irem, 1)), (20, (.iconst 0, 1)), (21, (.goto 9, 3))]
theorem dt143_L_verdict_ok : ∀ q ∈ dt143_L_verdict, decode cL_verdict q.1 = .ok q.2 := by decide +kernel
theorem dL_verdict_30 : decode cL_verdict 30 = .ok (.ireturn, 1) := g_dec dt143_L_verdict_ok (k := 0) rfl
theorem dL_verdict_0 : decode cL_verdict 0 = .ok (.aload_n 0, 1) := g_dec dt143_L_verdict_ok (k := 1) rfl
theorem dL_verdict_1 : decode cL_verdict 1 = .ok (.aload_n 2, 1) := g_dec dt143_L_verdict_ok (k := 2) rfl
theorem dL_verdict_2 : decode cL_verdict 2 = .ok (.aload_n 1, 1) := g_dec dt143_L_verdict_ok (k := 3) rfl
theorem dL_verdict_3 : decode cL_verdict 3 = .ok (.iload 4, 2) := g_dec dt143_L_verdict_ok (k := 4) rfl
theorem dL_verdict_5 : decode cL_verdict 5 = .ok (.lload 5, 2) := g_dec dt143_L_verdict_ok (k := 5) rfl
theorem dL_verdict_7 : decode cL_verdict 7 = .ok (.invokestatic 17, 3) := g_dec dt143_L_verdict_ok (k := 6) rfl
theorem dL_verdict_10 : decode cL_verdict 10 = .ok (.invokestatic 21, 3) := g_dec dt143_L_verdict_ok (k := 7) rfl
theorem dL_verdict_13 : decode cL_verdict 13 = .ok (.istore 7, 2) := g_dec dt143_L_verdict_ok (k := 8) rfl
theorem dL_verdict_15 : decode cL_verdict 15 = .ok (.iload 7, 2) := g_dec dt143_L_verdict_ok (k := 9) rfl
theorem dL_verdict_17 : decode cL_verdict 17 = .ok (.ifCond .ge 7, 3) := g_dec dt143_L_verdict_ok (k := 10) rfl
theorem dL_verdict_24 : decode cL_verdict 24 = .ok (.aload_n 3, 1) := g_dec dt143_L_verdict_ok (k := 11) rfl
theorem dL_verdict_25 : decode cL_verdict 25 = .ok (.iload 7, 2) := g_dec dt143_L_verdict_ok (k := 12) rfl
theorem dL_verdict_27 : decode cL_verdict 27 = .ok (.iaload, 1) := g_dec dt143_L_verdict_ok (k := 13) rfl
theorem dL_verdict_28 : decode cL_verdict 28 = .ok (.iconst 4, 1) := g_dec dt143_L_verdict_ok (k := 14) rfl
theorem dL_verdict_29 : decode cL_verdict 29 = .ok (.irem, 1) := g_dec dt143_L_verdict_ok (k := 15) rfl
theorem dL_verdict_20 : decode cL_verdict 20 = .ok (.iconst 0, 1) := g_dec dt143_L_verdict_ok (k := 16) rfl
theorem dL_verdict_21 : decode cL_verdict 21 = .ok (.goto 9, 3) := g_dec dt143_L_verdict_ok (k := 17) rfl
def dt144_L_verdicts : List (Nat × Instr × Nat) := [(101, (.ireturn, 1)), (73, (.iadd, 1)), (74, (.istore 8, 2)), (76, (.iinc 9 1, 3)), (79, (.goto (-70), 3)), (57, (.iadd, 1)), (58, (.istore 7, 2)), (60, (.iload 8, 2)), (62, (.iload 10, 2)), (64, (.iconst 2, 1)), (65, (.if_icmp .ne 7, 3)), (72, (.iconst 0, 1)), (68, (.iconst 1, 1)), (69, (.goto 4, 3)), (43, (.istore 10, 2)), (45, (.iload 7, 2)), (47, (.iload 10, 2)), (49, (.ifCond .ne 7, 3)), (56, (.iconst 0, 1)), (52, (.iconst 1, 1)), (53, (.goto 4, 3)), (9, (.iload 9, 2)), (11, (.aload_n 0, 1)), (12, (.iconst 2, 1)), (13, (.iaload, 1)), (14, (.if_icmp .ge 68, 3)), (82, (.iload 8, 2)), (84, (.ifCond .le 7, 3)), (91, (.iload 7, 2)), (93, (.ifCond .le 7, 3)), (100, (.iconst 1, 1)), (96, (.iconst 0, 1)), (97, (.goto 4, 3)), (87, (.iconst 2, 1)), (88, (.goto 13, 3)), (17, (.iload 4, 2)), (19, (.iload 9, 2)), (21, (.ishr, 1)), (22, (.iconst 1, 1)), (23, (.iand, 1)), (24, (.iconst 1, 1)), (25, (.if_icmp .ne 17, 3)), (42, (.iconst 1, 1)), (28, (.aload_n 0, 1)), (29, (.aload_n 1, 1)), (30, (.aload_n 2, 1)), (31, (.aload_n 3, 1)), (32, (.iload 9, 2)), (34, (.lload 5, 2)), (36, (.invokestatic 25, 3)), (39, (.goto 4, 3)), (0, (.iconst 0, 1)), (1, (.istore 7, 2)), (3, (.iconst 0, 1)), (4, (.istore 8, 2)), (6, (.iconst 0, 1)), (7, (.istore 9, 2))]
theorem dt144_L_verdicts_ok : ∀ q ∈ dt144_L_verdicts, decode cL_verdicts q.1 = .ok q.2 := by decide +kernel
theorem dL_verdicts_101 : decode cL_verdicts 101 = .ok (.ireturn, 1) := g_dec dt144_L_verdicts_ok (k := 0) rfl
theorem dL_verdicts_73 : decode cL_verdicts 73 = .ok (.iadd, 1) := g_dec dt144_L_verdicts_ok (k := 1) rfl
theorem dL_verdicts_74 : decode cL_verdicts 74 = .ok (.istore 8, 2) := g_dec dt144_L_verdicts_ok (k := 2) rfl
theorem dL_verdicts_76 : decode cL_verdicts 76 = .ok (.iinc 9 1, 3) := g_dec dt144_L_verdicts_ok (k := 3) rfl
theorem dL_verdicts_79 : decode cL_verdicts 79 = .ok (.goto (-70), 3) := g_dec dt144_L_verdicts_ok (k := 4) rfl
theorem dL_verdicts_57 : decode cL_verdicts 57 = .ok (.iadd, 1) := g_dec dt144_L_verdicts_ok (k := 5) rfl
theorem dL_verdicts_58 : decode cL_verdicts 58 = .ok (.istore 7, 2) := g_dec dt144_L_verdicts_ok (k := 6) rfl
theorem dL_verdicts_60 : decode cL_verdicts 60 = .ok (.iload 8, 2) := g_dec dt144_L_verdicts_ok (k := 7) rfl
theorem dL_verdicts_62 : decode cL_verdicts 62 = .ok (.iload 10, 2) := g_dec dt144_L_verdicts_ok (k := 8) rfl
theorem dL_verdicts_64 : decode cL_verdicts 64 = .ok (.iconst 2, 1) := g_dec dt144_L_verdicts_ok (k := 9) rfl
theorem dL_verdicts_65 : decode cL_verdicts 65 = .ok (.if_icmp .ne 7, 3) := g_dec dt144_L_verdicts_ok (k := 10) rfl
theorem dL_verdicts_72 : decode cL_verdicts 72 = .ok (.iconst 0, 1) := g_dec dt144_L_verdicts_ok (k := 11) rfl
theorem dL_verdicts_68 : decode cL_verdicts 68 = .ok (.iconst 1, 1) := g_dec dt144_L_verdicts_ok (k := 12) rfl
theorem dL_verdicts_69 : decode cL_verdicts 69 = .ok (.goto 4, 3) := g_dec dt144_L_verdicts_ok (k := 13) rfl
theorem dL_verdicts_43 : decode cL_verdicts 43 = .ok (.istore 10, 2) := g_dec dt144_L_verdicts_ok (k := 14) rfl
theorem dL_verdicts_45 : decode cL_verdicts 45 = .ok (.iload 7, 2) := g_dec dt144_L_verdicts_ok (k := 15) rfl
theorem dL_verdicts_47 : decode cL_verdicts 47 = .ok (.iload 10, 2) := g_dec dt144_L_verdicts_ok (k := 16) rfl
theorem dL_verdicts_49 : decode cL_verdicts 49 = .ok (.ifCond .ne 7, 3) := g_dec dt144_L_verdicts_ok (k := 17) rfl
theorem dL_verdicts_56 : decode cL_verdicts 56 = .ok (.iconst 0, 1) := g_dec dt144_L_verdicts_ok (k := 18) rfl
theorem dL_verdicts_52 : decode cL_verdicts 52 = .ok (.iconst 1, 1) := g_dec dt144_L_verdicts_ok (k := 19) rfl
theorem dL_verdicts_53 : decode cL_verdicts 53 = .ok (.goto 4, 3) := g_dec dt144_L_verdicts_ok (k := 20) rfl
theorem dL_verdicts_9 : decode cL_verdicts 9 = .ok (.iload 9, 2) := g_dec dt144_L_verdicts_ok (k := 21) rfl
theorem dL_verdicts_11 : decode cL_verdicts 11 = .ok (.aload_n 0, 1) := g_dec dt144_L_verdicts_ok (k := 22) rfl
theorem dL_verdicts_12 : decode cL_verdicts 12 = .ok (.iconst 2, 1) := g_dec dt144_L_verdicts_ok (k := 23) rfl
theorem dL_verdicts_13 : decode cL_verdicts 13 = .ok (.iaload, 1) := g_dec dt144_L_verdicts_ok (k := 24) rfl
theorem dL_verdicts_14 : decode cL_verdicts 14 = .ok (.if_icmp .ge 68, 3) := g_dec dt144_L_verdicts_ok (k := 25) rfl
theorem dL_verdicts_82 : decode cL_verdicts 82 = .ok (.iload 8, 2) := g_dec dt144_L_verdicts_ok (k := 26) rfl
theorem dL_verdicts_84 : decode cL_verdicts 84 = .ok (.ifCond .le 7, 3) := g_dec dt144_L_verdicts_ok (k := 27) rfl
theorem dL_verdicts_91 : decode cL_verdicts 91 = .ok (.iload 7, 2) := g_dec dt144_L_verdicts_ok (k := 28) rfl
theorem dL_verdicts_93 : decode cL_verdicts 93 = .ok (.ifCond .le 7, 3) := g_dec dt144_L_verdicts_ok (k := 29) rfl
theorem dL_verdicts_100 : decode cL_verdicts 100 = .ok (.iconst 1, 1) := g_dec dt144_L_verdicts_ok (k := 30) rfl
theorem dL_verdicts_96 : decode cL_verdicts 96 = .ok (.iconst 0, 1) := g_dec dt144_L_verdicts_ok (k := 31) rfl
theorem dL_verdicts_97 : decode cL_verdicts 97 = .ok (.goto 4, 3) := g_dec dt144_L_verdicts_ok (k := 32) rfl
theorem dL_verdicts_87 : decode cL_verdicts 87 = .ok (.iconst 2, 1) := g_dec dt144_L_verdicts_ok (k := 33) rfl
theorem dL_verdicts_88 : decode cL_verdicts 88 = .ok (.goto 13, 3) := g_dec dt144_L_verdicts_ok (k := 34) rfl
theorem dL_verdicts_17 : decode cL_verdicts 17 = .ok (.iload 4, 2) := g_dec dt144_L_verdicts_ok (k := 35) rfl
theorem dL_verdicts_19 : decode cL_verdicts 19 = .ok (.iload 9, 2) := g_dec dt144_L_verdicts_ok (k := 36) rfl
theorem dL_verdicts_21 : decode cL_verdicts 21 = .ok (.ishr, 1) := g_dec dt144_L_verdicts_ok (k := 37) rfl
theorem dL_verdicts_22 : decode cL_verdicts 22 = .ok (.iconst 1, 1) := g_dec dt144_L_verdicts_ok (k := 38) rfl
theorem dL_verdicts_23 : decode cL_verdicts 23 = .ok (.iand, 1) := g_dec dt144_L_verdicts_ok (k := 39) rfl
theorem dL_verdicts_24 : decode cL_verdicts 24 = .ok (.iconst 1, 1) := g_dec dt144_L_verdicts_ok (k := 40) rfl
theorem dL_verdicts_25 : decode cL_verdicts 25 = .ok (.if_icmp .ne 17, 3) := g_dec dt144_L_verdicts_ok (k := 41) rfl
theorem dL_verdicts_42 : decode cL_verdicts 42 = .ok (.iconst 1, 1) := g_dec dt144_L_verdicts_ok (k := 42) rfl
theorem dL_verdicts_28 : decode cL_verdicts 28 = .ok (.aload_n 0, 1) := g_dec dt144_L_verdicts_ok (k := 43) rfl
theorem dL_verdicts_29 : decode cL_verdicts 29 = .ok (.aload_n 1, 1) := g_dec dt144_L_verdicts_ok (k := 44) rfl
theorem dL_verdicts_30 : decode cL_verdicts 30 = .ok (.aload_n 2, 1) := g_dec dt144_L_verdicts_ok (k := 45) rfl
theorem dL_verdicts_31 : decode cL_verdicts 31 = .ok (.aload_n 3, 1) := g_dec dt144_L_verdicts_ok (k := 46) rfl
theorem dL_verdicts_32 : decode cL_verdicts 32 = .ok (.iload 9, 2) := g_dec dt144_L_verdicts_ok (k := 47) rfl
theorem dL_verdicts_34 : decode cL_verdicts 34 = .ok (.lload 5, 2) := g_dec dt144_L_verdicts_ok (k := 48) rfl
theorem dL_verdicts_36 : decode cL_verdicts 36 = .ok (.invokestatic 25, 3) := g_dec dt144_L_verdicts_ok (k := 49) rfl
theorem dL_verdicts_39 : decode cL_verdicts 39 = .ok (.goto 4, 3) := g_dec dt144_L_verdicts_ok (k := 50) rfl
theorem dL_verdicts_0 : decode cL_verdicts 0 = .ok (.iconst 0, 1) := g_dec dt144_L_verdicts_ok (k := 51) rfl
theorem dL_verdicts_1 : decode cL_verdicts 1 = .ok (.istore 7, 2) := g_dec dt144_L_verdicts_ok (k := 52) rfl
theorem dL_verdicts_3 : decode cL_verdicts 3 = .ok (.iconst 0, 1) := g_dec dt144_L_verdicts_ok (k := 53) rfl
theorem dL_verdicts_4 : decode cL_verdicts 4 = .ok (.istore 8, 2) := g_dec dt144_L_verdicts_ok (k := 54) rfl
theorem dL_verdicts_6 : decode cL_verdicts 6 = .ok (.iconst 0, 1) := g_dec dt144_L_verdicts_ok (k := 55) rfl
theorem dL_verdicts_7 : decode cL_verdicts 7 = .ok (.istore 9, 2) := g_dec dt144_L_verdicts_ok (k := 56) rfl
def dt145_L_fails : List (Nat × Instr × Nat) := [(212, (.ireturn, 1)), (207, (.iconst 1, 1)), (208, (.goto 4, 3)), (160, (.istore 6, 2)), (162, (.iinc 8 1, 3)), (165, (.goto (-80), 3)), (155, (.iconst 1, 1)), (156, (.goto 4, 3)), (159, (.iconst 0, 1)), (85, (.iload 8, 2)), (87, (.aload_n 0, 1)), (88, (.iload 5, 2)), (90, (.iconst 4, 1)), (91, (.iadd, 1)), (92, (.iaload, 1)), (93, (.if_icmp .ge 75, 3)), (168, (.iload 6, 2)), (170, (.ifCond .ne 37, 3)), (173, (.iload 7, 2)), (175, (.i2l, 1)), (176, (.ldc2_w 33, 3)), (179, (.lmul, 1)), (180, (.iload 4, 2)), (182, (.i2l, 1)), (183, (.ldc2_w 35, 3)), (186, (.lmul, 1)), (187, (.ladd, 1)), (188, (.ldc2_w 37, 3)), (191, (.lrem, 1)), (192, (.ldc2_w 39, 3)), (195, (.lrem, 1)), (196, (.aload_n 0, 1)), (197, (.iload 5, 2)), (199, (.iconst 2, 1)), (200, (.iadd, 1)), (201, (.iaload, 1)), (202, (.i2l, 1)), (203, (.lcmp, 1)), (204, (.ifCond .ge 7, 3)), (211, (.iconst 0, 1)), (96, (.aload_n 0, 1)), (97, (.iload 5, 2)), (99, (.bipush 7, 2)), (101, (.iadd, 1)), (102, (.iload 8, 2)), (104, (.iadd, 1)), (105, (.iaload, 1)), (106, (.istore 9, 2)), (108, (.iload 6, 2)), (110, (.ifCond .ne 45, 3)), (113, (.lload_n 2, 1)), (114, (.iload 9, 2)), (116, (.bipush 16, 2)), (118, (.irem, 1)), (119, (.invokestatic 29, 3)), (122, (.iload 9, 2)), (124, (.bipush 16, 2)), (126, (.idiv, 1)), (127, (.bipush 16, 2)), (129, (.irem, 1))]
theorem dt145_L_fails_ok : ∀ q ∈ dt145_L_fails, decode cL_fails q.1 = .ok q.2 := by decide +kernel
theorem dL_fails_212 : decode cL_fails 212 = .ok (.ireturn, 1) := g_dec dt145_L_fails_ok (k := 0) rfl
theorem dL_fails_207 : decode cL_fails 207 = .ok (.iconst 1, 1) := g_dec dt145_L_fails_ok (k := 1) rfl
theorem dL_fails_208 : decode cL_fails 208 = .ok (.goto 4, 3) := g_dec dt145_L_fails_ok (k := 2) rfl
theorem dL_fails_160 : decode cL_fails 160 = .ok (.istore 6, 2) := g_dec dt145_L_fails_ok (k := 3) rfl
theorem dL_fails_162 : decode cL_fails 162 = .ok (.iinc 8 1, 3) := g_dec dt145_L_fails_ok (k := 4) rfl
theorem dL_fails_165 : decode cL_fails 165 = .ok (.goto (-80), 3) := g_dec dt145_L_fails_ok (k := 5) rfl
theorem dL_fails_155 : decode cL_fails 155 = .ok (.iconst 1, 1) := g_dec dt145_L_fails_ok (k := 6) rfl
theorem dL_fails_156 : decode cL_fails 156 = .ok (.goto 4, 3) := g_dec dt145_L_fails_ok (k := 7) rfl
theorem dL_fails_159 : decode cL_fails 159 = .ok (.iconst 0, 1) := g_dec dt145_L_fails_ok (k := 8) rfl
theorem dL_fails_85 : decode cL_fails 85 = .ok (.iload 8, 2) := g_dec dt145_L_fails_ok (k := 9) rfl
theorem dL_fails_87 : decode cL_fails 87 = .ok (.aload_n 0, 1) := g_dec dt145_L_fails_ok (k := 10) rfl
theorem dL_fails_88 : decode cL_fails 88 = .ok (.iload 5, 2) := g_dec dt145_L_fails_ok (k := 11) rfl
theorem dL_fails_90 : decode cL_fails 90 = .ok (.iconst 4, 1) := g_dec dt145_L_fails_ok (k := 12) rfl
theorem dL_fails_91 : decode cL_fails 91 = .ok (.iadd, 1) := g_dec dt145_L_fails_ok (k := 13) rfl
theorem dL_fails_92 : decode cL_fails 92 = .ok (.iaload, 1) := g_dec dt145_L_fails_ok (k := 14) rfl
theorem dL_fails_93 : decode cL_fails 93 = .ok (.if_icmp .ge 75, 3) := g_dec dt145_L_fails_ok (k := 15) rfl
theorem dL_fails_168 : decode cL_fails 168 = .ok (.iload 6, 2) := g_dec dt145_L_fails_ok (k := 16) rfl
theorem dL_fails_170 : decode cL_fails 170 = .ok (.ifCond .ne 37, 3) := g_dec dt145_L_fails_ok (k := 17) rfl
theorem dL_fails_173 : decode cL_fails 173 = .ok (.iload 7, 2) := g_dec dt145_L_fails_ok (k := 18) rfl
theorem dL_fails_175 : decode cL_fails 175 = .ok (.i2l, 1) := g_dec dt145_L_fails_ok (k := 19) rfl
theorem dL_fails_176 : decode cL_fails 176 = .ok (.ldc2_w 33, 3) := g_dec dt145_L_fails_ok (k := 20) rfl
theorem dL_fails_179 : decode cL_fails 179 = .ok (.lmul, 1) := g_dec dt145_L_fails_ok (k := 21) rfl
theorem dL_fails_180 : decode cL_fails 180 = .ok (.iload 4, 2) := g_dec dt145_L_fails_ok (k := 22) rfl
theorem dL_fails_182 : decode cL_fails 182 = .ok (.i2l, 1) := g_dec dt145_L_fails_ok (k := 23) rfl
theorem dL_fails_183 : decode cL_fails 183 = .ok (.ldc2_w 35, 3) := g_dec dt145_L_fails_ok (k := 24) rfl
theorem dL_fails_186 : decode cL_fails 186 = .ok (.lmul, 1) := g_dec dt145_L_fails_ok (k := 25) rfl
theorem dL_fails_187 : decode cL_fails 187 = .ok (.ladd, 1) := g_dec dt145_L_fails_ok (k := 26) rfl
theorem dL_fails_188 : decode cL_fails 188 = .ok (.ldc2_w 37, 3) := g_dec dt145_L_fails_ok (k := 27) rfl
theorem dL_fails_191 : decode cL_fails 191 = .ok (.lrem, 1) := g_dec dt145_L_fails_ok (k := 28) rfl
theorem dL_fails_192 : decode cL_fails 192 = .ok (.ldc2_w 39, 3) := g_dec dt145_L_fails_ok (k := 29) rfl
theorem dL_fails_195 : decode cL_fails 195 = .ok (.lrem, 1) := g_dec dt145_L_fails_ok (k := 30) rfl
theorem dL_fails_196 : decode cL_fails 196 = .ok (.aload_n 0, 1) := g_dec dt145_L_fails_ok (k := 31) rfl
theorem dL_fails_197 : decode cL_fails 197 = .ok (.iload 5, 2) := g_dec dt145_L_fails_ok (k := 32) rfl
theorem dL_fails_199 : decode cL_fails 199 = .ok (.iconst 2, 1) := g_dec dt145_L_fails_ok (k := 33) rfl
theorem dL_fails_200 : decode cL_fails 200 = .ok (.iadd, 1) := g_dec dt145_L_fails_ok (k := 34) rfl
theorem dL_fails_201 : decode cL_fails 201 = .ok (.iaload, 1) := g_dec dt145_L_fails_ok (k := 35) rfl
theorem dL_fails_202 : decode cL_fails 202 = .ok (.i2l, 1) := g_dec dt145_L_fails_ok (k := 36) rfl
theorem dL_fails_203 : decode cL_fails 203 = .ok (.lcmp, 1) := g_dec dt145_L_fails_ok (k := 37) rfl
theorem dL_fails_204 : decode cL_fails 204 = .ok (.ifCond .ge 7, 3) := g_dec dt145_L_fails_ok (k := 38) rfl
theorem dL_fails_211 : decode cL_fails 211 = .ok (.iconst 0, 1) := g_dec dt145_L_fails_ok (k := 39) rfl
theorem dL_fails_96 : decode cL_fails 96 = .ok (.aload_n 0, 1) := g_dec dt145_L_fails_ok (k := 40) rfl
theorem dL_fails_97 : decode cL_fails 97 = .ok (.iload 5, 2) := g_dec dt145_L_fails_ok (k := 41) rfl
theorem dL_fails_99 : decode cL_fails 99 = .ok (.bipush 7, 2) := g_dec dt145_L_fails_ok (k := 42) rfl
theorem dL_fails_101 : decode cL_fails 101 = .ok (.iadd, 1) := g_dec dt145_L_fails_ok (k := 43) rfl
theorem dL_fails_102 : decode cL_fails 102 = .ok (.iload 8, 2) := g_dec dt145_L_fails_ok (k := 44) rfl
theorem dL_fails_104 : decode cL_fails 104 = .ok (.iadd, 1) := g_dec dt145_L_fails_ok (k := 45) rfl
theorem dL_fails_105 : decode cL_fails 105 = .ok (.iaload, 1) := g_dec dt145_L_fails_ok (k := 46) rfl
theorem dL_fails_106 : decode cL_fails 106 = .ok (.istore 9, 2) := g_dec dt145_L_fails_ok (k := 47) rfl
theorem dL_fails_108 : decode cL_fails 108 = .ok (.iload 6, 2) := g_dec dt145_L_fails_ok (k := 48) rfl
theorem dL_fails_110 : decode cL_fails 110 = .ok (.ifCond .ne 45, 3) := g_dec dt145_L_fails_ok (k := 49) rfl
theorem dL_fails_113 : decode cL_fails 113 = .ok (.lload_n 2, 1) := g_dec dt145_L_fails_ok (k := 50) rfl
theorem dL_fails_114 : decode cL_fails 114 = .ok (.iload 9, 2) := g_dec dt145_L_fails_ok (k := 51) rfl
theorem dL_fails_116 : decode cL_fails 116 = .ok (.bipush 16, 2) := g_dec dt145_L_fails_ok (k := 52) rfl
theorem dL_fails_118 : decode cL_fails 118 = .ok (.irem, 1) := g_dec dt145_L_fails_ok (k := 53) rfl
theorem dL_fails_119 : decode cL_fails 119 = .ok (.invokestatic 29, 3) := g_dec dt145_L_fails_ok (k := 54) rfl
theorem dL_fails_122 : decode cL_fails 122 = .ok (.iload 9, 2) := g_dec dt145_L_fails_ok (k := 55) rfl
theorem dL_fails_124 : decode cL_fails 124 = .ok (.bipush 16, 2) := g_dec dt145_L_fails_ok (k := 56) rfl
theorem dL_fails_126 : decode cL_fails 126 = .ok (.idiv, 1) := g_dec dt145_L_fails_ok (k := 57) rfl
theorem dL_fails_127 : decode cL_fails 127 = .ok (.bipush 16, 2) := g_dec dt145_L_fails_ok (k := 58) rfl
theorem dL_fails_129 : decode cL_fails 129 = .ok (.irem, 1) := g_dec dt145_L_fails_ok (k := 59) rfl
def dt146_L_fails : List (Nat × Instr × Nat) := [(130, (.if_icmp .ne 29, 3)), (133, (.lload_n 2, 1)), (134, (.iload 9, 2)), (136, (.sipush 256, 3)), (139, (.idiv, 1)), (140, (.bipush 16, 2)), (142, (.irem, 1)), (143, (.invokestatic 29, 3)), (146, (.iload 9, 2)), (148, (.sipush 4096, 3)), (151, (.idiv, 1)), (152, (.if_icmp .ne 7, 3)), (74, (.istore 7, 2)), (76, (.iinc 8 1, 3)), (79, (.goto (-48), 3)), (31, (.iload 8, 2)), (33, (.bipush 12, 2)), (35, (.if_icmp .ge 47, 3)), (82, (.iconst 0, 1)), (83, (.istore 8, 2)), (38, (.aload_n 0, 1)), (39, (.iload 5, 2)), (41, (.iaload, 1)), (42, (.iload 8, 2)), (44, (.ishr, 1)), (45, (.iconst 1, 1)), (46, (.iand, 1)), (47, (.iconst 1, 1)), (48, (.if_icmp .ne 24, 3)), (72, (.iload 7, 2)), (51, (.iload 7, 2)), (53, (.bipush 11, 2)), (55, (.imul, 1)), (56, (.lload_n 2, 1)), (57, (.iload 8, 2)), (59, (.invokestatic 29, 3)), (62, (.iadd, 1)), (63, (.iconst 1, 1)), (64, (.iadd, 1)), (65, (.sipush 10007, 3)), (68, (.irem, 1)), (69, (.goto 5, 3)), (21, (.istore 6, 2)), (23, (.iload_n 1, 1)), (24, (.iconst 1, 1)), (25, (.iadd, 1)), (26, (.istore 7, 2)), (28, (.iconst 0, 1)), (29, (.istore 8, 2)), (0, (.bipush 12, 2)), (2, (.iload_n 1, 1)), (3, (.imul, 1)), (4, (.istore 5, 2)), (6, (.aload_n 0, 1)), (7, (.iload 5, 2)), (9, (.iconst 3, 1)), (10, (.iadd, 1)), (11, (.iaload, 1)), (12, (.iconst 1, 1)), (13, (.if_icmp .ne 7, 3))]
theorem dt146_L_fails_ok : ∀ q ∈ dt146_L_fails, decode cL_fails q.1 = .ok q.2 := by decide +kernel
theorem dL_fails_130 : decode cL_fails 130 = .ok (.if_icmp .ne 29, 3) := g_dec dt146_L_fails_ok (k := 0) rfl
theorem dL_fails_133 : decode cL_fails 133 = .ok (.lload_n 2, 1) := g_dec dt146_L_fails_ok (k := 1) rfl
theorem dL_fails_134 : decode cL_fails 134 = .ok (.iload 9, 2) := g_dec dt146_L_fails_ok (k := 2) rfl
theorem dL_fails_136 : decode cL_fails 136 = .ok (.sipush 256, 3) := g_dec dt146_L_fails_ok (k := 3) rfl
theorem dL_fails_139 : decode cL_fails 139 = .ok (.idiv, 1) := g_dec dt146_L_fails_ok (k := 4) rfl
theorem dL_fails_140 : decode cL_fails 140 = .ok (.bipush 16, 2) := g_dec dt146_L_fails_ok (k := 5) rfl
theorem dL_fails_142 : decode cL_fails 142 = .ok (.irem, 1) := g_dec dt146_L_fails_ok (k := 6) rfl
theorem dL_fails_143 : decode cL_fails 143 = .ok (.invokestatic 29, 3) := g_dec dt146_L_fails_ok (k := 7) rfl
theorem dL_fails_146 : decode cL_fails 146 = .ok (.iload 9, 2) := g_dec dt146_L_fails_ok (k := 8) rfl
theorem dL_fails_148 : decode cL_fails 148 = .ok (.sipush 4096, 3) := g_dec dt146_L_fails_ok (k := 9) rfl
theorem dL_fails_151 : decode cL_fails 151 = .ok (.idiv, 1) := g_dec dt146_L_fails_ok (k := 10) rfl
theorem dL_fails_152 : decode cL_fails 152 = .ok (.if_icmp .ne 7, 3) := g_dec dt146_L_fails_ok (k := 11) rfl
theorem dL_fails_74 : decode cL_fails 74 = .ok (.istore 7, 2) := g_dec dt146_L_fails_ok (k := 12) rfl
theorem dL_fails_76 : decode cL_fails 76 = .ok (.iinc 8 1, 3) := g_dec dt146_L_fails_ok (k := 13) rfl
theorem dL_fails_79 : decode cL_fails 79 = .ok (.goto (-48), 3) := g_dec dt146_L_fails_ok (k := 14) rfl
theorem dL_fails_31 : decode cL_fails 31 = .ok (.iload 8, 2) := g_dec dt146_L_fails_ok (k := 15) rfl
theorem dL_fails_33 : decode cL_fails 33 = .ok (.bipush 12, 2) := g_dec dt146_L_fails_ok (k := 16) rfl
theorem dL_fails_35 : decode cL_fails 35 = .ok (.if_icmp .ge 47, 3) := g_dec dt146_L_fails_ok (k := 17) rfl
theorem dL_fails_82 : decode cL_fails 82 = .ok (.iconst 0, 1) := g_dec dt146_L_fails_ok (k := 18) rfl
theorem dL_fails_83 : decode cL_fails 83 = .ok (.istore 8, 2) := g_dec dt146_L_fails_ok (k := 19) rfl
theorem dL_fails_38 : decode cL_fails 38 = .ok (.aload_n 0, 1) := g_dec dt146_L_fails_ok (k := 20) rfl
theorem dL_fails_39 : decode cL_fails 39 = .ok (.iload 5, 2) := g_dec dt146_L_fails_ok (k := 21) rfl
theorem dL_fails_41 : decode cL_fails 41 = .ok (.iaload, 1) := g_dec dt146_L_fails_ok (k := 22) rfl
theorem dL_fails_42 : decode cL_fails 42 = .ok (.iload 8, 2) := g_dec dt146_L_fails_ok (k := 23) rfl
theorem dL_fails_44 : decode cL_fails 44 = .ok (.ishr, 1) := g_dec dt146_L_fails_ok (k := 24) rfl
theorem dL_fails_45 : decode cL_fails 45 = .ok (.iconst 1, 1) := g_dec dt146_L_fails_ok (k := 25) rfl
theorem dL_fails_46 : decode cL_fails 46 = .ok (.iand, 1) := g_dec dt146_L_fails_ok (k := 26) rfl
theorem dL_fails_47 : decode cL_fails 47 = .ok (.iconst 1, 1) := g_dec dt146_L_fails_ok (k := 27) rfl
theorem dL_fails_48 : decode cL_fails 48 = .ok (.if_icmp .ne 24, 3) := g_dec dt146_L_fails_ok (k := 28) rfl
theorem dL_fails_72 : decode cL_fails 72 = .ok (.iload 7, 2) := g_dec dt146_L_fails_ok (k := 29) rfl
theorem dL_fails_51 : decode cL_fails 51 = .ok (.iload 7, 2) := g_dec dt146_L_fails_ok (k := 30) rfl
theorem dL_fails_53 : decode cL_fails 53 = .ok (.bipush 11, 2) := g_dec dt146_L_fails_ok (k := 31) rfl
theorem dL_fails_55 : decode cL_fails 55 = .ok (.imul, 1) := g_dec dt146_L_fails_ok (k := 32) rfl
theorem dL_fails_56 : decode cL_fails 56 = .ok (.lload_n 2, 1) := g_dec dt146_L_fails_ok (k := 33) rfl
theorem dL_fails_57 : decode cL_fails 57 = .ok (.iload 8, 2) := g_dec dt146_L_fails_ok (k := 34) rfl
theorem dL_fails_59 : decode cL_fails 59 = .ok (.invokestatic 29, 3) := g_dec dt146_L_fails_ok (k := 35) rfl
theorem dL_fails_62 : decode cL_fails 62 = .ok (.iadd, 1) := g_dec dt146_L_fails_ok (k := 36) rfl
theorem dL_fails_63 : decode cL_fails 63 = .ok (.iconst 1, 1) := g_dec dt146_L_fails_ok (k := 37) rfl
theorem dL_fails_64 : decode cL_fails 64 = .ok (.iadd, 1) := g_dec dt146_L_fails_ok (k := 38) rfl
theorem dL_fails_65 : decode cL_fails 65 = .ok (.sipush 10007, 3) := g_dec dt146_L_fails_ok (k := 39) rfl
theorem dL_fails_68 : decode cL_fails 68 = .ok (.irem, 1) := g_dec dt146_L_fails_ok (k := 40) rfl
theorem dL_fails_69 : decode cL_fails 69 = .ok (.goto 5, 3) := g_dec dt146_L_fails_ok (k := 41) rfl
theorem dL_fails_21 : decode cL_fails 21 = .ok (.istore 6, 2) := g_dec dt146_L_fails_ok (k := 42) rfl
theorem dL_fails_23 : decode cL_fails 23 = .ok (.iload_n 1, 1) := g_dec dt146_L_fails_ok (k := 43) rfl
theorem dL_fails_24 : decode cL_fails 24 = .ok (.iconst 1, 1) := g_dec dt146_L_fails_ok (k := 44) rfl
theorem dL_fails_25 : decode cL_fails 25 = .ok (.iadd, 1) := g_dec dt146_L_fails_ok (k := 45) rfl
theorem dL_fails_26 : decode cL_fails 26 = .ok (.istore 7, 2) := g_dec dt146_L_fails_ok (k := 46) rfl
theorem dL_fails_28 : decode cL_fails 28 = .ok (.iconst 0, 1) := g_dec dt146_L_fails_ok (k := 47) rfl
theorem dL_fails_29 : decode cL_fails 29 = .ok (.istore 8, 2) := g_dec dt146_L_fails_ok (k := 48) rfl
theorem dL_fails_0 : decode cL_fails 0 = .ok (.bipush 12, 2) := g_dec dt146_L_fails_ok (k := 49) rfl
theorem dL_fails_2 : decode cL_fails 2 = .ok (.iload_n 1, 1) := g_dec dt146_L_fails_ok (k := 50) rfl
theorem dL_fails_3 : decode cL_fails 3 = .ok (.imul, 1) := g_dec dt146_L_fails_ok (k := 51) rfl
theorem dL_fails_4 : decode cL_fails 4 = .ok (.istore 5, 2) := g_dec dt146_L_fails_ok (k := 52) rfl
theorem dL_fails_6 : decode cL_fails 6 = .ok (.aload_n 0, 1) := g_dec dt146_L_fails_ok (k := 53) rfl
theorem dL_fails_7 : decode cL_fails 7 = .ok (.iload 5, 2) := g_dec dt146_L_fails_ok (k := 54) rfl
theorem dL_fails_9 : decode cL_fails 9 = .ok (.iconst 3, 1) := g_dec dt146_L_fails_ok (k := 55) rfl
theorem dL_fails_10 : decode cL_fails 10 = .ok (.iadd, 1) := g_dec dt146_L_fails_ok (k := 56) rfl
theorem dL_fails_11 : decode cL_fails 11 = .ok (.iaload, 1) := g_dec dt146_L_fails_ok (k := 57) rfl
theorem dL_fails_12 : decode cL_fails 12 = .ok (.iconst 1, 1) := g_dec dt146_L_fails_ok (k := 58) rfl
theorem dL_fails_13 : decode cL_fails 13 = .ok (.if_icmp .ne 7, 3) := g_dec dt146_L_fails_ok (k := 59) rfl
def dt147_L_fails : List (Nat × Instr × Nat) := [(20, (.iconst 0, 1)), (16, (.iconst 1, 1)), (17, (.goto 4, 3))]
theorem dt147_L_fails_ok : ∀ q ∈ dt147_L_fails, decode cL_fails q.1 = .ok q.2 := by decide +kernel
theorem dL_fails_20 : decode cL_fails 20 = .ok (.iconst 0, 1) := g_dec dt147_L_fails_ok (k := 0) rfl
theorem dL_fails_16 : decode cL_fails 16 = .ok (.iconst 1, 1) := g_dec dt147_L_fails_ok (k := 1) rfl
theorem dL_fails_17 : decode cL_fails 17 = .ok (.goto 4, 3) := g_dec dt147_L_fails_ok (k := 2) rfl
def dt148_L_next : List (Nat × Instr × Nat) := [(144, (.istore 6, 2)), (146, (.iinc 7 1, 3)), (149, (.goto (-143), 3)), (142, (.iload 6, 2)), (120, (.istore 10, 2)), (122, (.iload 8, 2)), (124, (.ifCond .eq 18, 3)), (127, (.iload 9, 2)), (129, (.ifCond .ne 13, 3)), (132, (.iload 10, 2)), (134, (.ifCond .eq 8, 3)), (137, (.iload 7, 2)), (139, (.goto 5, 3)), (115, (.iconst 1, 1)), (116, (.goto 4, 3)), (119, (.iconst 0, 1)), (73, (.istore 9, 2)), (75, (.iload 6, 2)), (77, (.ifCond .lt 38, 3)), (80, (.aload_n 3, 1)), (81, (.iload 7, 2)), (83, (.iaload, 1)), (84, (.aload_n 3, 1)), (85, (.iload 6, 2)), (87, (.iaload, 1)), (88, (.if_icmp .gt 27, 3)), (91, (.aload_n 3, 1)), (92, (.iload 7, 2)), (94, (.iaload, 1)), (95, (.aload_n 3, 1)), (96, (.iload 6, 2)), (98, (.iaload, 1)), (99, (.if_icmp .ne 20, 3)), (102, (.aload 4, 2)), (104, (.iload 7, 2)), (106, (.iaload, 1)), (107, (.aload 4, 2)), (109, (.iload 6, 2)), (111, (.iaload, 1)), (112, (.if_icmp .ge 7, 3)), (72, (.iconst 0, 1)), (37, (.istore 8, 2)), (39, (.aload_n 1, 1)), (40, (.iload 7, 2)), (42, (.iaload, 1)), (43, (.ifCond .lt 29, 3)), (46, (.aload_n 2, 1)), (47, (.aload_n 1, 1)), (48, (.iload 7, 2)), (50, (.iaload, 1)), (51, (.iaload, 1)), (52, (.iconst 1, 1)), (53, (.if_icmp .ne 19, 3)), (56, (.iload 5, 2)), (58, (.aload_n 1, 1)), (59, (.iload 7, 2)), (61, (.iaload, 1)), (62, (.ishr, 1)), (63, (.iconst 1, 1)), (64, (.iand, 1))]
theorem dt148_L_next_ok : ∀ q ∈ dt148_L_next, decode cL_next q.1 = .ok q.2 := by decide +kernel
theorem dL_next_144 : decode cL_next 144 = .ok (.istore 6, 2) := g_dec dt148_L_next_ok (k := 0) rfl
theorem dL_next_146 : decode cL_next 146 = .ok (.iinc 7 1, 3) := g_dec dt148_L_next_ok (k := 1) rfl
theorem dL_next_149 : decode cL_next 149 = .ok (.goto (-143), 3) := g_dec dt148_L_next_ok (k := 2) rfl
theorem dL_next_142 : decode cL_next 142 = .ok (.iload 6, 2) := g_dec dt148_L_next_ok (k := 3) rfl
theorem dL_next_120 : decode cL_next 120 = .ok (.istore 10, 2) := g_dec dt148_L_next_ok (k := 4) rfl
theorem dL_next_122 : decode cL_next 122 = .ok (.iload 8, 2) := g_dec dt148_L_next_ok (k := 5) rfl
theorem dL_next_124 : decode cL_next 124 = .ok (.ifCond .eq 18, 3) := g_dec dt148_L_next_ok (k := 6) rfl
theorem dL_next_127 : decode cL_next 127 = .ok (.iload 9, 2) := g_dec dt148_L_next_ok (k := 7) rfl
theorem dL_next_129 : decode cL_next 129 = .ok (.ifCond .ne 13, 3) := g_dec dt148_L_next_ok (k := 8) rfl
theorem dL_next_132 : decode cL_next 132 = .ok (.iload 10, 2) := g_dec dt148_L_next_ok (k := 9) rfl
theorem dL_next_134 : decode cL_next 134 = .ok (.ifCond .eq 8, 3) := g_dec dt148_L_next_ok (k := 10) rfl
theorem dL_next_137 : decode cL_next 137 = .ok (.iload 7, 2) := g_dec dt148_L_next_ok (k := 11) rfl
theorem dL_next_139 : decode cL_next 139 = .ok (.goto 5, 3) := g_dec dt148_L_next_ok (k := 12) rfl
theorem dL_next_115 : decode cL_next 115 = .ok (.iconst 1, 1) := g_dec dt148_L_next_ok (k := 13) rfl
theorem dL_next_116 : decode cL_next 116 = .ok (.goto 4, 3) := g_dec dt148_L_next_ok (k := 14) rfl
theorem dL_next_119 : decode cL_next 119 = .ok (.iconst 0, 1) := g_dec dt148_L_next_ok (k := 15) rfl
theorem dL_next_73 : decode cL_next 73 = .ok (.istore 9, 2) := g_dec dt148_L_next_ok (k := 16) rfl
theorem dL_next_75 : decode cL_next 75 = .ok (.iload 6, 2) := g_dec dt148_L_next_ok (k := 17) rfl
theorem dL_next_77 : decode cL_next 77 = .ok (.ifCond .lt 38, 3) := g_dec dt148_L_next_ok (k := 18) rfl
theorem dL_next_80 : decode cL_next 80 = .ok (.aload_n 3, 1) := g_dec dt148_L_next_ok (k := 19) rfl
theorem dL_next_81 : decode cL_next 81 = .ok (.iload 7, 2) := g_dec dt148_L_next_ok (k := 20) rfl
theorem dL_next_83 : decode cL_next 83 = .ok (.iaload, 1) := g_dec dt148_L_next_ok (k := 21) rfl
theorem dL_next_84 : decode cL_next 84 = .ok (.aload_n 3, 1) := g_dec dt148_L_next_ok (k := 22) rfl
theorem dL_next_85 : decode cL_next 85 = .ok (.iload 6, 2) := g_dec dt148_L_next_ok (k := 23) rfl
theorem dL_next_87 : decode cL_next 87 = .ok (.iaload, 1) := g_dec dt148_L_next_ok (k := 24) rfl
theorem dL_next_88 : decode cL_next 88 = .ok (.if_icmp .gt 27, 3) := g_dec dt148_L_next_ok (k := 25) rfl
theorem dL_next_91 : decode cL_next 91 = .ok (.aload_n 3, 1) := g_dec dt148_L_next_ok (k := 26) rfl
theorem dL_next_92 : decode cL_next 92 = .ok (.iload 7, 2) := g_dec dt148_L_next_ok (k := 27) rfl
theorem dL_next_94 : decode cL_next 94 = .ok (.iaload, 1) := g_dec dt148_L_next_ok (k := 28) rfl
theorem dL_next_95 : decode cL_next 95 = .ok (.aload_n 3, 1) := g_dec dt148_L_next_ok (k := 29) rfl
theorem dL_next_96 : decode cL_next 96 = .ok (.iload 6, 2) := g_dec dt148_L_next_ok (k := 30) rfl
theorem dL_next_98 : decode cL_next 98 = .ok (.iaload, 1) := g_dec dt148_L_next_ok (k := 31) rfl
theorem dL_next_99 : decode cL_next 99 = .ok (.if_icmp .ne 20, 3) := g_dec dt148_L_next_ok (k := 32) rfl
theorem dL_next_102 : decode cL_next 102 = .ok (.aload 4, 2) := g_dec dt148_L_next_ok (k := 33) rfl
theorem dL_next_104 : decode cL_next 104 = .ok (.iload 7, 2) := g_dec dt148_L_next_ok (k := 34) rfl
theorem dL_next_106 : decode cL_next 106 = .ok (.iaload, 1) := g_dec dt148_L_next_ok (k := 35) rfl
theorem dL_next_107 : decode cL_next 107 = .ok (.aload 4, 2) := g_dec dt148_L_next_ok (k := 36) rfl
theorem dL_next_109 : decode cL_next 109 = .ok (.iload 6, 2) := g_dec dt148_L_next_ok (k := 37) rfl
theorem dL_next_111 : decode cL_next 111 = .ok (.iaload, 1) := g_dec dt148_L_next_ok (k := 38) rfl
theorem dL_next_112 : decode cL_next 112 = .ok (.if_icmp .ge 7, 3) := g_dec dt148_L_next_ok (k := 39) rfl
theorem dL_next_72 : decode cL_next 72 = .ok (.iconst 0, 1) := g_dec dt148_L_next_ok (k := 40) rfl
theorem dL_next_37 : decode cL_next 37 = .ok (.istore 8, 2) := g_dec dt148_L_next_ok (k := 41) rfl
theorem dL_next_39 : decode cL_next 39 = .ok (.aload_n 1, 1) := g_dec dt148_L_next_ok (k := 42) rfl
theorem dL_next_40 : decode cL_next 40 = .ok (.iload 7, 2) := g_dec dt148_L_next_ok (k := 43) rfl
theorem dL_next_42 : decode cL_next 42 = .ok (.iaload, 1) := g_dec dt148_L_next_ok (k := 44) rfl
theorem dL_next_43 : decode cL_next 43 = .ok (.ifCond .lt 29, 3) := g_dec dt148_L_next_ok (k := 45) rfl
theorem dL_next_46 : decode cL_next 46 = .ok (.aload_n 2, 1) := g_dec dt148_L_next_ok (k := 46) rfl
theorem dL_next_47 : decode cL_next 47 = .ok (.aload_n 1, 1) := g_dec dt148_L_next_ok (k := 47) rfl
theorem dL_next_48 : decode cL_next 48 = .ok (.iload 7, 2) := g_dec dt148_L_next_ok (k := 48) rfl
theorem dL_next_50 : decode cL_next 50 = .ok (.iaload, 1) := g_dec dt148_L_next_ok (k := 49) rfl
theorem dL_next_51 : decode cL_next 51 = .ok (.iaload, 1) := g_dec dt148_L_next_ok (k := 50) rfl
theorem dL_next_52 : decode cL_next 52 = .ok (.iconst 1, 1) := g_dec dt148_L_next_ok (k := 51) rfl
theorem dL_next_53 : decode cL_next 53 = .ok (.if_icmp .ne 19, 3) := g_dec dt148_L_next_ok (k := 52) rfl
theorem dL_next_56 : decode cL_next 56 = .ok (.iload 5, 2) := g_dec dt148_L_next_ok (k := 53) rfl
theorem dL_next_58 : decode cL_next 58 = .ok (.aload_n 1, 1) := g_dec dt148_L_next_ok (k := 54) rfl
theorem dL_next_59 : decode cL_next 59 = .ok (.iload 7, 2) := g_dec dt148_L_next_ok (k := 55) rfl
theorem dL_next_61 : decode cL_next 61 = .ok (.iaload, 1) := g_dec dt148_L_next_ok (k := 56) rfl
theorem dL_next_62 : decode cL_next 62 = .ok (.ishr, 1) := g_dec dt148_L_next_ok (k := 57) rfl
theorem dL_next_63 : decode cL_next 63 = .ok (.iconst 1, 1) := g_dec dt148_L_next_ok (k := 58) rfl
theorem dL_next_64 : decode cL_next 64 = .ok (.iand, 1) := g_dec dt148_L_next_ok (k := 59) rfl
def dt149_L_next : List (Nat × Instr × Nat) := [(65, (.ifCond .ne 7, 3)), (68, (.iconst 1, 1)), (69, (.goto 4, 3)), (36, (.iconst 0, 1)), (6, (.iload 7, 2)), (8, (.aload_n 0, 1)), (9, (.iconst 0, 1)), (10, (.iaload, 1)), (11, (.if_icmp .ge 141, 3)), (152, (.iload 6, 2)), (154, (.ireturn, 1)), (14, (.aload_n 2, 1)), (15, (.iload 7, 2)), (17, (.iaload, 1)), (18, (.iconst 1, 1)), (19, (.if_icmp .ne 17, 3)), (22, (.iload 5, 2)), (24, (.iload 7, 2)), (26, (.ishr, 1)), (27, (.iconst 1, 1)), (28, (.iand, 1)), (29, (.ifCond .ne 7, 3)), (32, (.iconst 1, 1)), (33, (.goto 4, 3)), (0, (.iconst (-1), 1)), (1, (.istore 6, 2)), (3, (.iconst 0, 1)), (4, (.istore 7, 2))]
theorem dt149_L_next_ok : ∀ q ∈ dt149_L_next, decode cL_next q.1 = .ok q.2 := by decide +kernel
theorem dL_next_65 : decode cL_next 65 = .ok (.ifCond .ne 7, 3) := g_dec dt149_L_next_ok (k := 0) rfl
theorem dL_next_68 : decode cL_next 68 = .ok (.iconst 1, 1) := g_dec dt149_L_next_ok (k := 1) rfl
theorem dL_next_69 : decode cL_next 69 = .ok (.goto 4, 3) := g_dec dt149_L_next_ok (k := 2) rfl
theorem dL_next_36 : decode cL_next 36 = .ok (.iconst 0, 1) := g_dec dt149_L_next_ok (k := 3) rfl
theorem dL_next_6 : decode cL_next 6 = .ok (.iload 7, 2) := g_dec dt149_L_next_ok (k := 4) rfl
theorem dL_next_8 : decode cL_next 8 = .ok (.aload_n 0, 1) := g_dec dt149_L_next_ok (k := 5) rfl
theorem dL_next_9 : decode cL_next 9 = .ok (.iconst 0, 1) := g_dec dt149_L_next_ok (k := 6) rfl
theorem dL_next_10 : decode cL_next 10 = .ok (.iaload, 1) := g_dec dt149_L_next_ok (k := 7) rfl
theorem dL_next_11 : decode cL_next 11 = .ok (.if_icmp .ge 141, 3) := g_dec dt149_L_next_ok (k := 8) rfl
theorem dL_next_152 : decode cL_next 152 = .ok (.iload 6, 2) := g_dec dt149_L_next_ok (k := 9) rfl
theorem dL_next_154 : decode cL_next 154 = .ok (.ireturn, 1) := g_dec dt149_L_next_ok (k := 10) rfl
theorem dL_next_14 : decode cL_next 14 = .ok (.aload_n 2, 1) := g_dec dt149_L_next_ok (k := 11) rfl
theorem dL_next_15 : decode cL_next 15 = .ok (.iload 7, 2) := g_dec dt149_L_next_ok (k := 12) rfl
theorem dL_next_17 : decode cL_next 17 = .ok (.iaload, 1) := g_dec dt149_L_next_ok (k := 13) rfl
theorem dL_next_18 : decode cL_next 18 = .ok (.iconst 1, 1) := g_dec dt149_L_next_ok (k := 14) rfl
theorem dL_next_19 : decode cL_next 19 = .ok (.if_icmp .ne 17, 3) := g_dec dt149_L_next_ok (k := 15) rfl
theorem dL_next_22 : decode cL_next 22 = .ok (.iload 5, 2) := g_dec dt149_L_next_ok (k := 16) rfl
theorem dL_next_24 : decode cL_next 24 = .ok (.iload 7, 2) := g_dec dt149_L_next_ok (k := 17) rfl
theorem dL_next_26 : decode cL_next 26 = .ok (.ishr, 1) := g_dec dt149_L_next_ok (k := 18) rfl
theorem dL_next_27 : decode cL_next 27 = .ok (.iconst 1, 1) := g_dec dt149_L_next_ok (k := 19) rfl
theorem dL_next_28 : decode cL_next 28 = .ok (.iand, 1) := g_dec dt149_L_next_ok (k := 20) rfl
theorem dL_next_29 : decode cL_next 29 = .ok (.ifCond .ne 7, 3) := g_dec dt149_L_next_ok (k := 21) rfl
theorem dL_next_32 : decode cL_next 32 = .ok (.iconst 1, 1) := g_dec dt149_L_next_ok (k := 22) rfl
theorem dL_next_33 : decode cL_next 33 = .ok (.goto 4, 3) := g_dec dt149_L_next_ok (k := 23) rfl
theorem dL_next_0 : decode cL_next 0 = .ok (.iconst (-1), 1) := g_dec dt149_L_next_ok (k := 24) rfl
theorem dL_next_1 : decode cL_next 1 = .ok (.istore 6, 2) := g_dec dt149_L_next_ok (k := 25) rfl
theorem dL_next_3 : decode cL_next 3 = .ok (.iconst 0, 1) := g_dec dt149_L_next_ok (k := 26) rfl
theorem dL_next_4 : decode cL_next 4 = .ok (.istore 7, 2) := g_dec dt149_L_next_ok (k := 27) rfl
def dt150_L_batches : List (Nat × Instr × Nat) := [(186, (.aload 11, 2)), (188, (.iload 16, 2)), (190, (.lload 14, 2)), (192, (.lastore, 1)), (193, (.iload 12, 2)), (195, (.iload 17, 2)), (197, (.if_icmp .ne 6, 3)), (203, (.iinc 16 1, 3)), (206, (.goto (-193), 3)), (200, (.iload 12, 2)), (202, (.ireturn, 1)), (170, (.aload_n 0, 1)), (171, (.aload_n 1, 1)), (172, (.aload_n 2, 1)), (173, (.aload_n 3, 1)), (174, (.aload 4, 2)), (176, (.iload 18, 2)), (178, (.invokestatic 41, 3)), (181, (.istore 19, 2)), (183, (.goto (-142), 3)), (101, (.istore 20, 2)), (103, (.iload 13, 2)), (105, (.iload 19, 2)), (107, (.ishr, 1)), (108, (.iconst 1, 1)), (109, (.iand, 1)), (110, (.ifCond .ne 60, 3)), (113, (.aload 5, 2)), (115, (.aload 6, 2)), (117, (.iload 19, 2)), (119, (.lload 14, 2)), (121, (.invokestatic 45, 3)), (124, (.ifCond .eq 46, 3)), (127, (.iload 20, 2)), (129, (.ifCond .eq 41, 3)), (132, (.iload 13, 2)), (134, (.iconst 1, 1)), (135, (.iload 19, 2)), (137, (.ishl, 1)), (138, (.ior, 1)), (139, (.istore 13, 2)), (141, (.aload 5, 2)), (143, (.aload 7, 2)), (145, (.iload 19, 2)), (147, (.lload 14, 2)), (149, (.invokestatic 49, 3)), (152, (.lstore 14, 2)), (154, (.aload 10, 2)), (156, (.iload 12, 2)), (158, (.iload 19, 2)), (160, (.bipush 100, 2)), (162, (.iload 16, 2)), (164, (.imul, 1)), (165, (.iadd, 1)), (166, (.iastore, 1)), (167, (.iinc 12 1, 3)), (96, (.iconst 1, 1)), (97, (.goto 4, 3)), (41, (.iload 19, 2)), (43, (.ifCond .lt 143, 3))]
theorem dt150_L_batches_ok : ∀ q ∈ dt150_L_batches, decode cL_batches q.1 = .ok q.2 := by decide +kernel
theorem dL_batches_186 : decode cL_batches 186 = .ok (.aload 11, 2) := g_dec dt150_L_batches_ok (k := 0) rfl
theorem dL_batches_188 : decode cL_batches 188 = .ok (.iload 16, 2) := g_dec dt150_L_batches_ok (k := 1) rfl
theorem dL_batches_190 : decode cL_batches 190 = .ok (.lload 14, 2) := g_dec dt150_L_batches_ok (k := 2) rfl
theorem dL_batches_192 : decode cL_batches 192 = .ok (.lastore, 1) := g_dec dt150_L_batches_ok (k := 3) rfl
theorem dL_batches_193 : decode cL_batches 193 = .ok (.iload 12, 2) := g_dec dt150_L_batches_ok (k := 4) rfl
theorem dL_batches_195 : decode cL_batches 195 = .ok (.iload 17, 2) := g_dec dt150_L_batches_ok (k := 5) rfl
theorem dL_batches_197 : decode cL_batches 197 = .ok (.if_icmp .ne 6, 3) := g_dec dt150_L_batches_ok (k := 6) rfl
theorem dL_batches_203 : decode cL_batches 203 = .ok (.iinc 16 1, 3) := g_dec dt150_L_batches_ok (k := 7) rfl
theorem dL_batches_206 : decode cL_batches 206 = .ok (.goto (-193), 3) := g_dec dt150_L_batches_ok (k := 8) rfl
theorem dL_batches_200 : decode cL_batches 200 = .ok (.iload 12, 2) := g_dec dt150_L_batches_ok (k := 9) rfl
theorem dL_batches_202 : decode cL_batches 202 = .ok (.ireturn, 1) := g_dec dt150_L_batches_ok (k := 10) rfl
theorem dL_batches_170 : decode cL_batches 170 = .ok (.aload_n 0, 1) := g_dec dt150_L_batches_ok (k := 11) rfl
theorem dL_batches_171 : decode cL_batches 171 = .ok (.aload_n 1, 1) := g_dec dt150_L_batches_ok (k := 12) rfl
theorem dL_batches_172 : decode cL_batches 172 = .ok (.aload_n 2, 1) := g_dec dt150_L_batches_ok (k := 13) rfl
theorem dL_batches_173 : decode cL_batches 173 = .ok (.aload_n 3, 1) := g_dec dt150_L_batches_ok (k := 14) rfl
theorem dL_batches_174 : decode cL_batches 174 = .ok (.aload 4, 2) := g_dec dt150_L_batches_ok (k := 15) rfl
theorem dL_batches_176 : decode cL_batches 176 = .ok (.iload 18, 2) := g_dec dt150_L_batches_ok (k := 16) rfl
theorem dL_batches_178 : decode cL_batches 178 = .ok (.invokestatic 41, 3) := g_dec dt150_L_batches_ok (k := 17) rfl
theorem dL_batches_181 : decode cL_batches 181 = .ok (.istore 19, 2) := g_dec dt150_L_batches_ok (k := 18) rfl
theorem dL_batches_183 : decode cL_batches 183 = .ok (.goto (-142), 3) := g_dec dt150_L_batches_ok (k := 19) rfl
theorem dL_batches_101 : decode cL_batches 101 = .ok (.istore 20, 2) := g_dec dt150_L_batches_ok (k := 20) rfl
theorem dL_batches_103 : decode cL_batches 103 = .ok (.iload 13, 2) := g_dec dt150_L_batches_ok (k := 21) rfl
theorem dL_batches_105 : decode cL_batches 105 = .ok (.iload 19, 2) := g_dec dt150_L_batches_ok (k := 22) rfl
theorem dL_batches_107 : decode cL_batches 107 = .ok (.ishr, 1) := g_dec dt150_L_batches_ok (k := 23) rfl
theorem dL_batches_108 : decode cL_batches 108 = .ok (.iconst 1, 1) := g_dec dt150_L_batches_ok (k := 24) rfl
theorem dL_batches_109 : decode cL_batches 109 = .ok (.iand, 1) := g_dec dt150_L_batches_ok (k := 25) rfl
theorem dL_batches_110 : decode cL_batches 110 = .ok (.ifCond .ne 60, 3) := g_dec dt150_L_batches_ok (k := 26) rfl
theorem dL_batches_113 : decode cL_batches 113 = .ok (.aload 5, 2) := g_dec dt150_L_batches_ok (k := 27) rfl
theorem dL_batches_115 : decode cL_batches 115 = .ok (.aload 6, 2) := g_dec dt150_L_batches_ok (k := 28) rfl
theorem dL_batches_117 : decode cL_batches 117 = .ok (.iload 19, 2) := g_dec dt150_L_batches_ok (k := 29) rfl
theorem dL_batches_119 : decode cL_batches 119 = .ok (.lload 14, 2) := g_dec dt150_L_batches_ok (k := 30) rfl
theorem dL_batches_121 : decode cL_batches 121 = .ok (.invokestatic 45, 3) := g_dec dt150_L_batches_ok (k := 31) rfl
theorem dL_batches_124 : decode cL_batches 124 = .ok (.ifCond .eq 46, 3) := g_dec dt150_L_batches_ok (k := 32) rfl
theorem dL_batches_127 : decode cL_batches 127 = .ok (.iload 20, 2) := g_dec dt150_L_batches_ok (k := 33) rfl
theorem dL_batches_129 : decode cL_batches 129 = .ok (.ifCond .eq 41, 3) := g_dec dt150_L_batches_ok (k := 34) rfl
theorem dL_batches_132 : decode cL_batches 132 = .ok (.iload 13, 2) := g_dec dt150_L_batches_ok (k := 35) rfl
theorem dL_batches_134 : decode cL_batches 134 = .ok (.iconst 1, 1) := g_dec dt150_L_batches_ok (k := 36) rfl
theorem dL_batches_135 : decode cL_batches 135 = .ok (.iload 19, 2) := g_dec dt150_L_batches_ok (k := 37) rfl
theorem dL_batches_137 : decode cL_batches 137 = .ok (.ishl, 1) := g_dec dt150_L_batches_ok (k := 38) rfl
theorem dL_batches_138 : decode cL_batches 138 = .ok (.ior, 1) := g_dec dt150_L_batches_ok (k := 39) rfl
theorem dL_batches_139 : decode cL_batches 139 = .ok (.istore 13, 2) := g_dec dt150_L_batches_ok (k := 40) rfl
theorem dL_batches_141 : decode cL_batches 141 = .ok (.aload 5, 2) := g_dec dt150_L_batches_ok (k := 41) rfl
theorem dL_batches_143 : decode cL_batches 143 = .ok (.aload 7, 2) := g_dec dt150_L_batches_ok (k := 42) rfl
theorem dL_batches_145 : decode cL_batches 145 = .ok (.iload 19, 2) := g_dec dt150_L_batches_ok (k := 43) rfl
theorem dL_batches_147 : decode cL_batches 147 = .ok (.lload 14, 2) := g_dec dt150_L_batches_ok (k := 44) rfl
theorem dL_batches_149 : decode cL_batches 149 = .ok (.invokestatic 49, 3) := g_dec dt150_L_batches_ok (k := 45) rfl
theorem dL_batches_152 : decode cL_batches 152 = .ok (.lstore 14, 2) := g_dec dt150_L_batches_ok (k := 46) rfl
theorem dL_batches_154 : decode cL_batches 154 = .ok (.aload 10, 2) := g_dec dt150_L_batches_ok (k := 47) rfl
theorem dL_batches_156 : decode cL_batches 156 = .ok (.iload 12, 2) := g_dec dt150_L_batches_ok (k := 48) rfl
theorem dL_batches_158 : decode cL_batches 158 = .ok (.iload 19, 2) := g_dec dt150_L_batches_ok (k := 49) rfl
theorem dL_batches_160 : decode cL_batches 160 = .ok (.bipush 100, 2) := g_dec dt150_L_batches_ok (k := 50) rfl
theorem dL_batches_162 : decode cL_batches 162 = .ok (.iload 16, 2) := g_dec dt150_L_batches_ok (k := 51) rfl
theorem dL_batches_164 : decode cL_batches 164 = .ok (.imul, 1) := g_dec dt150_L_batches_ok (k := 52) rfl
theorem dL_batches_165 : decode cL_batches 165 = .ok (.iadd, 1) := g_dec dt150_L_batches_ok (k := 53) rfl
theorem dL_batches_166 : decode cL_batches 166 = .ok (.iastore, 1) := g_dec dt150_L_batches_ok (k := 54) rfl
theorem dL_batches_167 : decode cL_batches 167 = .ok (.iinc 12 1, 3) := g_dec dt150_L_batches_ok (k := 55) rfl
theorem dL_batches_96 : decode cL_batches 96 = .ok (.iconst 1, 1) := g_dec dt150_L_batches_ok (k := 56) rfl
theorem dL_batches_97 : decode cL_batches 97 = .ok (.goto 4, 3) := g_dec dt150_L_batches_ok (k := 57) rfl
theorem dL_batches_41 : decode cL_batches 41 = .ok (.iload 19, 2) := g_dec dt150_L_batches_ok (k := 58) rfl
theorem dL_batches_43 : decode cL_batches 43 = .ok (.ifCond .lt 143, 3) := g_dec dt150_L_batches_ok (k := 59) rfl
def dt151_L_batches : List (Nat × Instr × Nat) := [(46, (.iload 12, 2)), (48, (.iload 17, 2)), (50, (.aload_n 0, 1)), (51, (.iconst 5, 1)), (52, (.iaload, 1)), (53, (.iadd, 1)), (54, (.if_icmp .ge 132, 3)), (57, (.iload 18, 2)), (59, (.iconst 1, 1)), (60, (.iload 19, 2)), (62, (.ishl, 1)), (63, (.ior, 1)), (64, (.istore 18, 2)), (66, (.aload_n 1, 1)), (67, (.iload 19, 2)), (69, (.iaload, 1)), (70, (.ifCond .lt 26, 3)), (73, (.aload_n 2, 1)), (74, (.aload_n 1, 1)), (75, (.iload 19, 2)), (77, (.iaload, 1)), (78, (.iaload, 1)), (79, (.iconst 2, 1)), (80, (.if_icmp .eq 16, 3)), (83, (.iload 13, 2)), (85, (.aload_n 1, 1)), (86, (.iload 19, 2)), (88, (.iaload, 1)), (89, (.ishr, 1)), (90, (.iconst 1, 1)), (91, (.iand, 1)), (92, (.iconst 1, 1)), (93, (.if_icmp .ne 7, 3)), (100, (.iconst 0, 1)), (13, (.iload 16, 2)), (15, (.aload_n 0, 1)), (16, (.bipush 6, 2)), (18, (.iaload, 1)), (19, (.if_icmp .ge 190, 3)), (209, (.iload 12, 2)), (211, (.ireturn, 1)), (22, (.iload 12, 2)), (24, (.istore 17, 2)), (26, (.iconst 0, 1)), (27, (.istore 18, 2)), (29, (.aload_n 0, 1)), (30, (.aload_n 1, 1)), (31, (.aload_n 2, 1)), (32, (.aload_n 3, 1)), (33, (.aload 4, 2)), (35, (.iconst 0, 1)), (36, (.invokestatic 41, 3)), (39, (.istore 19, 2)), (0, (.iconst 0, 1)), (1, (.istore 12, 2)), (3, (.iconst 0, 1)), (4, (.istore 13, 2)), (6, (.lload 8, 2)), (8, (.lstore 14, 2)), (10, (.iconst 0, 1))]
theorem dt151_L_batches_ok : ∀ q ∈ dt151_L_batches, decode cL_batches q.1 = .ok q.2 := by decide +kernel
theorem dL_batches_46 : decode cL_batches 46 = .ok (.iload 12, 2) := g_dec dt151_L_batches_ok (k := 0) rfl
theorem dL_batches_48 : decode cL_batches 48 = .ok (.iload 17, 2) := g_dec dt151_L_batches_ok (k := 1) rfl
theorem dL_batches_50 : decode cL_batches 50 = .ok (.aload_n 0, 1) := g_dec dt151_L_batches_ok (k := 2) rfl
theorem dL_batches_51 : decode cL_batches 51 = .ok (.iconst 5, 1) := g_dec dt151_L_batches_ok (k := 3) rfl
theorem dL_batches_52 : decode cL_batches 52 = .ok (.iaload, 1) := g_dec dt151_L_batches_ok (k := 4) rfl
theorem dL_batches_53 : decode cL_batches 53 = .ok (.iadd, 1) := g_dec dt151_L_batches_ok (k := 5) rfl
theorem dL_batches_54 : decode cL_batches 54 = .ok (.if_icmp .ge 132, 3) := g_dec dt151_L_batches_ok (k := 6) rfl
theorem dL_batches_57 : decode cL_batches 57 = .ok (.iload 18, 2) := g_dec dt151_L_batches_ok (k := 7) rfl
theorem dL_batches_59 : decode cL_batches 59 = .ok (.iconst 1, 1) := g_dec dt151_L_batches_ok (k := 8) rfl
theorem dL_batches_60 : decode cL_batches 60 = .ok (.iload 19, 2) := g_dec dt151_L_batches_ok (k := 9) rfl
theorem dL_batches_62 : decode cL_batches 62 = .ok (.ishl, 1) := g_dec dt151_L_batches_ok (k := 10) rfl
theorem dL_batches_63 : decode cL_batches 63 = .ok (.ior, 1) := g_dec dt151_L_batches_ok (k := 11) rfl
theorem dL_batches_64 : decode cL_batches 64 = .ok (.istore 18, 2) := g_dec dt151_L_batches_ok (k := 12) rfl
theorem dL_batches_66 : decode cL_batches 66 = .ok (.aload_n 1, 1) := g_dec dt151_L_batches_ok (k := 13) rfl
theorem dL_batches_67 : decode cL_batches 67 = .ok (.iload 19, 2) := g_dec dt151_L_batches_ok (k := 14) rfl
theorem dL_batches_69 : decode cL_batches 69 = .ok (.iaload, 1) := g_dec dt151_L_batches_ok (k := 15) rfl
theorem dL_batches_70 : decode cL_batches 70 = .ok (.ifCond .lt 26, 3) := g_dec dt151_L_batches_ok (k := 16) rfl
theorem dL_batches_73 : decode cL_batches 73 = .ok (.aload_n 2, 1) := g_dec dt151_L_batches_ok (k := 17) rfl
theorem dL_batches_74 : decode cL_batches 74 = .ok (.aload_n 1, 1) := g_dec dt151_L_batches_ok (k := 18) rfl
theorem dL_batches_75 : decode cL_batches 75 = .ok (.iload 19, 2) := g_dec dt151_L_batches_ok (k := 19) rfl
theorem dL_batches_77 : decode cL_batches 77 = .ok (.iaload, 1) := g_dec dt151_L_batches_ok (k := 20) rfl
theorem dL_batches_78 : decode cL_batches 78 = .ok (.iaload, 1) := g_dec dt151_L_batches_ok (k := 21) rfl
theorem dL_batches_79 : decode cL_batches 79 = .ok (.iconst 2, 1) := g_dec dt151_L_batches_ok (k := 22) rfl
theorem dL_batches_80 : decode cL_batches 80 = .ok (.if_icmp .eq 16, 3) := g_dec dt151_L_batches_ok (k := 23) rfl
theorem dL_batches_83 : decode cL_batches 83 = .ok (.iload 13, 2) := g_dec dt151_L_batches_ok (k := 24) rfl
theorem dL_batches_85 : decode cL_batches 85 = .ok (.aload_n 1, 1) := g_dec dt151_L_batches_ok (k := 25) rfl
theorem dL_batches_86 : decode cL_batches 86 = .ok (.iload 19, 2) := g_dec dt151_L_batches_ok (k := 26) rfl
theorem dL_batches_88 : decode cL_batches 88 = .ok (.iaload, 1) := g_dec dt151_L_batches_ok (k := 27) rfl
theorem dL_batches_89 : decode cL_batches 89 = .ok (.ishr, 1) := g_dec dt151_L_batches_ok (k := 28) rfl
theorem dL_batches_90 : decode cL_batches 90 = .ok (.iconst 1, 1) := g_dec dt151_L_batches_ok (k := 29) rfl
theorem dL_batches_91 : decode cL_batches 91 = .ok (.iand, 1) := g_dec dt151_L_batches_ok (k := 30) rfl
theorem dL_batches_92 : decode cL_batches 92 = .ok (.iconst 1, 1) := g_dec dt151_L_batches_ok (k := 31) rfl
theorem dL_batches_93 : decode cL_batches 93 = .ok (.if_icmp .ne 7, 3) := g_dec dt151_L_batches_ok (k := 32) rfl
theorem dL_batches_100 : decode cL_batches 100 = .ok (.iconst 0, 1) := g_dec dt151_L_batches_ok (k := 33) rfl
theorem dL_batches_13 : decode cL_batches 13 = .ok (.iload 16, 2) := g_dec dt151_L_batches_ok (k := 34) rfl
theorem dL_batches_15 : decode cL_batches 15 = .ok (.aload_n 0, 1) := g_dec dt151_L_batches_ok (k := 35) rfl
theorem dL_batches_16 : decode cL_batches 16 = .ok (.bipush 6, 2) := g_dec dt151_L_batches_ok (k := 36) rfl
theorem dL_batches_18 : decode cL_batches 18 = .ok (.iaload, 1) := g_dec dt151_L_batches_ok (k := 37) rfl
theorem dL_batches_19 : decode cL_batches 19 = .ok (.if_icmp .ge 190, 3) := g_dec dt151_L_batches_ok (k := 38) rfl
theorem dL_batches_209 : decode cL_batches 209 = .ok (.iload 12, 2) := g_dec dt151_L_batches_ok (k := 39) rfl
theorem dL_batches_211 : decode cL_batches 211 = .ok (.ireturn, 1) := g_dec dt151_L_batches_ok (k := 40) rfl
theorem dL_batches_22 : decode cL_batches 22 = .ok (.iload 12, 2) := g_dec dt151_L_batches_ok (k := 41) rfl
theorem dL_batches_24 : decode cL_batches 24 = .ok (.istore 17, 2) := g_dec dt151_L_batches_ok (k := 42) rfl
theorem dL_batches_26 : decode cL_batches 26 = .ok (.iconst 0, 1) := g_dec dt151_L_batches_ok (k := 43) rfl
theorem dL_batches_27 : decode cL_batches 27 = .ok (.istore 18, 2) := g_dec dt151_L_batches_ok (k := 44) rfl
theorem dL_batches_29 : decode cL_batches 29 = .ok (.aload_n 0, 1) := g_dec dt151_L_batches_ok (k := 45) rfl
theorem dL_batches_30 : decode cL_batches 30 = .ok (.aload_n 1, 1) := g_dec dt151_L_batches_ok (k := 46) rfl
theorem dL_batches_31 : decode cL_batches 31 = .ok (.aload_n 2, 1) := g_dec dt151_L_batches_ok (k := 47) rfl
theorem dL_batches_32 : decode cL_batches 32 = .ok (.aload_n 3, 1) := g_dec dt151_L_batches_ok (k := 48) rfl
theorem dL_batches_33 : decode cL_batches 33 = .ok (.aload 4, 2) := g_dec dt151_L_batches_ok (k := 49) rfl
theorem dL_batches_35 : decode cL_batches 35 = .ok (.iconst 0, 1) := g_dec dt151_L_batches_ok (k := 50) rfl
theorem dL_batches_36 : decode cL_batches 36 = .ok (.invokestatic 41, 3) := g_dec dt151_L_batches_ok (k := 51) rfl
theorem dL_batches_39 : decode cL_batches 39 = .ok (.istore 19, 2) := g_dec dt151_L_batches_ok (k := 52) rfl
theorem dL_batches_0 : decode cL_batches 0 = .ok (.iconst 0, 1) := g_dec dt151_L_batches_ok (k := 53) rfl
theorem dL_batches_1 : decode cL_batches 1 = .ok (.istore 12, 2) := g_dec dt151_L_batches_ok (k := 54) rfl
theorem dL_batches_3 : decode cL_batches 3 = .ok (.iconst 0, 1) := g_dec dt151_L_batches_ok (k := 55) rfl
theorem dL_batches_4 : decode cL_batches 4 = .ok (.istore 13, 2) := g_dec dt151_L_batches_ok (k := 56) rfl
theorem dL_batches_6 : decode cL_batches 6 = .ok (.lload 8, 2) := g_dec dt151_L_batches_ok (k := 57) rfl
theorem dL_batches_8 : decode cL_batches 8 = .ok (.lstore 14, 2) := g_dec dt151_L_batches_ok (k := 58) rfl
theorem dL_batches_10 : decode cL_batches 10 = .ok (.iconst 0, 1) := g_dec dt151_L_batches_ok (k := 59) rfl
def dt152_L_batches : List (Nat × Instr × Nat) := [(11, (.istore 16, 2))]
theorem dt152_L_batches_ok : ∀ q ∈ dt152_L_batches, decode cL_batches q.1 = .ok q.2 := by decide +kernel
theorem dL_batches_11 : decode cL_batches 11 = .ok (.istore 16, 2) := g_dec dt152_L_batches_ok (k := 0) rfl
def dt153_L_many : List (Nat × Instr × Nat) := [(28, (.iadd, 1)), (29, (.istore_n 3, 1)), (30, (.iinc 4 1, 3)), (33, (.goto (-28), 3)), (5, (.iload 4, 2)), (7, (.iload_n 1, 1)), (8, (.if_icmp .ge 28, 3)), (36, (.iload_n 3, 1)), (37, (.ireturn, 1)), (11, (.iload_n 3, 1)), (12, (.aload_n 0, 1)), (13, (.iload 4, 2)), (15, (.iaload, 1)), (16, (.bipush 100, 2)), (18, (.idiv, 1)), (19, (.iload_n 2, 1)), (20, (.if_icmp .ne 7, 3)), (27, (.iconst 0, 1)), (23, (.iconst 1, 1)), (24, (.goto 4, 3)), (0, (.iconst 0, 1)), (1, (.istore_n 3, 1)), (2, (.iconst 0, 1)), (3, (.istore 4, 2))]
theorem dt153_L_many_ok : ∀ q ∈ dt153_L_many, decode cL_many q.1 = .ok q.2 := by decide +kernel
theorem dL_many_28 : decode cL_many 28 = .ok (.iadd, 1) := g_dec dt153_L_many_ok (k := 0) rfl
theorem dL_many_29 : decode cL_many 29 = .ok (.istore_n 3, 1) := g_dec dt153_L_many_ok (k := 1) rfl
theorem dL_many_30 : decode cL_many 30 = .ok (.iinc 4 1, 3) := g_dec dt153_L_many_ok (k := 2) rfl
theorem dL_many_33 : decode cL_many 33 = .ok (.goto (-28), 3) := g_dec dt153_L_many_ok (k := 3) rfl
theorem dL_many_5 : decode cL_many 5 = .ok (.iload 4, 2) := g_dec dt153_L_many_ok (k := 4) rfl
theorem dL_many_7 : decode cL_many 7 = .ok (.iload_n 1, 1) := g_dec dt153_L_many_ok (k := 5) rfl
theorem dL_many_8 : decode cL_many 8 = .ok (.if_icmp .ge 28, 3) := g_dec dt153_L_many_ok (k := 6) rfl
theorem dL_many_36 : decode cL_many 36 = .ok (.iload_n 3, 1) := g_dec dt153_L_many_ok (k := 7) rfl
theorem dL_many_37 : decode cL_many 37 = .ok (.ireturn, 1) := g_dec dt153_L_many_ok (k := 8) rfl
theorem dL_many_11 : decode cL_many 11 = .ok (.iload_n 3, 1) := g_dec dt153_L_many_ok (k := 9) rfl
theorem dL_many_12 : decode cL_many 12 = .ok (.aload_n 0, 1) := g_dec dt153_L_many_ok (k := 10) rfl
theorem dL_many_13 : decode cL_many 13 = .ok (.iload 4, 2) := g_dec dt153_L_many_ok (k := 11) rfl
theorem dL_many_15 : decode cL_many 15 = .ok (.iaload, 1) := g_dec dt153_L_many_ok (k := 12) rfl
theorem dL_many_16 : decode cL_many 16 = .ok (.bipush 100, 2) := g_dec dt153_L_many_ok (k := 13) rfl
theorem dL_many_18 : decode cL_many 18 = .ok (.idiv, 1) := g_dec dt153_L_many_ok (k := 14) rfl
theorem dL_many_19 : decode cL_many 19 = .ok (.iload_n 2, 1) := g_dec dt153_L_many_ok (k := 15) rfl
theorem dL_many_20 : decode cL_many 20 = .ok (.if_icmp .ne 7, 3) := g_dec dt153_L_many_ok (k := 16) rfl
theorem dL_many_27 : decode cL_many 27 = .ok (.iconst 0, 1) := g_dec dt153_L_many_ok (k := 17) rfl
theorem dL_many_23 : decode cL_many 23 = .ok (.iconst 1, 1) := g_dec dt153_L_many_ok (k := 18) rfl
theorem dL_many_24 : decode cL_many 24 = .ok (.goto 4, 3) := g_dec dt153_L_many_ok (k := 19) rfl
theorem dL_many_0 : decode cL_many 0 = .ok (.iconst 0, 1) := g_dec dt153_L_many_ok (k := 20) rfl
theorem dL_many_1 : decode cL_many 1 = .ok (.istore_n 3, 1) := g_dec dt153_L_many_ok (k := 21) rfl
theorem dL_many_2 : decode cL_many 2 = .ok (.iconst 0, 1) := g_dec dt153_L_many_ok (k := 22) rfl
theorem dL_many_3 : decode cL_many 3 = .ok (.istore 4, 2) := g_dec dt153_L_many_ok (k := 23) rfl
def dt154_L_beginning : List (Nat × Instr × Nat) := [(7, (.iload 8, 2)), (9, (.iload_n 3, 1)), (10, (.if_icmp .ge 22, 3)), (32, (.lload 6, 2)), (34, (.lreturn, 1)), (13, (.aload_n 0, 1)), (14, (.aload_n 1, 1)), (15, (.aload_n 2, 1)), (16, (.iload 8, 2)), (18, (.iaload, 1)), (19, (.lload 6, 2)), (21, (.invokestatic 49, 3)), (24, (.lstore 6, 2)), (26, (.iinc 8 1, 3)), (29, (.goto (-22), 3)), (0, (.lload 4, 2)), (2, (.lstore 6, 2)), (4, (.iconst 0, 1)), (5, (.istore 8, 2))]
theorem dt154_L_beginning_ok : ∀ q ∈ dt154_L_beginning, decode cL_beginning q.1 = .ok q.2 := by decide +kernel
theorem dL_beginning_7 : decode cL_beginning 7 = .ok (.iload 8, 2) := g_dec dt154_L_beginning_ok (k := 0) rfl
theorem dL_beginning_9 : decode cL_beginning 9 = .ok (.iload_n 3, 1) := g_dec dt154_L_beginning_ok (k := 1) rfl
theorem dL_beginning_10 : decode cL_beginning 10 = .ok (.if_icmp .ge 22, 3) := g_dec dt154_L_beginning_ok (k := 2) rfl
theorem dL_beginning_32 : decode cL_beginning 32 = .ok (.lload 6, 2) := g_dec dt154_L_beginning_ok (k := 3) rfl
theorem dL_beginning_34 : decode cL_beginning 34 = .ok (.lreturn, 1) := g_dec dt154_L_beginning_ok (k := 4) rfl
theorem dL_beginning_13 : decode cL_beginning 13 = .ok (.aload_n 0, 1) := g_dec dt154_L_beginning_ok (k := 5) rfl
theorem dL_beginning_14 : decode cL_beginning 14 = .ok (.aload_n 1, 1) := g_dec dt154_L_beginning_ok (k := 6) rfl
theorem dL_beginning_15 : decode cL_beginning 15 = .ok (.aload_n 2, 1) := g_dec dt154_L_beginning_ok (k := 7) rfl
theorem dL_beginning_16 : decode cL_beginning 16 = .ok (.iload 8, 2) := g_dec dt154_L_beginning_ok (k := 8) rfl
theorem dL_beginning_18 : decode cL_beginning 18 = .ok (.iaload, 1) := g_dec dt154_L_beginning_ok (k := 9) rfl
theorem dL_beginning_19 : decode cL_beginning 19 = .ok (.lload 6, 2) := g_dec dt154_L_beginning_ok (k := 10) rfl
theorem dL_beginning_21 : decode cL_beginning 21 = .ok (.invokestatic 49, 3) := g_dec dt154_L_beginning_ok (k := 11) rfl
theorem dL_beginning_24 : decode cL_beginning 24 = .ok (.lstore 6, 2) := g_dec dt154_L_beginning_ok (k := 12) rfl
theorem dL_beginning_26 : decode cL_beginning 26 = .ok (.iinc 8 1, 3) := g_dec dt154_L_beginning_ok (k := 13) rfl
theorem dL_beginning_29 : decode cL_beginning 29 = .ok (.goto (-22), 3) := g_dec dt154_L_beginning_ok (k := 14) rfl
theorem dL_beginning_0 : decode cL_beginning 0 = .ok (.lload 4, 2) := g_dec dt154_L_beginning_ok (k := 15) rfl
theorem dL_beginning_2 : decode cL_beginning 2 = .ok (.lstore 6, 2) := g_dec dt154_L_beginning_ok (k := 16) rfl
theorem dL_beginning_4 : decode cL_beginning 4 = .ok (.iconst 0, 1) := g_dec dt154_L_beginning_ok (k := 17) rfl
theorem dL_beginning_5 : decode cL_beginning 5 = .ok (.istore 8, 2) := g_dec dt154_L_beginning_ok (k := 18) rfl
def dt155_L_requiredOf : List (Nat × Instr × Nat) := [(7, (.iload 9, 2)), (9, (.iload 7, 2)), (11, (.if_icmp .ge 31, 3)), (42, (.iload 8, 2)), (44, (.ireturn, 1)), (14, (.iload 8, 2)), (16, (.aload_n 0, 1)), (17, (.aload_n 1, 1)), (18, (.aload_n 2, 1)), (19, (.aload_n 3, 1)), (20, (.aload 4, 2)), (22, (.aload 5, 2)), (24, (.iload 9, 2)), (26, (.iaload, 1)), (27, (.bipush 100, 2)), (29, (.irem, 1)), (30, (.invokestatic 53, 3)), (33, (.ior, 1)), (34, (.istore 8, 2)), (36, (.iinc 9 1, 3)), (39, (.goto (-32), 3)), (0, (.iconst 0, 1)), (1, (.istore 8, 2)), (3, (.iload 6, 2)), (5, (.istore 9, 2))]
theorem dt155_L_requiredOf_ok : ∀ q ∈ dt155_L_requiredOf, decode cL_requiredOf q.1 = .ok q.2 := by decide +kernel
theorem dL_requiredOf_7 : decode cL_requiredOf 7 = .ok (.iload 9, 2) := g_dec dt155_L_requiredOf_ok (k := 0) rfl
theorem dL_requiredOf_9 : decode cL_requiredOf 9 = .ok (.iload 7, 2) := g_dec dt155_L_requiredOf_ok (k := 1) rfl
theorem dL_requiredOf_11 : decode cL_requiredOf 11 = .ok (.if_icmp .ge 31, 3) := g_dec dt155_L_requiredOf_ok (k := 2) rfl
theorem dL_requiredOf_42 : decode cL_requiredOf 42 = .ok (.iload 8, 2) := g_dec dt155_L_requiredOf_ok (k := 3) rfl
theorem dL_requiredOf_44 : decode cL_requiredOf 44 = .ok (.ireturn, 1) := g_dec dt155_L_requiredOf_ok (k := 4) rfl
theorem dL_requiredOf_14 : decode cL_requiredOf 14 = .ok (.iload 8, 2) := g_dec dt155_L_requiredOf_ok (k := 5) rfl
theorem dL_requiredOf_16 : decode cL_requiredOf 16 = .ok (.aload_n 0, 1) := g_dec dt155_L_requiredOf_ok (k := 6) rfl
theorem dL_requiredOf_17 : decode cL_requiredOf 17 = .ok (.aload_n 1, 1) := g_dec dt155_L_requiredOf_ok (k := 7) rfl
theorem dL_requiredOf_18 : decode cL_requiredOf 18 = .ok (.aload_n 2, 1) := g_dec dt155_L_requiredOf_ok (k := 8) rfl
theorem dL_requiredOf_19 : decode cL_requiredOf 19 = .ok (.aload_n 3, 1) := g_dec dt155_L_requiredOf_ok (k := 9) rfl
theorem dL_requiredOf_20 : decode cL_requiredOf 20 = .ok (.aload 4, 2) := g_dec dt155_L_requiredOf_ok (k := 10) rfl
theorem dL_requiredOf_22 : decode cL_requiredOf 22 = .ok (.aload 5, 2) := g_dec dt155_L_requiredOf_ok (k := 11) rfl
theorem dL_requiredOf_24 : decode cL_requiredOf 24 = .ok (.iload 9, 2) := g_dec dt155_L_requiredOf_ok (k := 12) rfl
theorem dL_requiredOf_26 : decode cL_requiredOf 26 = .ok (.iaload, 1) := g_dec dt155_L_requiredOf_ok (k := 13) rfl
theorem dL_requiredOf_27 : decode cL_requiredOf 27 = .ok (.bipush 100, 2) := g_dec dt155_L_requiredOf_ok (k := 14) rfl
theorem dL_requiredOf_29 : decode cL_requiredOf 29 = .ok (.irem, 1) := g_dec dt155_L_requiredOf_ok (k := 15) rfl
theorem dL_requiredOf_30 : decode cL_requiredOf 30 = .ok (.invokestatic 53, 3) := g_dec dt155_L_requiredOf_ok (k := 16) rfl
theorem dL_requiredOf_33 : decode cL_requiredOf 33 = .ok (.ior, 1) := g_dec dt155_L_requiredOf_ok (k := 17) rfl
theorem dL_requiredOf_34 : decode cL_requiredOf 34 = .ok (.istore 8, 2) := g_dec dt155_L_requiredOf_ok (k := 18) rfl
theorem dL_requiredOf_36 : decode cL_requiredOf 36 = .ok (.iinc 9 1, 3) := g_dec dt155_L_requiredOf_ok (k := 19) rfl
theorem dL_requiredOf_39 : decode cL_requiredOf 39 = .ok (.goto (-32), 3) := g_dec dt155_L_requiredOf_ok (k := 20) rfl
theorem dL_requiredOf_0 : decode cL_requiredOf 0 = .ok (.iconst 0, 1) := g_dec dt155_L_requiredOf_ok (k := 21) rfl
theorem dL_requiredOf_1 : decode cL_requiredOf 1 = .ok (.istore 8, 2) := g_dec dt155_L_requiredOf_ok (k := 22) rfl
theorem dL_requiredOf_3 : decode cL_requiredOf 3 = .ok (.iload 6, 2) := g_dec dt155_L_requiredOf_ok (k := 23) rfl
theorem dL_requiredOf_5 : decode cL_requiredOf 5 = .ok (.istore 9, 2) := g_dec dt155_L_requiredOf_ok (k := 24) rfl
def dt156_L_bisects : List (Nat × Instr × Nat) := [(238, (.return_, 1)), (118, (.iload 16, 2)), (120, (.iconst 1, 1)), (121, (.aload 8, 2)), (123, (.bipush 6, 2)), (125, (.aload_n 1, 1)), (126, (.aload 9, 2)), (128, (.iload 15, 2)), (130, (.iaload, 1)), (131, (.iaload, 1)), (132, (.iadd, 1)), (133, (.iaload, 1)), (134, (.iadd, 1)), (135, (.iadd, 1)), (136, (.istore 16, 2)), (138, (.iinc 15 1, 3)), (141, (.goto (-52), 3)), (234, (.iastore, 1)), (235, (.goto (-219), 3)), (219, (.iastore, 1)), (220, (.aload 13, 2)), (222, (.iconst 2, 1)), (223, (.iload 17, 2)), (225, (.ifCond .ne 8, 3)), (233, (.iconst (-1), 1)), (228, (.iload 15, 2)), (230, (.goto 4, 3)), (200, (.iastore, 1)), (201, (.aload 13, 2)), (203, (.iconst 1, 1)), (204, (.iload 17, 2)), (206, (.iconst 2, 1)), (207, (.if_icmp .ne 8, 3)), (215, (.aload 13, 2)), (217, (.iconst 1, 1)), (218, (.iaload, 1)), (210, (.iload 15, 2)), (212, (.goto 7, 3)), (144, (.aload_n 0, 1)), (145, (.aload 4, 2)), (147, (.aload 6, 2)), (149, (.aload 7, 2)), (151, (.aload_n 0, 1)), (152, (.aload_n 1, 1)), (153, (.aload_n 2, 1)), (154, (.aload 4, 2)), (156, (.aload 5, 2)), (158, (.aload 9, 2)), (160, (.iconst 0, 1)), (161, (.iload 15, 2)), (163, (.invokestatic 56, 3)), (166, (.aload_n 2, 1)), (167, (.aload_n 3, 1)), (168, (.aload 9, 2)), (170, (.iload 15, 2)), (172, (.lload 11, 2)), (174, (.invokestatic 60, 3)), (177, (.invokestatic 64, 3)), (180, (.istore 17, 2)), (182, (.aload 13, 2))]
theorem dt156_L_bisects_ok : ∀ q ∈ dt156_L_bisects, decode cL_bisects q.1 = .ok q.2 := by decide +kernel
theorem dL_bisects_238 : decode cL_bisects 238 = .ok (.return_, 1) := g_dec dt156_L_bisects_ok (k := 0) rfl
theorem dL_bisects_118 : decode cL_bisects 118 = .ok (.iload 16, 2) := g_dec dt156_L_bisects_ok (k := 1) rfl
theorem dL_bisects_120 : decode cL_bisects 120 = .ok (.iconst 1, 1) := g_dec dt156_L_bisects_ok (k := 2) rfl
theorem dL_bisects_121 : decode cL_bisects 121 = .ok (.aload 8, 2) := g_dec dt156_L_bisects_ok (k := 3) rfl
theorem dL_bisects_123 : decode cL_bisects 123 = .ok (.bipush 6, 2) := g_dec dt156_L_bisects_ok (k := 4) rfl
theorem dL_bisects_125 : decode cL_bisects 125 = .ok (.aload_n 1, 1) := g_dec dt156_L_bisects_ok (k := 5) rfl
theorem dL_bisects_126 : decode cL_bisects 126 = .ok (.aload 9, 2) := g_dec dt156_L_bisects_ok (k := 6) rfl
theorem dL_bisects_128 : decode cL_bisects 128 = .ok (.iload 15, 2) := g_dec dt156_L_bisects_ok (k := 7) rfl
theorem dL_bisects_130 : decode cL_bisects 130 = .ok (.iaload, 1) := g_dec dt156_L_bisects_ok (k := 8) rfl
theorem dL_bisects_131 : decode cL_bisects 131 = .ok (.iaload, 1) := g_dec dt156_L_bisects_ok (k := 9) rfl
theorem dL_bisects_132 : decode cL_bisects 132 = .ok (.iadd, 1) := g_dec dt156_L_bisects_ok (k := 10) rfl
theorem dL_bisects_133 : decode cL_bisects 133 = .ok (.iaload, 1) := g_dec dt156_L_bisects_ok (k := 11) rfl
theorem dL_bisects_134 : decode cL_bisects 134 = .ok (.iadd, 1) := g_dec dt156_L_bisects_ok (k := 12) rfl
theorem dL_bisects_135 : decode cL_bisects 135 = .ok (.iadd, 1) := g_dec dt156_L_bisects_ok (k := 13) rfl
theorem dL_bisects_136 : decode cL_bisects 136 = .ok (.istore 16, 2) := g_dec dt156_L_bisects_ok (k := 14) rfl
theorem dL_bisects_138 : decode cL_bisects 138 = .ok (.iinc 15 1, 3) := g_dec dt156_L_bisects_ok (k := 15) rfl
theorem dL_bisects_141 : decode cL_bisects 141 = .ok (.goto (-52), 3) := g_dec dt156_L_bisects_ok (k := 16) rfl
theorem dL_bisects_234 : decode cL_bisects 234 = .ok (.iastore, 1) := g_dec dt156_L_bisects_ok (k := 17) rfl
theorem dL_bisects_235 : decode cL_bisects 235 = .ok (.goto (-219), 3) := g_dec dt156_L_bisects_ok (k := 18) rfl
theorem dL_bisects_219 : decode cL_bisects 219 = .ok (.iastore, 1) := g_dec dt156_L_bisects_ok (k := 19) rfl
theorem dL_bisects_220 : decode cL_bisects 220 = .ok (.aload 13, 2) := g_dec dt156_L_bisects_ok (k := 20) rfl
theorem dL_bisects_222 : decode cL_bisects 222 = .ok (.iconst 2, 1) := g_dec dt156_L_bisects_ok (k := 21) rfl
theorem dL_bisects_223 : decode cL_bisects 223 = .ok (.iload 17, 2) := g_dec dt156_L_bisects_ok (k := 22) rfl
theorem dL_bisects_225 : decode cL_bisects 225 = .ok (.ifCond .ne 8, 3) := g_dec dt156_L_bisects_ok (k := 23) rfl
theorem dL_bisects_233 : decode cL_bisects 233 = .ok (.iconst (-1), 1) := g_dec dt156_L_bisects_ok (k := 24) rfl
theorem dL_bisects_228 : decode cL_bisects 228 = .ok (.iload 15, 2) := g_dec dt156_L_bisects_ok (k := 25) rfl
theorem dL_bisects_230 : decode cL_bisects 230 = .ok (.goto 4, 3) := g_dec dt156_L_bisects_ok (k := 26) rfl
theorem dL_bisects_200 : decode cL_bisects 200 = .ok (.iastore, 1) := g_dec dt156_L_bisects_ok (k := 27) rfl
theorem dL_bisects_201 : decode cL_bisects 201 = .ok (.aload 13, 2) := g_dec dt156_L_bisects_ok (k := 28) rfl
theorem dL_bisects_203 : decode cL_bisects 203 = .ok (.iconst 1, 1) := g_dec dt156_L_bisects_ok (k := 29) rfl
theorem dL_bisects_204 : decode cL_bisects 204 = .ok (.iload 17, 2) := g_dec dt156_L_bisects_ok (k := 30) rfl
theorem dL_bisects_206 : decode cL_bisects 206 = .ok (.iconst 2, 1) := g_dec dt156_L_bisects_ok (k := 31) rfl
theorem dL_bisects_207 : decode cL_bisects 207 = .ok (.if_icmp .ne 8, 3) := g_dec dt156_L_bisects_ok (k := 32) rfl
theorem dL_bisects_215 : decode cL_bisects 215 = .ok (.aload 13, 2) := g_dec dt156_L_bisects_ok (k := 33) rfl
theorem dL_bisects_217 : decode cL_bisects 217 = .ok (.iconst 1, 1) := g_dec dt156_L_bisects_ok (k := 34) rfl
theorem dL_bisects_218 : decode cL_bisects 218 = .ok (.iaload, 1) := g_dec dt156_L_bisects_ok (k := 35) rfl
theorem dL_bisects_210 : decode cL_bisects 210 = .ok (.iload 15, 2) := g_dec dt156_L_bisects_ok (k := 36) rfl
theorem dL_bisects_212 : decode cL_bisects 212 = .ok (.goto 7, 3) := g_dec dt156_L_bisects_ok (k := 37) rfl
theorem dL_bisects_144 : decode cL_bisects 144 = .ok (.aload_n 0, 1) := g_dec dt156_L_bisects_ok (k := 38) rfl
theorem dL_bisects_145 : decode cL_bisects 145 = .ok (.aload 4, 2) := g_dec dt156_L_bisects_ok (k := 39) rfl
theorem dL_bisects_147 : decode cL_bisects 147 = .ok (.aload 6, 2) := g_dec dt156_L_bisects_ok (k := 40) rfl
theorem dL_bisects_149 : decode cL_bisects 149 = .ok (.aload 7, 2) := g_dec dt156_L_bisects_ok (k := 41) rfl
theorem dL_bisects_151 : decode cL_bisects 151 = .ok (.aload_n 0, 1) := g_dec dt156_L_bisects_ok (k := 42) rfl
theorem dL_bisects_152 : decode cL_bisects 152 = .ok (.aload_n 1, 1) := g_dec dt156_L_bisects_ok (k := 43) rfl
theorem dL_bisects_153 : decode cL_bisects 153 = .ok (.aload_n 2, 1) := g_dec dt156_L_bisects_ok (k := 44) rfl
theorem dL_bisects_154 : decode cL_bisects 154 = .ok (.aload 4, 2) := g_dec dt156_L_bisects_ok (k := 45) rfl
theorem dL_bisects_156 : decode cL_bisects 156 = .ok (.aload 5, 2) := g_dec dt156_L_bisects_ok (k := 46) rfl
theorem dL_bisects_158 : decode cL_bisects 158 = .ok (.aload 9, 2) := g_dec dt156_L_bisects_ok (k := 47) rfl
theorem dL_bisects_160 : decode cL_bisects 160 = .ok (.iconst 0, 1) := g_dec dt156_L_bisects_ok (k := 48) rfl
theorem dL_bisects_161 : decode cL_bisects 161 = .ok (.iload 15, 2) := g_dec dt156_L_bisects_ok (k := 49) rfl
theorem dL_bisects_163 : decode cL_bisects 163 = .ok (.invokestatic 56, 3) := g_dec dt156_L_bisects_ok (k := 50) rfl
theorem dL_bisects_166 : decode cL_bisects 166 = .ok (.aload_n 2, 1) := g_dec dt156_L_bisects_ok (k := 51) rfl
theorem dL_bisects_167 : decode cL_bisects 167 = .ok (.aload_n 3, 1) := g_dec dt156_L_bisects_ok (k := 52) rfl
theorem dL_bisects_168 : decode cL_bisects 168 = .ok (.aload 9, 2) := g_dec dt156_L_bisects_ok (k := 53) rfl
theorem dL_bisects_170 : decode cL_bisects 170 = .ok (.iload 15, 2) := g_dec dt156_L_bisects_ok (k := 54) rfl
theorem dL_bisects_172 : decode cL_bisects 172 = .ok (.lload 11, 2) := g_dec dt156_L_bisects_ok (k := 55) rfl
theorem dL_bisects_174 : decode cL_bisects 174 = .ok (.invokestatic 60, 3) := g_dec dt156_L_bisects_ok (k := 56) rfl
theorem dL_bisects_177 : decode cL_bisects 177 = .ok (.invokestatic 64, 3) := g_dec dt156_L_bisects_ok (k := 57) rfl
theorem dL_bisects_180 : decode cL_bisects 180 = .ok (.istore 17, 2) := g_dec dt156_L_bisects_ok (k := 58) rfl
theorem dL_bisects_182 : decode cL_bisects 182 = .ok (.aload 13, 2) := g_dec dt156_L_bisects_ok (k := 59) rfl
def dt157_L_bisects : List (Nat × Instr × Nat) := [(184, (.iconst 0, 1)), (185, (.iload 17, 2)), (187, (.iconst 1, 1)), (188, (.if_icmp .ne 8, 3)), (196, (.aload 13, 2)), (198, (.iconst 0, 1)), (199, (.iaload, 1)), (191, (.iload 15, 2)), (193, (.goto 7, 3)), (89, (.iload 15, 2)), (91, (.aload 13, 2)), (93, (.iconst 0, 1)), (94, (.iaload, 1)), (95, (.if_icmp .eq 23, 3)), (98, (.iload 15, 2)), (100, (.aload 13, 2)), (102, (.iconst 1, 1)), (103, (.iaload, 1)), (104, (.iconst 1, 1)), (105, (.isub, 1)), (106, (.if_icmp .ge 38, 3)), (109, (.iconst 2, 1)), (110, (.iload 16, 2)), (112, (.imul, 1)), (113, (.iload 14, 2)), (115, (.if_icmp .ge 29, 3)), (45, (.iload 15, 2)), (47, (.aload 13, 2)), (49, (.iconst 1, 1)), (50, (.iaload, 1)), (51, (.if_icmp .ge 29, 3)), (80, (.aload 13, 2)), (82, (.iconst 0, 1)), (83, (.iaload, 1)), (84, (.istore 15, 2)), (86, (.iconst 0, 1)), (87, (.istore 16, 2)), (54, (.iload 14, 2)), (56, (.iconst 1, 1)), (57, (.aload 8, 2)), (59, (.bipush 6, 2)), (61, (.aload_n 1, 1)), (62, (.aload 9, 2)), (64, (.iload 15, 2)), (66, (.iaload, 1)), (67, (.iaload, 1)), (68, (.iadd, 1)), (69, (.iaload, 1)), (70, (.iadd, 1)), (71, (.iadd, 1)), (72, (.istore 14, 2)), (74, (.iinc 15 1, 3)), (77, (.goto (-32), 3)), (16, (.aload 13, 2)), (18, (.iconst 1, 1)), (19, (.iaload, 1)), (20, (.aload 13, 2)), (22, (.iconst 0, 1)), (23, (.iaload, 1)), (24, (.isub, 1))]
theorem dt157_L_bisects_ok : ∀ q ∈ dt157_L_bisects, decode cL_bisects q.1 = .ok q.2 := by decide +kernel
theorem dL_bisects_184 : decode cL_bisects 184 = .ok (.iconst 0, 1) := g_dec dt157_L_bisects_ok (k := 0) rfl
theorem dL_bisects_185 : decode cL_bisects 185 = .ok (.iload 17, 2) := g_dec dt157_L_bisects_ok (k := 1) rfl
theorem dL_bisects_187 : decode cL_bisects 187 = .ok (.iconst 1, 1) := g_dec dt157_L_bisects_ok (k := 2) rfl
theorem dL_bisects_188 : decode cL_bisects 188 = .ok (.if_icmp .ne 8, 3) := g_dec dt157_L_bisects_ok (k := 3) rfl
theorem dL_bisects_196 : decode cL_bisects 196 = .ok (.aload 13, 2) := g_dec dt157_L_bisects_ok (k := 4) rfl
theorem dL_bisects_198 : decode cL_bisects 198 = .ok (.iconst 0, 1) := g_dec dt157_L_bisects_ok (k := 5) rfl
theorem dL_bisects_199 : decode cL_bisects 199 = .ok (.iaload, 1) := g_dec dt157_L_bisects_ok (k := 6) rfl
theorem dL_bisects_191 : decode cL_bisects 191 = .ok (.iload 15, 2) := g_dec dt157_L_bisects_ok (k := 7) rfl
theorem dL_bisects_193 : decode cL_bisects 193 = .ok (.goto 7, 3) := g_dec dt157_L_bisects_ok (k := 8) rfl
theorem dL_bisects_89 : decode cL_bisects 89 = .ok (.iload 15, 2) := g_dec dt157_L_bisects_ok (k := 9) rfl
theorem dL_bisects_91 : decode cL_bisects 91 = .ok (.aload 13, 2) := g_dec dt157_L_bisects_ok (k := 10) rfl
theorem dL_bisects_93 : decode cL_bisects 93 = .ok (.iconst 0, 1) := g_dec dt157_L_bisects_ok (k := 11) rfl
theorem dL_bisects_94 : decode cL_bisects 94 = .ok (.iaload, 1) := g_dec dt157_L_bisects_ok (k := 12) rfl
theorem dL_bisects_95 : decode cL_bisects 95 = .ok (.if_icmp .eq 23, 3) := g_dec dt157_L_bisects_ok (k := 13) rfl
theorem dL_bisects_98 : decode cL_bisects 98 = .ok (.iload 15, 2) := g_dec dt157_L_bisects_ok (k := 14) rfl
theorem dL_bisects_100 : decode cL_bisects 100 = .ok (.aload 13, 2) := g_dec dt157_L_bisects_ok (k := 15) rfl
theorem dL_bisects_102 : decode cL_bisects 102 = .ok (.iconst 1, 1) := g_dec dt157_L_bisects_ok (k := 16) rfl
theorem dL_bisects_103 : decode cL_bisects 103 = .ok (.iaload, 1) := g_dec dt157_L_bisects_ok (k := 17) rfl
theorem dL_bisects_104 : decode cL_bisects 104 = .ok (.iconst 1, 1) := g_dec dt157_L_bisects_ok (k := 18) rfl
theorem dL_bisects_105 : decode cL_bisects 105 = .ok (.isub, 1) := g_dec dt157_L_bisects_ok (k := 19) rfl
theorem dL_bisects_106 : decode cL_bisects 106 = .ok (.if_icmp .ge 38, 3) := g_dec dt157_L_bisects_ok (k := 20) rfl
theorem dL_bisects_109 : decode cL_bisects 109 = .ok (.iconst 2, 1) := g_dec dt157_L_bisects_ok (k := 21) rfl
theorem dL_bisects_110 : decode cL_bisects 110 = .ok (.iload 16, 2) := g_dec dt157_L_bisects_ok (k := 22) rfl
theorem dL_bisects_112 : decode cL_bisects 112 = .ok (.imul, 1) := g_dec dt157_L_bisects_ok (k := 23) rfl
theorem dL_bisects_113 : decode cL_bisects 113 = .ok (.iload 14, 2) := g_dec dt157_L_bisects_ok (k := 24) rfl
theorem dL_bisects_115 : decode cL_bisects 115 = .ok (.if_icmp .ge 29, 3) := g_dec dt157_L_bisects_ok (k := 25) rfl
theorem dL_bisects_45 : decode cL_bisects 45 = .ok (.iload 15, 2) := g_dec dt157_L_bisects_ok (k := 26) rfl
theorem dL_bisects_47 : decode cL_bisects 47 = .ok (.aload 13, 2) := g_dec dt157_L_bisects_ok (k := 27) rfl
theorem dL_bisects_49 : decode cL_bisects 49 = .ok (.iconst 1, 1) := g_dec dt157_L_bisects_ok (k := 28) rfl
theorem dL_bisects_50 : decode cL_bisects 50 = .ok (.iaload, 1) := g_dec dt157_L_bisects_ok (k := 29) rfl
theorem dL_bisects_51 : decode cL_bisects 51 = .ok (.if_icmp .ge 29, 3) := g_dec dt157_L_bisects_ok (k := 30) rfl
theorem dL_bisects_80 : decode cL_bisects 80 = .ok (.aload 13, 2) := g_dec dt157_L_bisects_ok (k := 31) rfl
theorem dL_bisects_82 : decode cL_bisects 82 = .ok (.iconst 0, 1) := g_dec dt157_L_bisects_ok (k := 32) rfl
theorem dL_bisects_83 : decode cL_bisects 83 = .ok (.iaload, 1) := g_dec dt157_L_bisects_ok (k := 33) rfl
theorem dL_bisects_84 : decode cL_bisects 84 = .ok (.istore 15, 2) := g_dec dt157_L_bisects_ok (k := 34) rfl
theorem dL_bisects_86 : decode cL_bisects 86 = .ok (.iconst 0, 1) := g_dec dt157_L_bisects_ok (k := 35) rfl
theorem dL_bisects_87 : decode cL_bisects 87 = .ok (.istore 16, 2) := g_dec dt157_L_bisects_ok (k := 36) rfl
theorem dL_bisects_54 : decode cL_bisects 54 = .ok (.iload 14, 2) := g_dec dt157_L_bisects_ok (k := 37) rfl
theorem dL_bisects_56 : decode cL_bisects 56 = .ok (.iconst 1, 1) := g_dec dt157_L_bisects_ok (k := 38) rfl
theorem dL_bisects_57 : decode cL_bisects 57 = .ok (.aload 8, 2) := g_dec dt157_L_bisects_ok (k := 39) rfl
theorem dL_bisects_59 : decode cL_bisects 59 = .ok (.bipush 6, 2) := g_dec dt157_L_bisects_ok (k := 40) rfl
theorem dL_bisects_61 : decode cL_bisects 61 = .ok (.aload_n 1, 1) := g_dec dt157_L_bisects_ok (k := 41) rfl
theorem dL_bisects_62 : decode cL_bisects 62 = .ok (.aload 9, 2) := g_dec dt157_L_bisects_ok (k := 42) rfl
theorem dL_bisects_64 : decode cL_bisects 64 = .ok (.iload 15, 2) := g_dec dt157_L_bisects_ok (k := 43) rfl
theorem dL_bisects_66 : decode cL_bisects 66 = .ok (.iaload, 1) := g_dec dt157_L_bisects_ok (k := 44) rfl
theorem dL_bisects_67 : decode cL_bisects 67 = .ok (.iaload, 1) := g_dec dt157_L_bisects_ok (k := 45) rfl
theorem dL_bisects_68 : decode cL_bisects 68 = .ok (.iadd, 1) := g_dec dt157_L_bisects_ok (k := 46) rfl
theorem dL_bisects_69 : decode cL_bisects 69 = .ok (.iaload, 1) := g_dec dt157_L_bisects_ok (k := 47) rfl
theorem dL_bisects_70 : decode cL_bisects 70 = .ok (.iadd, 1) := g_dec dt157_L_bisects_ok (k := 48) rfl
theorem dL_bisects_71 : decode cL_bisects 71 = .ok (.iadd, 1) := g_dec dt157_L_bisects_ok (k := 49) rfl
theorem dL_bisects_72 : decode cL_bisects 72 = .ok (.istore 14, 2) := g_dec dt157_L_bisects_ok (k := 50) rfl
theorem dL_bisects_74 : decode cL_bisects 74 = .ok (.iinc 15 1, 3) := g_dec dt157_L_bisects_ok (k := 51) rfl
theorem dL_bisects_77 : decode cL_bisects 77 = .ok (.goto (-32), 3) := g_dec dt157_L_bisects_ok (k := 52) rfl
theorem dL_bisects_16 : decode cL_bisects 16 = .ok (.aload 13, 2) := g_dec dt157_L_bisects_ok (k := 53) rfl
theorem dL_bisects_18 : decode cL_bisects 18 = .ok (.iconst 1, 1) := g_dec dt157_L_bisects_ok (k := 54) rfl
theorem dL_bisects_19 : decode cL_bisects 19 = .ok (.iaload, 1) := g_dec dt157_L_bisects_ok (k := 55) rfl
theorem dL_bisects_20 : decode cL_bisects 20 = .ok (.aload 13, 2) := g_dec dt157_L_bisects_ok (k := 56) rfl
theorem dL_bisects_22 : decode cL_bisects 22 = .ok (.iconst 0, 1) := g_dec dt157_L_bisects_ok (k := 57) rfl
theorem dL_bisects_23 : decode cL_bisects 23 = .ok (.iaload, 1) := g_dec dt157_L_bisects_ok (k := 58) rfl
theorem dL_bisects_24 : decode cL_bisects 24 = .ok (.isub, 1) := g_dec dt157_L_bisects_ok (k := 59) rfl
def dt158_L_bisects : List (Nat × Instr × Nat) := [(25, (.iconst 1, 1)), (26, (.if_icmp .le 212, 3)), (29, (.aload 13, 2)), (31, (.iconst 2, 1)), (32, (.iaload, 1)), (33, (.ifCond .ge 205, 3)), (36, (.iconst 0, 1)), (37, (.istore 14, 2)), (39, (.aload 13, 2)), (41, (.iconst 0, 1)), (42, (.iaload, 1)), (43, (.istore 15, 2)), (0, (.aload 13, 2)), (2, (.iconst 0, 1)), (3, (.iconst 0, 1)), (4, (.iastore, 1)), (5, (.aload 13, 2)), (7, (.iconst 1, 1)), (8, (.iload 10, 2)), (10, (.iastore, 1)), (11, (.aload 13, 2)), (13, (.iconst 2, 1)), (14, (.iconst (-1), 1)), (15, (.iastore, 1))]
theorem dt158_L_bisects_ok : ∀ q ∈ dt158_L_bisects, decode cL_bisects q.1 = .ok q.2 := by decide +kernel
theorem dL_bisects_25 : decode cL_bisects 25 = .ok (.iconst 1, 1) := g_dec dt158_L_bisects_ok (k := 0) rfl
theorem dL_bisects_26 : decode cL_bisects 26 = .ok (.if_icmp .le 212, 3) := g_dec dt158_L_bisects_ok (k := 1) rfl
theorem dL_bisects_29 : decode cL_bisects 29 = .ok (.aload 13, 2) := g_dec dt158_L_bisects_ok (k := 2) rfl
theorem dL_bisects_31 : decode cL_bisects 31 = .ok (.iconst 2, 1) := g_dec dt158_L_bisects_ok (k := 3) rfl
theorem dL_bisects_32 : decode cL_bisects 32 = .ok (.iaload, 1) := g_dec dt158_L_bisects_ok (k := 4) rfl
theorem dL_bisects_33 : decode cL_bisects 33 = .ok (.ifCond .ge 205, 3) := g_dec dt158_L_bisects_ok (k := 5) rfl
theorem dL_bisects_36 : decode cL_bisects 36 = .ok (.iconst 0, 1) := g_dec dt158_L_bisects_ok (k := 6) rfl
theorem dL_bisects_37 : decode cL_bisects 37 = .ok (.istore 14, 2) := g_dec dt158_L_bisects_ok (k := 7) rfl
theorem dL_bisects_39 : decode cL_bisects 39 = .ok (.aload 13, 2) := g_dec dt158_L_bisects_ok (k := 8) rfl
theorem dL_bisects_41 : decode cL_bisects 41 = .ok (.iconst 0, 1) := g_dec dt158_L_bisects_ok (k := 9) rfl
theorem dL_bisects_42 : decode cL_bisects 42 = .ok (.iaload, 1) := g_dec dt158_L_bisects_ok (k := 10) rfl
theorem dL_bisects_43 : decode cL_bisects 43 = .ok (.istore 15, 2) := g_dec dt158_L_bisects_ok (k := 11) rfl
theorem dL_bisects_0 : decode cL_bisects 0 = .ok (.aload 13, 2) := g_dec dt158_L_bisects_ok (k := 12) rfl
theorem dL_bisects_2 : decode cL_bisects 2 = .ok (.iconst 0, 1) := g_dec dt158_L_bisects_ok (k := 13) rfl
theorem dL_bisects_3 : decode cL_bisects 3 = .ok (.iconst 0, 1) := g_dec dt158_L_bisects_ok (k := 14) rfl
theorem dL_bisects_4 : decode cL_bisects 4 = .ok (.iastore, 1) := g_dec dt158_L_bisects_ok (k := 15) rfl
theorem dL_bisects_5 : decode cL_bisects 5 = .ok (.aload 13, 2) := g_dec dt158_L_bisects_ok (k := 16) rfl
theorem dL_bisects_7 : decode cL_bisects 7 = .ok (.iconst 1, 1) := g_dec dt158_L_bisects_ok (k := 17) rfl
theorem dL_bisects_8 : decode cL_bisects 8 = .ok (.iload 10, 2) := g_dec dt158_L_bisects_ok (k := 18) rfl
theorem dL_bisects_10 : decode cL_bisects 10 = .ok (.iastore, 1) := g_dec dt158_L_bisects_ok (k := 19) rfl
theorem dL_bisects_11 : decode cL_bisects 11 = .ok (.aload 13, 2) := g_dec dt158_L_bisects_ok (k := 20) rfl
theorem dL_bisects_13 : decode cL_bisects 13 = .ok (.iconst 2, 1) := g_dec dt158_L_bisects_ok (k := 21) rfl
theorem dL_bisects_14 : decode cL_bisects 14 = .ok (.iconst (-1), 1) := g_dec dt158_L_bisects_ok (k := 22) rfl
theorem dL_bisects_15 : decode cL_bisects 15 = .ok (.iastore, 1) := g_dec dt158_L_bisects_ok (k := 23) rfl
def dt159_L_failed : List (Nat × Instr × Nat) := [(131, (.ior, 1)), (132, (.istore 14, 2)), (134, (.iinc 15 1, 3)), (137, (.goto (-112), 3)), (130, (.iconst 0, 1)), (123, (.iconst 1, 1)), (124, (.iload 15, 2)), (126, (.ishl, 1)), (127, (.goto 4, 3)), (78, (.istore 16, 2)), (80, (.iload 14, 2)), (82, (.iload 16, 2)), (84, (.ifCond .eq 46, 3)), (87, (.iload 12, 2)), (89, (.iconst 3, 1)), (90, (.if_icmp .eq 33, 3)), (93, (.aload_n 0, 1)), (94, (.aload 4, 2)), (96, (.aload 6, 2)), (98, (.aload 7, 2)), (100, (.iload 15, 2)), (102, (.aload_n 2, 1)), (103, (.aload_n 3, 1)), (104, (.aload 8, 2)), (106, (.aload 11, 2)), (108, (.iconst 0, 1)), (109, (.iaload, 1)), (110, (.lload 9, 2)), (112, (.invokestatic 60, 3)), (115, (.invokestatic 25, 3)), (118, (.iload 12, 2)), (120, (.if_icmp .ne 10, 3)), (77, (.iconst 0, 1)), (25, (.iload 15, 2)), (27, (.aload_n 0, 1)), (28, (.iconst 2, 1)), (29, (.iaload, 1)), (30, (.if_icmp .ge 110, 3)), (140, (.iload 14, 2)), (142, (.ireturn, 1)), (33, (.iload 13, 2)), (35, (.iload 15, 2)), (37, (.ishr, 1)), (38, (.iconst 1, 1)), (39, (.iand, 1)), (40, (.iconst 1, 1)), (41, (.if_icmp .ne 36, 3)), (44, (.aload_n 0, 1)), (45, (.aload 4, 2)), (47, (.aload 6, 2)), (49, (.aload 7, 2)), (51, (.iload 15, 2)), (53, (.aload_n 2, 1)), (54, (.aload_n 3, 1)), (55, (.aload 8, 2)), (57, (.aload 11, 2)), (59, (.iconst 1, 1)), (60, (.iaload, 1)), (61, (.lload 9, 2)), (63, (.invokestatic 60, 3))]
theorem dt159_L_failed_ok : ∀ q ∈ dt159_L_failed, decode cL_failed q.1 = .ok q.2 := by decide +kernel
theorem dL_failed_131 : decode cL_failed 131 = .ok (.ior, 1) := g_dec dt159_L_failed_ok (k := 0) rfl
theorem dL_failed_132 : decode cL_failed 132 = .ok (.istore 14, 2) := g_dec dt159_L_failed_ok (k := 1) rfl
theorem dL_failed_134 : decode cL_failed 134 = .ok (.iinc 15 1, 3) := g_dec dt159_L_failed_ok (k := 2) rfl
theorem dL_failed_137 : decode cL_failed 137 = .ok (.goto (-112), 3) := g_dec dt159_L_failed_ok (k := 3) rfl
theorem dL_failed_130 : decode cL_failed 130 = .ok (.iconst 0, 1) := g_dec dt159_L_failed_ok (k := 4) rfl
theorem dL_failed_123 : decode cL_failed 123 = .ok (.iconst 1, 1) := g_dec dt159_L_failed_ok (k := 5) rfl
theorem dL_failed_124 : decode cL_failed 124 = .ok (.iload 15, 2) := g_dec dt159_L_failed_ok (k := 6) rfl
theorem dL_failed_126 : decode cL_failed 126 = .ok (.ishl, 1) := g_dec dt159_L_failed_ok (k := 7) rfl
theorem dL_failed_127 : decode cL_failed 127 = .ok (.goto 4, 3) := g_dec dt159_L_failed_ok (k := 8) rfl
theorem dL_failed_78 : decode cL_failed 78 = .ok (.istore 16, 2) := g_dec dt159_L_failed_ok (k := 9) rfl
theorem dL_failed_80 : decode cL_failed 80 = .ok (.iload 14, 2) := g_dec dt159_L_failed_ok (k := 10) rfl
theorem dL_failed_82 : decode cL_failed 82 = .ok (.iload 16, 2) := g_dec dt159_L_failed_ok (k := 11) rfl
theorem dL_failed_84 : decode cL_failed 84 = .ok (.ifCond .eq 46, 3) := g_dec dt159_L_failed_ok (k := 12) rfl
theorem dL_failed_87 : decode cL_failed 87 = .ok (.iload 12, 2) := g_dec dt159_L_failed_ok (k := 13) rfl
theorem dL_failed_89 : decode cL_failed 89 = .ok (.iconst 3, 1) := g_dec dt159_L_failed_ok (k := 14) rfl
theorem dL_failed_90 : decode cL_failed 90 = .ok (.if_icmp .eq 33, 3) := g_dec dt159_L_failed_ok (k := 15) rfl
theorem dL_failed_93 : decode cL_failed 93 = .ok (.aload_n 0, 1) := g_dec dt159_L_failed_ok (k := 16) rfl
theorem dL_failed_94 : decode cL_failed 94 = .ok (.aload 4, 2) := g_dec dt159_L_failed_ok (k := 17) rfl
theorem dL_failed_96 : decode cL_failed 96 = .ok (.aload 6, 2) := g_dec dt159_L_failed_ok (k := 18) rfl
theorem dL_failed_98 : decode cL_failed 98 = .ok (.aload 7, 2) := g_dec dt159_L_failed_ok (k := 19) rfl
theorem dL_failed_100 : decode cL_failed 100 = .ok (.iload 15, 2) := g_dec dt159_L_failed_ok (k := 20) rfl
theorem dL_failed_102 : decode cL_failed 102 = .ok (.aload_n 2, 1) := g_dec dt159_L_failed_ok (k := 21) rfl
theorem dL_failed_103 : decode cL_failed 103 = .ok (.aload_n 3, 1) := g_dec dt159_L_failed_ok (k := 22) rfl
theorem dL_failed_104 : decode cL_failed 104 = .ok (.aload 8, 2) := g_dec dt159_L_failed_ok (k := 23) rfl
theorem dL_failed_106 : decode cL_failed 106 = .ok (.aload 11, 2) := g_dec dt159_L_failed_ok (k := 24) rfl
theorem dL_failed_108 : decode cL_failed 108 = .ok (.iconst 0, 1) := g_dec dt159_L_failed_ok (k := 25) rfl
theorem dL_failed_109 : decode cL_failed 109 = .ok (.iaload, 1) := g_dec dt159_L_failed_ok (k := 26) rfl
theorem dL_failed_110 : decode cL_failed 110 = .ok (.lload 9, 2) := g_dec dt159_L_failed_ok (k := 27) rfl
theorem dL_failed_112 : decode cL_failed 112 = .ok (.invokestatic 60, 3) := g_dec dt159_L_failed_ok (k := 28) rfl
theorem dL_failed_115 : decode cL_failed 115 = .ok (.invokestatic 25, 3) := g_dec dt159_L_failed_ok (k := 29) rfl
theorem dL_failed_118 : decode cL_failed 118 = .ok (.iload 12, 2) := g_dec dt159_L_failed_ok (k := 30) rfl
theorem dL_failed_120 : decode cL_failed 120 = .ok (.if_icmp .ne 10, 3) := g_dec dt159_L_failed_ok (k := 31) rfl
theorem dL_failed_77 : decode cL_failed 77 = .ok (.iconst 0, 1) := g_dec dt159_L_failed_ok (k := 32) rfl
theorem dL_failed_25 : decode cL_failed 25 = .ok (.iload 15, 2) := g_dec dt159_L_failed_ok (k := 33) rfl
theorem dL_failed_27 : decode cL_failed 27 = .ok (.aload_n 0, 1) := g_dec dt159_L_failed_ok (k := 34) rfl
theorem dL_failed_28 : decode cL_failed 28 = .ok (.iconst 2, 1) := g_dec dt159_L_failed_ok (k := 35) rfl
theorem dL_failed_29 : decode cL_failed 29 = .ok (.iaload, 1) := g_dec dt159_L_failed_ok (k := 36) rfl
theorem dL_failed_30 : decode cL_failed 30 = .ok (.if_icmp .ge 110, 3) := g_dec dt159_L_failed_ok (k := 37) rfl
theorem dL_failed_140 : decode cL_failed 140 = .ok (.iload 14, 2) := g_dec dt159_L_failed_ok (k := 38) rfl
theorem dL_failed_142 : decode cL_failed 142 = .ok (.ireturn, 1) := g_dec dt159_L_failed_ok (k := 39) rfl
theorem dL_failed_33 : decode cL_failed 33 = .ok (.iload 13, 2) := g_dec dt159_L_failed_ok (k := 40) rfl
theorem dL_failed_35 : decode cL_failed 35 = .ok (.iload 15, 2) := g_dec dt159_L_failed_ok (k := 41) rfl
theorem dL_failed_37 : decode cL_failed 37 = .ok (.ishr, 1) := g_dec dt159_L_failed_ok (k := 42) rfl
theorem dL_failed_38 : decode cL_failed 38 = .ok (.iconst 1, 1) := g_dec dt159_L_failed_ok (k := 43) rfl
theorem dL_failed_39 : decode cL_failed 39 = .ok (.iand, 1) := g_dec dt159_L_failed_ok (k := 44) rfl
theorem dL_failed_40 : decode cL_failed 40 = .ok (.iconst 1, 1) := g_dec dt159_L_failed_ok (k := 45) rfl
theorem dL_failed_41 : decode cL_failed 41 = .ok (.if_icmp .ne 36, 3) := g_dec dt159_L_failed_ok (k := 46) rfl
theorem dL_failed_44 : decode cL_failed 44 = .ok (.aload_n 0, 1) := g_dec dt159_L_failed_ok (k := 47) rfl
theorem dL_failed_45 : decode cL_failed 45 = .ok (.aload 4, 2) := g_dec dt159_L_failed_ok (k := 48) rfl
theorem dL_failed_47 : decode cL_failed 47 = .ok (.aload 6, 2) := g_dec dt159_L_failed_ok (k := 49) rfl
theorem dL_failed_49 : decode cL_failed 49 = .ok (.aload 7, 2) := g_dec dt159_L_failed_ok (k := 50) rfl
theorem dL_failed_51 : decode cL_failed 51 = .ok (.iload 15, 2) := g_dec dt159_L_failed_ok (k := 51) rfl
theorem dL_failed_53 : decode cL_failed 53 = .ok (.aload_n 2, 1) := g_dec dt159_L_failed_ok (k := 52) rfl
theorem dL_failed_54 : decode cL_failed 54 = .ok (.aload_n 3, 1) := g_dec dt159_L_failed_ok (k := 53) rfl
theorem dL_failed_55 : decode cL_failed 55 = .ok (.aload 8, 2) := g_dec dt159_L_failed_ok (k := 54) rfl
theorem dL_failed_57 : decode cL_failed 57 = .ok (.aload 11, 2) := g_dec dt159_L_failed_ok (k := 55) rfl
theorem dL_failed_59 : decode cL_failed 59 = .ok (.iconst 1, 1) := g_dec dt159_L_failed_ok (k := 56) rfl
theorem dL_failed_60 : decode cL_failed 60 = .ok (.iaload, 1) := g_dec dt159_L_failed_ok (k := 57) rfl
theorem dL_failed_61 : decode cL_failed 61 = .ok (.lload 9, 2) := g_dec dt159_L_failed_ok (k := 58) rfl
theorem dL_failed_63 : decode cL_failed 63 = .ok (.invokestatic 60, 3) := g_dec dt159_L_failed_ok (k := 59) rfl
def dt160_L_failed : List (Nat × Instr × Nat) := [(66, (.invokestatic 25, 3)), (69, (.iconst 2, 1)), (70, (.if_icmp .ne 7, 3)), (73, (.iconst 1, 1)), (74, (.goto 4, 3)), (0, (.aload_n 0, 1)), (1, (.aload_n 1, 1)), (2, (.aload_n 2, 1)), (3, (.aload 4, 2)), (5, (.aload 5, 2)), (7, (.aload 8, 2)), (9, (.iconst 0, 1)), (10, (.aload 11, 2)), (12, (.iconst 1, 1)), (13, (.iaload, 1)), (14, (.invokestatic 56, 3)), (17, (.istore 13, 2)), (19, (.iconst 0, 1)), (20, (.istore 14, 2)), (22, (.iconst 0, 1)), (23, (.istore 15, 2))]
theorem dt160_L_failed_ok : ∀ q ∈ dt160_L_failed, decode cL_failed q.1 = .ok q.2 := by decide +kernel
theorem dL_failed_66 : decode cL_failed 66 = .ok (.invokestatic 25, 3) := g_dec dt160_L_failed_ok (k := 0) rfl
theorem dL_failed_69 : decode cL_failed 69 = .ok (.iconst 2, 1) := g_dec dt160_L_failed_ok (k := 1) rfl
theorem dL_failed_70 : decode cL_failed 70 = .ok (.if_icmp .ne 7, 3) := g_dec dt160_L_failed_ok (k := 2) rfl
theorem dL_failed_73 : decode cL_failed 73 = .ok (.iconst 1, 1) := g_dec dt160_L_failed_ok (k := 3) rfl
theorem dL_failed_74 : decode cL_failed 74 = .ok (.goto 4, 3) := g_dec dt160_L_failed_ok (k := 4) rfl
theorem dL_failed_0 : decode cL_failed 0 = .ok (.aload_n 0, 1) := g_dec dt160_L_failed_ok (k := 5) rfl
theorem dL_failed_1 : decode cL_failed 1 = .ok (.aload_n 1, 1) := g_dec dt160_L_failed_ok (k := 6) rfl
theorem dL_failed_2 : decode cL_failed 2 = .ok (.aload_n 2, 1) := g_dec dt160_L_failed_ok (k := 7) rfl
theorem dL_failed_3 : decode cL_failed 3 = .ok (.aload 4, 2) := g_dec dt160_L_failed_ok (k := 8) rfl
theorem dL_failed_5 : decode cL_failed 5 = .ok (.aload 5, 2) := g_dec dt160_L_failed_ok (k := 9) rfl
theorem dL_failed_7 : decode cL_failed 7 = .ok (.aload 8, 2) := g_dec dt160_L_failed_ok (k := 10) rfl
theorem dL_failed_9 : decode cL_failed 9 = .ok (.iconst 0, 1) := g_dec dt160_L_failed_ok (k := 11) rfl
theorem dL_failed_10 : decode cL_failed 10 = .ok (.aload 11, 2) := g_dec dt160_L_failed_ok (k := 12) rfl
theorem dL_failed_12 : decode cL_failed 12 = .ok (.iconst 1, 1) := g_dec dt160_L_failed_ok (k := 13) rfl
theorem dL_failed_13 : decode cL_failed 13 = .ok (.iaload, 1) := g_dec dt160_L_failed_ok (k := 14) rfl
theorem dL_failed_14 : decode cL_failed 14 = .ok (.invokestatic 56, 3) := g_dec dt160_L_failed_ok (k := 15) rfl
theorem dL_failed_17 : decode cL_failed 17 = .ok (.istore 13, 2) := g_dec dt160_L_failed_ok (k := 16) rfl
theorem dL_failed_19 : decode cL_failed 19 = .ok (.iconst 0, 1) := g_dec dt160_L_failed_ok (k := 17) rfl
theorem dL_failed_20 : decode cL_failed 20 = .ok (.istore 14, 2) := g_dec dt160_L_failed_ok (k := 18) rfl
theorem dL_failed_22 : decode cL_failed 22 = .ok (.iconst 0, 1) := g_dec dt160_L_failed_ok (k := 19) rfl
theorem dL_failed_23 : decode cL_failed 23 = .ok (.istore 15, 2) := g_dec dt160_L_failed_ok (k := 20) rfl
def dt161_L_leaves : List (Nat × Instr × Nat) := [(91, (.iadd, 1)), (92, (.istore 5, 2)), (94, (.iinc 7 1, 3)), (97, (.goto (-75), 3)), (78, (.iastore, 1)), (79, (.iload 5, 2)), (81, (.iload 8, 2)), (83, (.ifCond .eq 7, 3)), (90, (.iconst 0, 1)), (86, (.iconst 1, 1)), (87, (.goto 4, 3)), (60, (.istore 8, 2)), (62, (.aload_n 2, 1)), (63, (.iload 7, 2)), (65, (.iload 8, 2)), (67, (.ifCond .eq 7, 3)), (74, (.aload_n 2, 1)), (75, (.iload 7, 2)), (77, (.iaload, 1)), (70, (.iconst 5, 1)), (71, (.goto 7, 3)), (59, (.iconst 0, 1)), (22, (.iload 7, 2)), (24, (.aload_n 0, 1)), (25, (.iconst 0, 1)), (26, (.iaload, 1)), (27, (.if_icmp .ge 73, 3)), (100, (.iinc 6 1, 3)), (103, (.goto (-92), 3)), (30, (.aload_n 2, 1)), (31, (.iload 7, 2)), (33, (.iaload, 1)), (34, (.iconst 1, 1)), (35, (.if_icmp .ne 24, 3)), (38, (.aload_n 1, 1)), (39, (.iload 7, 2)), (41, (.iaload, 1)), (42, (.ifCond .lt 17, 3)), (45, (.aload_n 2, 1)), (46, (.aload_n 1, 1)), (47, (.iload 7, 2)), (49, (.iaload, 1)), (50, (.iaload, 1)), (51, (.iconst 2, 1)), (52, (.if_icmp .le 7, 3)), (55, (.iconst 1, 1)), (56, (.goto 4, 3)), (11, (.iload 6, 2)), (13, (.aload_n 0, 1)), (14, (.iconst 0, 1)), (15, (.iaload, 1)), (16, (.if_icmp .ge 90, 3)), (106, (.iload 5, 2)), (108, (.ireturn, 1)), (19, (.iconst 0, 1)), (20, (.istore 7, 2)), (0, (.aload_n 2, 1)), (1, (.iload_n 3, 1)), (2, (.iload 4, 2)), (4, (.iastore, 1))]
theorem dt161_L_leaves_ok : ∀ q ∈ dt161_L_leaves, decode cL_leaves q.1 = .ok q.2 := by decide +kernel
theorem dL_leaves_91 : decode cL_leaves 91 = .ok (.iadd, 1) := g_dec dt161_L_leaves_ok (k := 0) rfl
theorem dL_leaves_92 : decode cL_leaves 92 = .ok (.istore 5, 2) := g_dec dt161_L_leaves_ok (k := 1) rfl
theorem dL_leaves_94 : decode cL_leaves 94 = .ok (.iinc 7 1, 3) := g_dec dt161_L_leaves_ok (k := 2) rfl
theorem dL_leaves_97 : decode cL_leaves 97 = .ok (.goto (-75), 3) := g_dec dt161_L_leaves_ok (k := 3) rfl
theorem dL_leaves_78 : decode cL_leaves 78 = .ok (.iastore, 1) := g_dec dt161_L_leaves_ok (k := 4) rfl
theorem dL_leaves_79 : decode cL_leaves 79 = .ok (.iload 5, 2) := g_dec dt161_L_leaves_ok (k := 5) rfl
theorem dL_leaves_81 : decode cL_leaves 81 = .ok (.iload 8, 2) := g_dec dt161_L_leaves_ok (k := 6) rfl
theorem dL_leaves_83 : decode cL_leaves 83 = .ok (.ifCond .eq 7, 3) := g_dec dt161_L_leaves_ok (k := 7) rfl
theorem dL_leaves_90 : decode cL_leaves 90 = .ok (.iconst 0, 1) := g_dec dt161_L_leaves_ok (k := 8) rfl
theorem dL_leaves_86 : decode cL_leaves 86 = .ok (.iconst 1, 1) := g_dec dt161_L_leaves_ok (k := 9) rfl
theorem dL_leaves_87 : decode cL_leaves 87 = .ok (.goto 4, 3) := g_dec dt161_L_leaves_ok (k := 10) rfl
theorem dL_leaves_60 : decode cL_leaves 60 = .ok (.istore 8, 2) := g_dec dt161_L_leaves_ok (k := 11) rfl
theorem dL_leaves_62 : decode cL_leaves 62 = .ok (.aload_n 2, 1) := g_dec dt161_L_leaves_ok (k := 12) rfl
theorem dL_leaves_63 : decode cL_leaves 63 = .ok (.iload 7, 2) := g_dec dt161_L_leaves_ok (k := 13) rfl
theorem dL_leaves_65 : decode cL_leaves 65 = .ok (.iload 8, 2) := g_dec dt161_L_leaves_ok (k := 14) rfl
theorem dL_leaves_67 : decode cL_leaves 67 = .ok (.ifCond .eq 7, 3) := g_dec dt161_L_leaves_ok (k := 15) rfl
theorem dL_leaves_74 : decode cL_leaves 74 = .ok (.aload_n 2, 1) := g_dec dt161_L_leaves_ok (k := 16) rfl
theorem dL_leaves_75 : decode cL_leaves 75 = .ok (.iload 7, 2) := g_dec dt161_L_leaves_ok (k := 17) rfl
theorem dL_leaves_77 : decode cL_leaves 77 = .ok (.iaload, 1) := g_dec dt161_L_leaves_ok (k := 18) rfl
theorem dL_leaves_70 : decode cL_leaves 70 = .ok (.iconst 5, 1) := g_dec dt161_L_leaves_ok (k := 19) rfl
theorem dL_leaves_71 : decode cL_leaves 71 = .ok (.goto 7, 3) := g_dec dt161_L_leaves_ok (k := 20) rfl
theorem dL_leaves_59 : decode cL_leaves 59 = .ok (.iconst 0, 1) := g_dec dt161_L_leaves_ok (k := 21) rfl
theorem dL_leaves_22 : decode cL_leaves 22 = .ok (.iload 7, 2) := g_dec dt161_L_leaves_ok (k := 22) rfl
theorem dL_leaves_24 : decode cL_leaves 24 = .ok (.aload_n 0, 1) := g_dec dt161_L_leaves_ok (k := 23) rfl
theorem dL_leaves_25 : decode cL_leaves 25 = .ok (.iconst 0, 1) := g_dec dt161_L_leaves_ok (k := 24) rfl
theorem dL_leaves_26 : decode cL_leaves 26 = .ok (.iaload, 1) := g_dec dt161_L_leaves_ok (k := 25) rfl
theorem dL_leaves_27 : decode cL_leaves 27 = .ok (.if_icmp .ge 73, 3) := g_dec dt161_L_leaves_ok (k := 26) rfl
theorem dL_leaves_100 : decode cL_leaves 100 = .ok (.iinc 6 1, 3) := g_dec dt161_L_leaves_ok (k := 27) rfl
theorem dL_leaves_103 : decode cL_leaves 103 = .ok (.goto (-92), 3) := g_dec dt161_L_leaves_ok (k := 28) rfl
theorem dL_leaves_30 : decode cL_leaves 30 = .ok (.aload_n 2, 1) := g_dec dt161_L_leaves_ok (k := 29) rfl
theorem dL_leaves_31 : decode cL_leaves 31 = .ok (.iload 7, 2) := g_dec dt161_L_leaves_ok (k := 30) rfl
theorem dL_leaves_33 : decode cL_leaves 33 = .ok (.iaload, 1) := g_dec dt161_L_leaves_ok (k := 31) rfl
theorem dL_leaves_34 : decode cL_leaves 34 = .ok (.iconst 1, 1) := g_dec dt161_L_leaves_ok (k := 32) rfl
theorem dL_leaves_35 : decode cL_leaves 35 = .ok (.if_icmp .ne 24, 3) := g_dec dt161_L_leaves_ok (k := 33) rfl
theorem dL_leaves_38 : decode cL_leaves 38 = .ok (.aload_n 1, 1) := g_dec dt161_L_leaves_ok (k := 34) rfl
theorem dL_leaves_39 : decode cL_leaves 39 = .ok (.iload 7, 2) := g_dec dt161_L_leaves_ok (k := 35) rfl
theorem dL_leaves_41 : decode cL_leaves 41 = .ok (.iaload, 1) := g_dec dt161_L_leaves_ok (k := 36) rfl
theorem dL_leaves_42 : decode cL_leaves 42 = .ok (.ifCond .lt 17, 3) := g_dec dt161_L_leaves_ok (k := 37) rfl
theorem dL_leaves_45 : decode cL_leaves 45 = .ok (.aload_n 2, 1) := g_dec dt161_L_leaves_ok (k := 38) rfl
theorem dL_leaves_46 : decode cL_leaves 46 = .ok (.aload_n 1, 1) := g_dec dt161_L_leaves_ok (k := 39) rfl
theorem dL_leaves_47 : decode cL_leaves 47 = .ok (.iload 7, 2) := g_dec dt161_L_leaves_ok (k := 40) rfl
theorem dL_leaves_49 : decode cL_leaves 49 = .ok (.iaload, 1) := g_dec dt161_L_leaves_ok (k := 41) rfl
theorem dL_leaves_50 : decode cL_leaves 50 = .ok (.iaload, 1) := g_dec dt161_L_leaves_ok (k := 42) rfl
theorem dL_leaves_51 : decode cL_leaves 51 = .ok (.iconst 2, 1) := g_dec dt161_L_leaves_ok (k := 43) rfl
theorem dL_leaves_52 : decode cL_leaves 52 = .ok (.if_icmp .le 7, 3) := g_dec dt161_L_leaves_ok (k := 44) rfl
theorem dL_leaves_55 : decode cL_leaves 55 = .ok (.iconst 1, 1) := g_dec dt161_L_leaves_ok (k := 45) rfl
theorem dL_leaves_56 : decode cL_leaves 56 = .ok (.goto 4, 3) := g_dec dt161_L_leaves_ok (k := 46) rfl
theorem dL_leaves_11 : decode cL_leaves 11 = .ok (.iload 6, 2) := g_dec dt161_L_leaves_ok (k := 47) rfl
theorem dL_leaves_13 : decode cL_leaves 13 = .ok (.aload_n 0, 1) := g_dec dt161_L_leaves_ok (k := 48) rfl
theorem dL_leaves_14 : decode cL_leaves 14 = .ok (.iconst 0, 1) := g_dec dt161_L_leaves_ok (k := 49) rfl
theorem dL_leaves_15 : decode cL_leaves 15 = .ok (.iaload, 1) := g_dec dt161_L_leaves_ok (k := 50) rfl
theorem dL_leaves_16 : decode cL_leaves 16 = .ok (.if_icmp .ge 90, 3) := g_dec dt161_L_leaves_ok (k := 51) rfl
theorem dL_leaves_106 : decode cL_leaves 106 = .ok (.iload 5, 2) := g_dec dt161_L_leaves_ok (k := 52) rfl
theorem dL_leaves_108 : decode cL_leaves 108 = .ok (.ireturn, 1) := g_dec dt161_L_leaves_ok (k := 53) rfl
theorem dL_leaves_19 : decode cL_leaves 19 = .ok (.iconst 0, 1) := g_dec dt161_L_leaves_ok (k := 54) rfl
theorem dL_leaves_20 : decode cL_leaves 20 = .ok (.istore 7, 2) := g_dec dt161_L_leaves_ok (k := 55) rfl
theorem dL_leaves_0 : decode cL_leaves 0 = .ok (.aload_n 2, 1) := g_dec dt161_L_leaves_ok (k := 56) rfl
theorem dL_leaves_1 : decode cL_leaves 1 = .ok (.iload_n 3, 1) := g_dec dt161_L_leaves_ok (k := 57) rfl
theorem dL_leaves_2 : decode cL_leaves 2 = .ok (.iload 4, 2) := g_dec dt161_L_leaves_ok (k := 58) rfl
theorem dL_leaves_4 : decode cL_leaves 4 = .ok (.iastore, 1) := g_dec dt161_L_leaves_ok (k := 59) rfl
def dt162_L_leaves : List (Nat × Instr × Nat) := [(5, (.iconst 1, 1)), (6, (.istore 5, 2)), (8, (.iconst 0, 1)), (9, (.istore 6, 2))]
theorem dt162_L_leaves_ok : ∀ q ∈ dt162_L_leaves, decode cL_leaves q.1 = .ok q.2 := by decide +kernel
theorem dL_leaves_5 : decode cL_leaves 5 = .ok (.iconst 1, 1) := g_dec dt162_L_leaves_ok (k := 0) rfl
theorem dL_leaves_6 : decode cL_leaves 6 = .ok (.istore 5, 2) := g_dec dt162_L_leaves_ok (k := 1) rfl
theorem dL_leaves_8 : decode cL_leaves 8 = .ok (.iconst 0, 1) := g_dec dt162_L_leaves_ok (k := 2) rfl
theorem dL_leaves_9 : decode cL_leaves 9 = .ok (.istore 6, 2) := g_dec dt162_L_leaves_ok (k := 3) rfl
def dt163_L_tells : List (Nat × Instr × Nat) := [(324, (.iinc 6 1, 3)), (327, (.goto (-324), 3)), (297, (.iastore, 1)), (298, (.aload_n 3, 1)), (299, (.iload 9, 2)), (301, (.iload 13, 2)), (303, (.iconst 4, 1)), (304, (.aload_n 3, 1)), (305, (.iload 9, 2)), (307, (.iaload, 1)), (308, (.iconst 4, 1)), (309, (.idiv, 1)), (310, (.bipush 16, 2)), (312, (.irem, 1)), (313, (.iconst 1, 1)), (314, (.iadd, 1)), (315, (.imul, 1)), (316, (.iadd, 1)), (317, (.bipush 64, 2)), (319, (.iload 11, 2)), (321, (.imul, 1)), (322, (.iadd, 1)), (323, (.iastore, 1)), (287, (.aload_n 1, 1)), (288, (.bipush 12, 2)), (290, (.iload 8, 2)), (292, (.imul, 1)), (293, (.bipush 6, 2)), (295, (.iadd, 1)), (296, (.iaload, 1)), (254, (.istore 13, 2)), (256, (.aload_n 1, 1)), (257, (.bipush 12, 2)), (259, (.iload 8, 2)), (261, (.imul, 1)), (262, (.bipush 6, 2)), (264, (.iadd, 1)), (265, (.iload 12, 2)), (267, (.ifCond .eq 20, 3)), (270, (.aload_n 1, 1)), (271, (.bipush 12, 2)), (273, (.iload 8, 2)), (275, (.imul, 1)), (276, (.iconst 5, 1)), (277, (.iadd, 1)), (278, (.iaload, 1)), (279, (.iconst 1, 1)), (280, (.if_icmp .le 7, 3)), (283, (.iconst 1, 1)), (284, (.goto 13, 3)), (246, (.if_icmp .lt 7, 3)), (253, (.iconst 0, 1)), (249, (.iconst 2, 1)), (250, (.goto 4, 3)), (214, (.iadd, 1)), (215, (.iastore, 1)), (216, (.iload 10, 2)), (218, (.ifCond .ne 7, 3)), (225, (.iload 11, 2)), (227, (.aload_n 1, 1))]
theorem dt163_L_tells_ok : ∀ q ∈ dt163_L_tells, decode cL_tells q.1 = .ok q.2 := by decide +kernel
theorem dL_tells_324 : decode cL_tells 324 = .ok (.iinc 6 1, 3) := g_dec dt163_L_tells_ok (k := 0) rfl
theorem dL_tells_327 : decode cL_tells 327 = .ok (.goto (-324), 3) := g_dec dt163_L_tells_ok (k := 1) rfl
theorem dL_tells_297 : decode cL_tells 297 = .ok (.iastore, 1) := g_dec dt163_L_tells_ok (k := 2) rfl
theorem dL_tells_298 : decode cL_tells 298 = .ok (.aload_n 3, 1) := g_dec dt163_L_tells_ok (k := 3) rfl
theorem dL_tells_299 : decode cL_tells 299 = .ok (.iload 9, 2) := g_dec dt163_L_tells_ok (k := 4) rfl
theorem dL_tells_301 : decode cL_tells 301 = .ok (.iload 13, 2) := g_dec dt163_L_tells_ok (k := 5) rfl
theorem dL_tells_303 : decode cL_tells 303 = .ok (.iconst 4, 1) := g_dec dt163_L_tells_ok (k := 6) rfl
theorem dL_tells_304 : decode cL_tells 304 = .ok (.aload_n 3, 1) := g_dec dt163_L_tells_ok (k := 7) rfl
theorem dL_tells_305 : decode cL_tells 305 = .ok (.iload 9, 2) := g_dec dt163_L_tells_ok (k := 8) rfl
theorem dL_tells_307 : decode cL_tells 307 = .ok (.iaload, 1) := g_dec dt163_L_tells_ok (k := 9) rfl
theorem dL_tells_308 : decode cL_tells 308 = .ok (.iconst 4, 1) := g_dec dt163_L_tells_ok (k := 10) rfl
theorem dL_tells_309 : decode cL_tells 309 = .ok (.idiv, 1) := g_dec dt163_L_tells_ok (k := 11) rfl
theorem dL_tells_310 : decode cL_tells 310 = .ok (.bipush 16, 2) := g_dec dt163_L_tells_ok (k := 12) rfl
theorem dL_tells_312 : decode cL_tells 312 = .ok (.irem, 1) := g_dec dt163_L_tells_ok (k := 13) rfl
theorem dL_tells_313 : decode cL_tells 313 = .ok (.iconst 1, 1) := g_dec dt163_L_tells_ok (k := 14) rfl
theorem dL_tells_314 : decode cL_tells 314 = .ok (.iadd, 1) := g_dec dt163_L_tells_ok (k := 15) rfl
theorem dL_tells_315 : decode cL_tells 315 = .ok (.imul, 1) := g_dec dt163_L_tells_ok (k := 16) rfl
theorem dL_tells_316 : decode cL_tells 316 = .ok (.iadd, 1) := g_dec dt163_L_tells_ok (k := 17) rfl
theorem dL_tells_317 : decode cL_tells 317 = .ok (.bipush 64, 2) := g_dec dt163_L_tells_ok (k := 18) rfl
theorem dL_tells_319 : decode cL_tells 319 = .ok (.iload 11, 2) := g_dec dt163_L_tells_ok (k := 19) rfl
theorem dL_tells_321 : decode cL_tells 321 = .ok (.imul, 1) := g_dec dt163_L_tells_ok (k := 20) rfl
theorem dL_tells_322 : decode cL_tells 322 = .ok (.iadd, 1) := g_dec dt163_L_tells_ok (k := 21) rfl
theorem dL_tells_323 : decode cL_tells 323 = .ok (.iastore, 1) := g_dec dt163_L_tells_ok (k := 22) rfl
theorem dL_tells_287 : decode cL_tells 287 = .ok (.aload_n 1, 1) := g_dec dt163_L_tells_ok (k := 23) rfl
theorem dL_tells_288 : decode cL_tells 288 = .ok (.bipush 12, 2) := g_dec dt163_L_tells_ok (k := 24) rfl
theorem dL_tells_290 : decode cL_tells 290 = .ok (.iload 8, 2) := g_dec dt163_L_tells_ok (k := 25) rfl
theorem dL_tells_292 : decode cL_tells 292 = .ok (.imul, 1) := g_dec dt163_L_tells_ok (k := 26) rfl
theorem dL_tells_293 : decode cL_tells 293 = .ok (.bipush 6, 2) := g_dec dt163_L_tells_ok (k := 27) rfl
theorem dL_tells_295 : decode cL_tells 295 = .ok (.iadd, 1) := g_dec dt163_L_tells_ok (k := 28) rfl
theorem dL_tells_296 : decode cL_tells 296 = .ok (.iaload, 1) := g_dec dt163_L_tells_ok (k := 29) rfl
theorem dL_tells_254 : decode cL_tells 254 = .ok (.istore 13, 2) := g_dec dt163_L_tells_ok (k := 30) rfl
theorem dL_tells_256 : decode cL_tells 256 = .ok (.aload_n 1, 1) := g_dec dt163_L_tells_ok (k := 31) rfl
theorem dL_tells_257 : decode cL_tells 257 = .ok (.bipush 12, 2) := g_dec dt163_L_tells_ok (k := 32) rfl
theorem dL_tells_259 : decode cL_tells 259 = .ok (.iload 8, 2) := g_dec dt163_L_tells_ok (k := 33) rfl
theorem dL_tells_261 : decode cL_tells 261 = .ok (.imul, 1) := g_dec dt163_L_tells_ok (k := 34) rfl
theorem dL_tells_262 : decode cL_tells 262 = .ok (.bipush 6, 2) := g_dec dt163_L_tells_ok (k := 35) rfl
theorem dL_tells_264 : decode cL_tells 264 = .ok (.iadd, 1) := g_dec dt163_L_tells_ok (k := 36) rfl
theorem dL_tells_265 : decode cL_tells 265 = .ok (.iload 12, 2) := g_dec dt163_L_tells_ok (k := 37) rfl
theorem dL_tells_267 : decode cL_tells 267 = .ok (.ifCond .eq 20, 3) := g_dec dt163_L_tells_ok (k := 38) rfl
theorem dL_tells_270 : decode cL_tells 270 = .ok (.aload_n 1, 1) := g_dec dt163_L_tells_ok (k := 39) rfl
theorem dL_tells_271 : decode cL_tells 271 = .ok (.bipush 12, 2) := g_dec dt163_L_tells_ok (k := 40) rfl
theorem dL_tells_273 : decode cL_tells 273 = .ok (.iload 8, 2) := g_dec dt163_L_tells_ok (k := 41) rfl
theorem dL_tells_275 : decode cL_tells 275 = .ok (.imul, 1) := g_dec dt163_L_tells_ok (k := 42) rfl
theorem dL_tells_276 : decode cL_tells 276 = .ok (.iconst 5, 1) := g_dec dt163_L_tells_ok (k := 43) rfl
theorem dL_tells_277 : decode cL_tells 277 = .ok (.iadd, 1) := g_dec dt163_L_tells_ok (k := 44) rfl
theorem dL_tells_278 : decode cL_tells 278 = .ok (.iaload, 1) := g_dec dt163_L_tells_ok (k := 45) rfl
theorem dL_tells_279 : decode cL_tells 279 = .ok (.iconst 1, 1) := g_dec dt163_L_tells_ok (k := 46) rfl
theorem dL_tells_280 : decode cL_tells 280 = .ok (.if_icmp .le 7, 3) := g_dec dt163_L_tells_ok (k := 47) rfl
theorem dL_tells_283 : decode cL_tells 283 = .ok (.iconst 1, 1) := g_dec dt163_L_tells_ok (k := 48) rfl
theorem dL_tells_284 : decode cL_tells 284 = .ok (.goto 13, 3) := g_dec dt163_L_tells_ok (k := 49) rfl
theorem dL_tells_246 : decode cL_tells 246 = .ok (.if_icmp .lt 7, 3) := g_dec dt163_L_tells_ok (k := 50) rfl
theorem dL_tells_253 : decode cL_tells 253 = .ok (.iconst 0, 1) := g_dec dt163_L_tells_ok (k := 51) rfl
theorem dL_tells_249 : decode cL_tells 249 = .ok (.iconst 2, 1) := g_dec dt163_L_tells_ok (k := 52) rfl
theorem dL_tells_250 : decode cL_tells 250 = .ok (.goto 4, 3) := g_dec dt163_L_tells_ok (k := 53) rfl
theorem dL_tells_214 : decode cL_tells 214 = .ok (.iadd, 1) := g_dec dt163_L_tells_ok (k := 54) rfl
theorem dL_tells_215 : decode cL_tells 215 = .ok (.iastore, 1) := g_dec dt163_L_tells_ok (k := 55) rfl
theorem dL_tells_216 : decode cL_tells 216 = .ok (.iload 10, 2) := g_dec dt163_L_tells_ok (k := 56) rfl
theorem dL_tells_218 : decode cL_tells 218 = .ok (.ifCond .ne 7, 3) := g_dec dt163_L_tells_ok (k := 57) rfl
theorem dL_tells_225 : decode cL_tells 225 = .ok (.iload 11, 2) := g_dec dt163_L_tells_ok (k := 58) rfl
theorem dL_tells_227 : decode cL_tells 227 = .ok (.aload_n 1, 1) := g_dec dt163_L_tells_ok (k := 59) rfl
def dt164_L_tells : List (Nat × Instr × Nat) := [(228, (.bipush 12, 2)), (230, (.iload 8, 2)), (232, (.imul, 1)), (233, (.bipush 6, 2)), (235, (.iadd, 1)), (236, (.iaload, 1)), (237, (.iconst 1, 1)), (238, (.if_icmp .ne 7, 3)), (245, (.iconst 2, 1)), (241, (.iconst 5, 1)), (242, (.goto 4, 3)), (221, (.iconst 1, 1)), (222, (.goto 32, 3)), (192, (.istore 12, 2)), (194, (.aload_n 1, 1)), (195, (.bipush 12, 2)), (197, (.iload 8, 2)), (199, (.imul, 1)), (200, (.iconst 5, 1)), (201, (.iadd, 1)), (202, (.dup2, 1)), (203, (.iaload, 1)), (204, (.iload 12, 2)), (206, (.ifCond .eq 7, 3)), (213, (.iconst 0, 1)), (209, (.iconst 1, 1)), (210, (.goto 4, 3)), (191, (.iconst 0, 1)), (174, (.iadd, 1)), (175, (.istore 11, 2)), (177, (.iload 10, 2)), (179, (.ifCond .ne 12, 3)), (182, (.iload 11, 2)), (184, (.ifCond .le 7, 3)), (187, (.iconst 1, 1)), (188, (.goto 4, 3)), (125, (.aload 4, 2)), (127, (.iload 7, 2)), (129, (.iconst 2, 1)), (130, (.iadd, 1)), (131, (.iaload, 1)), (132, (.ifCond .ne 192, 3)), (135, (.aload_n 1, 1)), (136, (.iload 8, 2)), (138, (.aload 5, 2)), (140, (.iload 6, 2)), (142, (.laload, 1)), (143, (.aload_n 3, 1)), (144, (.iload 9, 2)), (146, (.iaload, 1)), (147, (.iconst 4, 1)), (148, (.idiv, 1)), (149, (.bipush 16, 2)), (151, (.irem, 1)), (152, (.invokestatic 106, 3)), (155, (.istore 10, 2)), (157, (.aload_n 3, 1)), (158, (.iload 9, 2)), (160, (.iaload, 1)), (161, (.bipush 64, 2))]
theorem dt164_L_tells_ok : ∀ q ∈ dt164_L_tells, decode cL_tells q.1 = .ok q.2 := by decide +kernel
theorem dL_tells_228 : decode cL_tells 228 = .ok (.bipush 12, 2) := g_dec dt164_L_tells_ok (k := 0) rfl
theorem dL_tells_230 : decode cL_tells 230 = .ok (.iload 8, 2) := g_dec dt164_L_tells_ok (k := 1) rfl
theorem dL_tells_232 : decode cL_tells 232 = .ok (.imul, 1) := g_dec dt164_L_tells_ok (k := 2) rfl
theorem dL_tells_233 : decode cL_tells 233 = .ok (.bipush 6, 2) := g_dec dt164_L_tells_ok (k := 3) rfl
theorem dL_tells_235 : decode cL_tells 235 = .ok (.iadd, 1) := g_dec dt164_L_tells_ok (k := 4) rfl
theorem dL_tells_236 : decode cL_tells 236 = .ok (.iaload, 1) := g_dec dt164_L_tells_ok (k := 5) rfl
theorem dL_tells_237 : decode cL_tells 237 = .ok (.iconst 1, 1) := g_dec dt164_L_tells_ok (k := 6) rfl
theorem dL_tells_238 : decode cL_tells 238 = .ok (.if_icmp .ne 7, 3) := g_dec dt164_L_tells_ok (k := 7) rfl
theorem dL_tells_245 : decode cL_tells 245 = .ok (.iconst 2, 1) := g_dec dt164_L_tells_ok (k := 8) rfl
theorem dL_tells_241 : decode cL_tells 241 = .ok (.iconst 5, 1) := g_dec dt164_L_tells_ok (k := 9) rfl
theorem dL_tells_242 : decode cL_tells 242 = .ok (.goto 4, 3) := g_dec dt164_L_tells_ok (k := 10) rfl
theorem dL_tells_221 : decode cL_tells 221 = .ok (.iconst 1, 1) := g_dec dt164_L_tells_ok (k := 11) rfl
theorem dL_tells_222 : decode cL_tells 222 = .ok (.goto 32, 3) := g_dec dt164_L_tells_ok (k := 12) rfl
theorem dL_tells_192 : decode cL_tells 192 = .ok (.istore 12, 2) := g_dec dt164_L_tells_ok (k := 13) rfl
theorem dL_tells_194 : decode cL_tells 194 = .ok (.aload_n 1, 1) := g_dec dt164_L_tells_ok (k := 14) rfl
theorem dL_tells_195 : decode cL_tells 195 = .ok (.bipush 12, 2) := g_dec dt164_L_tells_ok (k := 15) rfl
theorem dL_tells_197 : decode cL_tells 197 = .ok (.iload 8, 2) := g_dec dt164_L_tells_ok (k := 16) rfl
theorem dL_tells_199 : decode cL_tells 199 = .ok (.imul, 1) := g_dec dt164_L_tells_ok (k := 17) rfl
theorem dL_tells_200 : decode cL_tells 200 = .ok (.iconst 5, 1) := g_dec dt164_L_tells_ok (k := 18) rfl
theorem dL_tells_201 : decode cL_tells 201 = .ok (.iadd, 1) := g_dec dt164_L_tells_ok (k := 19) rfl
theorem dL_tells_202 : decode cL_tells 202 = .ok (.dup2, 1) := g_dec dt164_L_tells_ok (k := 20) rfl
theorem dL_tells_203 : decode cL_tells 203 = .ok (.iaload, 1) := g_dec dt164_L_tells_ok (k := 21) rfl
theorem dL_tells_204 : decode cL_tells 204 = .ok (.iload 12, 2) := g_dec dt164_L_tells_ok (k := 22) rfl
theorem dL_tells_206 : decode cL_tells 206 = .ok (.ifCond .eq 7, 3) := g_dec dt164_L_tells_ok (k := 23) rfl
theorem dL_tells_213 : decode cL_tells 213 = .ok (.iconst 0, 1) := g_dec dt164_L_tells_ok (k := 24) rfl
theorem dL_tells_209 : decode cL_tells 209 = .ok (.iconst 1, 1) := g_dec dt164_L_tells_ok (k := 25) rfl
theorem dL_tells_210 : decode cL_tells 210 = .ok (.goto 4, 3) := g_dec dt164_L_tells_ok (k := 26) rfl
theorem dL_tells_191 : decode cL_tells 191 = .ok (.iconst 0, 1) := g_dec dt164_L_tells_ok (k := 27) rfl
theorem dL_tells_174 : decode cL_tells 174 = .ok (.iadd, 1) := g_dec dt164_L_tells_ok (k := 28) rfl
theorem dL_tells_175 : decode cL_tells 175 = .ok (.istore 11, 2) := g_dec dt164_L_tells_ok (k := 29) rfl
theorem dL_tells_177 : decode cL_tells 177 = .ok (.iload 10, 2) := g_dec dt164_L_tells_ok (k := 30) rfl
theorem dL_tells_179 : decode cL_tells 179 = .ok (.ifCond .ne 12, 3) := g_dec dt164_L_tells_ok (k := 31) rfl
theorem dL_tells_182 : decode cL_tells 182 = .ok (.iload 11, 2) := g_dec dt164_L_tells_ok (k := 32) rfl
theorem dL_tells_184 : decode cL_tells 184 = .ok (.ifCond .le 7, 3) := g_dec dt164_L_tells_ok (k := 33) rfl
theorem dL_tells_187 : decode cL_tells 187 = .ok (.iconst 1, 1) := g_dec dt164_L_tells_ok (k := 34) rfl
theorem dL_tells_188 : decode cL_tells 188 = .ok (.goto 4, 3) := g_dec dt164_L_tells_ok (k := 35) rfl
theorem dL_tells_125 : decode cL_tells 125 = .ok (.aload 4, 2) := g_dec dt164_L_tells_ok (k := 36) rfl
theorem dL_tells_127 : decode cL_tells 127 = .ok (.iload 7, 2) := g_dec dt164_L_tells_ok (k := 37) rfl
theorem dL_tells_129 : decode cL_tells 129 = .ok (.iconst 2, 1) := g_dec dt164_L_tells_ok (k := 38) rfl
theorem dL_tells_130 : decode cL_tells 130 = .ok (.iadd, 1) := g_dec dt164_L_tells_ok (k := 39) rfl
theorem dL_tells_131 : decode cL_tells 131 = .ok (.iaload, 1) := g_dec dt164_L_tells_ok (k := 40) rfl
theorem dL_tells_132 : decode cL_tells 132 = .ok (.ifCond .ne 192, 3) := g_dec dt164_L_tells_ok (k := 41) rfl
theorem dL_tells_135 : decode cL_tells 135 = .ok (.aload_n 1, 1) := g_dec dt164_L_tells_ok (k := 42) rfl
theorem dL_tells_136 : decode cL_tells 136 = .ok (.iload 8, 2) := g_dec dt164_L_tells_ok (k := 43) rfl
theorem dL_tells_138 : decode cL_tells 138 = .ok (.aload 5, 2) := g_dec dt164_L_tells_ok (k := 44) rfl
theorem dL_tells_140 : decode cL_tells 140 = .ok (.iload 6, 2) := g_dec dt164_L_tells_ok (k := 45) rfl
theorem dL_tells_142 : decode cL_tells 142 = .ok (.laload, 1) := g_dec dt164_L_tells_ok (k := 46) rfl
theorem dL_tells_143 : decode cL_tells 143 = .ok (.aload_n 3, 1) := g_dec dt164_L_tells_ok (k := 47) rfl
theorem dL_tells_144 : decode cL_tells 144 = .ok (.iload 9, 2) := g_dec dt164_L_tells_ok (k := 48) rfl
theorem dL_tells_146 : decode cL_tells 146 = .ok (.iaload, 1) := g_dec dt164_L_tells_ok (k := 49) rfl
theorem dL_tells_147 : decode cL_tells 147 = .ok (.iconst 4, 1) := g_dec dt164_L_tells_ok (k := 50) rfl
theorem dL_tells_148 : decode cL_tells 148 = .ok (.idiv, 1) := g_dec dt164_L_tells_ok (k := 51) rfl
theorem dL_tells_149 : decode cL_tells 149 = .ok (.bipush 16, 2) := g_dec dt164_L_tells_ok (k := 52) rfl
theorem dL_tells_151 : decode cL_tells 151 = .ok (.irem, 1) := g_dec dt164_L_tells_ok (k := 53) rfl
theorem dL_tells_152 : decode cL_tells 152 = .ok (.invokestatic 106, 3) := g_dec dt164_L_tells_ok (k := 54) rfl
theorem dL_tells_155 : decode cL_tells 155 = .ok (.istore 10, 2) := g_dec dt164_L_tells_ok (k := 55) rfl
theorem dL_tells_157 : decode cL_tells 157 = .ok (.aload_n 3, 1) := g_dec dt164_L_tells_ok (k := 56) rfl
theorem dL_tells_158 : decode cL_tells 158 = .ok (.iload 9, 2) := g_dec dt164_L_tells_ok (k := 57) rfl
theorem dL_tells_160 : decode cL_tells 160 = .ok (.iaload, 1) := g_dec dt164_L_tells_ok (k := 58) rfl
theorem dL_tells_161 : decode cL_tells 161 = .ok (.bipush 64, 2) := g_dec dt164_L_tells_ok (k := 59) rfl
def dt165_L_tells : List (Nat × Instr × Nat) := [(163, (.idiv, 1)), (164, (.iload 10, 2)), (166, (.ifCond .eq 7, 3)), (173, (.iconst 0, 1)), (169, (.iconst 1, 1)), (170, (.goto 4, 3)), (39, (.iload 8, 2)), (41, (.ifCond .lt 283, 3)), (44, (.aload 4, 2)), (46, (.iload 7, 2)), (48, (.iconst 1, 1)), (49, (.iadd, 1)), (50, (.iaload, 1)), (51, (.ifCond .ne 273, 3)), (54, (.aload 4, 2)), (56, (.iload 7, 2)), (58, (.iconst (-1), 1)), (59, (.iastore, 1)), (60, (.aload_n 0, 1)), (61, (.aload_n 2, 1)), (62, (.aload_n 1, 1)), (63, (.iload 8, 2)), (65, (.aload 5, 2)), (67, (.iload 6, 2)), (69, (.laload, 1)), (70, (.invokestatic 17, 3)), (73, (.invokestatic 21, 3)), (76, (.istore 9, 2)), (78, (.aload 4, 2)), (80, (.iload 7, 2)), (82, (.iconst 2, 1)), (83, (.iadd, 1)), (84, (.iaload, 1)), (85, (.ifCond .ne 40, 3)), (88, (.iload 9, 2)), (90, (.ifCond .ge 35, 3)), (93, (.aload_n 0, 1)), (94, (.iconst 4, 1)), (95, (.iaload, 1)), (96, (.istore 9, 2)), (98, (.aload_n 2, 1)), (99, (.iload 9, 2)), (101, (.aload_n 1, 1)), (102, (.iload 8, 2)), (104, (.aload 5, 2)), (106, (.iload 6, 2)), (108, (.laload, 1)), (109, (.invokestatic 17, 3)), (112, (.lastore, 1)), (113, (.aload_n 3, 1)), (114, (.iload 9, 2)), (116, (.iconst 0, 1)), (117, (.iastore, 1)), (118, (.aload_n 0, 1)), (119, (.iconst 4, 1)), (120, (.dup2, 1)), (121, (.iaload, 1)), (122, (.iconst 1, 1)), (123, (.iadd, 1)), (124, (.iastore, 1))]
theorem dt165_L_tells_ok : ∀ q ∈ dt165_L_tells, decode cL_tells q.1 = .ok q.2 := by decide +kernel
theorem dL_tells_163 : decode cL_tells 163 = .ok (.idiv, 1) := g_dec dt165_L_tells_ok (k := 0) rfl
theorem dL_tells_164 : decode cL_tells 164 = .ok (.iload 10, 2) := g_dec dt165_L_tells_ok (k := 1) rfl
theorem dL_tells_166 : decode cL_tells 166 = .ok (.ifCond .eq 7, 3) := g_dec dt165_L_tells_ok (k := 2) rfl
theorem dL_tells_173 : decode cL_tells 173 = .ok (.iconst 0, 1) := g_dec dt165_L_tells_ok (k := 3) rfl
theorem dL_tells_169 : decode cL_tells 169 = .ok (.iconst 1, 1) := g_dec dt165_L_tells_ok (k := 4) rfl
theorem dL_tells_170 : decode cL_tells 170 = .ok (.goto 4, 3) := g_dec dt165_L_tells_ok (k := 5) rfl
theorem dL_tells_39 : decode cL_tells 39 = .ok (.iload 8, 2) := g_dec dt165_L_tells_ok (k := 6) rfl
theorem dL_tells_41 : decode cL_tells 41 = .ok (.ifCond .lt 283, 3) := g_dec dt165_L_tells_ok (k := 7) rfl
theorem dL_tells_44 : decode cL_tells 44 = .ok (.aload 4, 2) := g_dec dt165_L_tells_ok (k := 8) rfl
theorem dL_tells_46 : decode cL_tells 46 = .ok (.iload 7, 2) := g_dec dt165_L_tells_ok (k := 9) rfl
theorem dL_tells_48 : decode cL_tells 48 = .ok (.iconst 1, 1) := g_dec dt165_L_tells_ok (k := 10) rfl
theorem dL_tells_49 : decode cL_tells 49 = .ok (.iadd, 1) := g_dec dt165_L_tells_ok (k := 11) rfl
theorem dL_tells_50 : decode cL_tells 50 = .ok (.iaload, 1) := g_dec dt165_L_tells_ok (k := 12) rfl
theorem dL_tells_51 : decode cL_tells 51 = .ok (.ifCond .ne 273, 3) := g_dec dt165_L_tells_ok (k := 13) rfl
theorem dL_tells_54 : decode cL_tells 54 = .ok (.aload 4, 2) := g_dec dt165_L_tells_ok (k := 14) rfl
theorem dL_tells_56 : decode cL_tells 56 = .ok (.iload 7, 2) := g_dec dt165_L_tells_ok (k := 15) rfl
theorem dL_tells_58 : decode cL_tells 58 = .ok (.iconst (-1), 1) := g_dec dt165_L_tells_ok (k := 16) rfl
theorem dL_tells_59 : decode cL_tells 59 = .ok (.iastore, 1) := g_dec dt165_L_tells_ok (k := 17) rfl
theorem dL_tells_60 : decode cL_tells 60 = .ok (.aload_n 0, 1) := g_dec dt165_L_tells_ok (k := 18) rfl
theorem dL_tells_61 : decode cL_tells 61 = .ok (.aload_n 2, 1) := g_dec dt165_L_tells_ok (k := 19) rfl
theorem dL_tells_62 : decode cL_tells 62 = .ok (.aload_n 1, 1) := g_dec dt165_L_tells_ok (k := 20) rfl
theorem dL_tells_63 : decode cL_tells 63 = .ok (.iload 8, 2) := g_dec dt165_L_tells_ok (k := 21) rfl
theorem dL_tells_65 : decode cL_tells 65 = .ok (.aload 5, 2) := g_dec dt165_L_tells_ok (k := 22) rfl
theorem dL_tells_67 : decode cL_tells 67 = .ok (.iload 6, 2) := g_dec dt165_L_tells_ok (k := 23) rfl
theorem dL_tells_69 : decode cL_tells 69 = .ok (.laload, 1) := g_dec dt165_L_tells_ok (k := 24) rfl
theorem dL_tells_70 : decode cL_tells 70 = .ok (.invokestatic 17, 3) := g_dec dt165_L_tells_ok (k := 25) rfl
theorem dL_tells_73 : decode cL_tells 73 = .ok (.invokestatic 21, 3) := g_dec dt165_L_tells_ok (k := 26) rfl
theorem dL_tells_76 : decode cL_tells 76 = .ok (.istore 9, 2) := g_dec dt165_L_tells_ok (k := 27) rfl
theorem dL_tells_78 : decode cL_tells 78 = .ok (.aload 4, 2) := g_dec dt165_L_tells_ok (k := 28) rfl
theorem dL_tells_80 : decode cL_tells 80 = .ok (.iload 7, 2) := g_dec dt165_L_tells_ok (k := 29) rfl
theorem dL_tells_82 : decode cL_tells 82 = .ok (.iconst 2, 1) := g_dec dt165_L_tells_ok (k := 30) rfl
theorem dL_tells_83 : decode cL_tells 83 = .ok (.iadd, 1) := g_dec dt165_L_tells_ok (k := 31) rfl
theorem dL_tells_84 : decode cL_tells 84 = .ok (.iaload, 1) := g_dec dt165_L_tells_ok (k := 32) rfl
theorem dL_tells_85 : decode cL_tells 85 = .ok (.ifCond .ne 40, 3) := g_dec dt165_L_tells_ok (k := 33) rfl
theorem dL_tells_88 : decode cL_tells 88 = .ok (.iload 9, 2) := g_dec dt165_L_tells_ok (k := 34) rfl
theorem dL_tells_90 : decode cL_tells 90 = .ok (.ifCond .ge 35, 3) := g_dec dt165_L_tells_ok (k := 35) rfl
theorem dL_tells_93 : decode cL_tells 93 = .ok (.aload_n 0, 1) := g_dec dt165_L_tells_ok (k := 36) rfl
theorem dL_tells_94 : decode cL_tells 94 = .ok (.iconst 4, 1) := g_dec dt165_L_tells_ok (k := 37) rfl
theorem dL_tells_95 : decode cL_tells 95 = .ok (.iaload, 1) := g_dec dt165_L_tells_ok (k := 38) rfl
theorem dL_tells_96 : decode cL_tells 96 = .ok (.istore 9, 2) := g_dec dt165_L_tells_ok (k := 39) rfl
theorem dL_tells_98 : decode cL_tells 98 = .ok (.aload_n 2, 1) := g_dec dt165_L_tells_ok (k := 40) rfl
theorem dL_tells_99 : decode cL_tells 99 = .ok (.iload 9, 2) := g_dec dt165_L_tells_ok (k := 41) rfl
theorem dL_tells_101 : decode cL_tells 101 = .ok (.aload_n 1, 1) := g_dec dt165_L_tells_ok (k := 42) rfl
theorem dL_tells_102 : decode cL_tells 102 = .ok (.iload 8, 2) := g_dec dt165_L_tells_ok (k := 43) rfl
theorem dL_tells_104 : decode cL_tells 104 = .ok (.aload 5, 2) := g_dec dt165_L_tells_ok (k := 44) rfl
theorem dL_tells_106 : decode cL_tells 106 = .ok (.iload 6, 2) := g_dec dt165_L_tells_ok (k := 45) rfl
theorem dL_tells_108 : decode cL_tells 108 = .ok (.laload, 1) := g_dec dt165_L_tells_ok (k := 46) rfl
theorem dL_tells_109 : decode cL_tells 109 = .ok (.invokestatic 17, 3) := g_dec dt165_L_tells_ok (k := 47) rfl
theorem dL_tells_112 : decode cL_tells 112 = .ok (.lastore, 1) := g_dec dt165_L_tells_ok (k := 48) rfl
theorem dL_tells_113 : decode cL_tells 113 = .ok (.aload_n 3, 1) := g_dec dt165_L_tells_ok (k := 49) rfl
theorem dL_tells_114 : decode cL_tells 114 = .ok (.iload 9, 2) := g_dec dt165_L_tells_ok (k := 50) rfl
theorem dL_tells_116 : decode cL_tells 116 = .ok (.iconst 0, 1) := g_dec dt165_L_tells_ok (k := 51) rfl
theorem dL_tells_117 : decode cL_tells 117 = .ok (.iastore, 1) := g_dec dt165_L_tells_ok (k := 52) rfl
theorem dL_tells_118 : decode cL_tells 118 = .ok (.aload_n 0, 1) := g_dec dt165_L_tells_ok (k := 53) rfl
theorem dL_tells_119 : decode cL_tells 119 = .ok (.iconst 4, 1) := g_dec dt165_L_tells_ok (k := 54) rfl
theorem dL_tells_120 : decode cL_tells 120 = .ok (.dup2, 1) := g_dec dt165_L_tells_ok (k := 55) rfl
theorem dL_tells_121 : decode cL_tells 121 = .ok (.iaload, 1) := g_dec dt165_L_tells_ok (k := 56) rfl
theorem dL_tells_122 : decode cL_tells 122 = .ok (.iconst 1, 1) := g_dec dt165_L_tells_ok (k := 57) rfl
theorem dL_tells_123 : decode cL_tells 123 = .ok (.iadd, 1) := g_dec dt165_L_tells_ok (k := 58) rfl
theorem dL_tells_124 : decode cL_tells 124 = .ok (.iastore, 1) := g_dec dt165_L_tells_ok (k := 59) rfl
def dt166_L_tells : List (Nat × Instr × Nat) := [(3, (.iload 6, 2)), (5, (.iconst 3, 1)), (6, (.if_icmp .ge 324, 3)), (330, (.return_, 1)), (9, (.bipush 6, 2)), (11, (.iload 6, 2)), (13, (.imul, 1)), (14, (.istore 7, 2)), (16, (.aload 4, 2)), (18, (.iload 7, 2)), (20, (.iaload, 1)), (21, (.istore 8, 2)), (23, (.iload 8, 2)), (25, (.ifCond .lt 14, 3)), (28, (.aload 4, 2)), (30, (.iload 7, 2)), (32, (.iconst 1, 1)), (33, (.iadd, 1)), (34, (.dup2, 1)), (35, (.iaload, 1)), (36, (.iconst 1, 1)), (37, (.isub, 1)), (38, (.iastore, 1)), (0, (.iconst 0, 1)), (1, (.istore 6, 2))]
theorem dt166_L_tells_ok : ∀ q ∈ dt166_L_tells, decode cL_tells q.1 = .ok q.2 := by decide +kernel
theorem dL_tells_3 : decode cL_tells 3 = .ok (.iload 6, 2) := g_dec dt166_L_tells_ok (k := 0) rfl
theorem dL_tells_5 : decode cL_tells 5 = .ok (.iconst 3, 1) := g_dec dt166_L_tells_ok (k := 1) rfl
theorem dL_tells_6 : decode cL_tells 6 = .ok (.if_icmp .ge 324, 3) := g_dec dt166_L_tells_ok (k := 2) rfl
theorem dL_tells_330 : decode cL_tells 330 = .ok (.return_, 1) := g_dec dt166_L_tells_ok (k := 3) rfl
theorem dL_tells_9 : decode cL_tells 9 = .ok (.bipush 6, 2) := g_dec dt166_L_tells_ok (k := 4) rfl
theorem dL_tells_11 : decode cL_tells 11 = .ok (.iload 6, 2) := g_dec dt166_L_tells_ok (k := 5) rfl
theorem dL_tells_13 : decode cL_tells 13 = .ok (.imul, 1) := g_dec dt166_L_tells_ok (k := 6) rfl
theorem dL_tells_14 : decode cL_tells 14 = .ok (.istore 7, 2) := g_dec dt166_L_tells_ok (k := 7) rfl
theorem dL_tells_16 : decode cL_tells 16 = .ok (.aload 4, 2) := g_dec dt166_L_tells_ok (k := 8) rfl
theorem dL_tells_18 : decode cL_tells 18 = .ok (.iload 7, 2) := g_dec dt166_L_tells_ok (k := 9) rfl
theorem dL_tells_20 : decode cL_tells 20 = .ok (.iaload, 1) := g_dec dt166_L_tells_ok (k := 10) rfl
theorem dL_tells_21 : decode cL_tells 21 = .ok (.istore 8, 2) := g_dec dt166_L_tells_ok (k := 11) rfl
theorem dL_tells_23 : decode cL_tells 23 = .ok (.iload 8, 2) := g_dec dt166_L_tells_ok (k := 12) rfl
theorem dL_tells_25 : decode cL_tells 25 = .ok (.ifCond .lt 14, 3) := g_dec dt166_L_tells_ok (k := 13) rfl
theorem dL_tells_28 : decode cL_tells 28 = .ok (.aload 4, 2) := g_dec dt166_L_tells_ok (k := 14) rfl
theorem dL_tells_30 : decode cL_tells 30 = .ok (.iload 7, 2) := g_dec dt166_L_tells_ok (k := 15) rfl
theorem dL_tells_32 : decode cL_tells 32 = .ok (.iconst 1, 1) := g_dec dt166_L_tells_ok (k := 16) rfl
theorem dL_tells_33 : decode cL_tells 33 = .ok (.iadd, 1) := g_dec dt166_L_tells_ok (k := 17) rfl
theorem dL_tells_34 : decode cL_tells 34 = .ok (.dup2, 1) := g_dec dt166_L_tells_ok (k := 18) rfl
theorem dL_tells_35 : decode cL_tells 35 = .ok (.iaload, 1) := g_dec dt166_L_tells_ok (k := 19) rfl
theorem dL_tells_36 : decode cL_tells 36 = .ok (.iconst 1, 1) := g_dec dt166_L_tells_ok (k := 20) rfl
theorem dL_tells_37 : decode cL_tells 37 = .ok (.isub, 1) := g_dec dt166_L_tells_ok (k := 21) rfl
theorem dL_tells_38 : decode cL_tells 38 = .ok (.iastore, 1) := g_dec dt166_L_tells_ok (k := 22) rfl
theorem dL_tells_0 : decode cL_tells 0 = .ok (.iconst 0, 1) := g_dec dt166_L_tells_ok (k := 23) rfl
theorem dL_tells_1 : decode cL_tells 1 = .ok (.istore 6, 2) := g_dec dt166_L_tells_ok (k := 24) rfl
def dt167_L_isFree : List (Nat × Instr × Nat) := [(89, (.istore 9, 2)), (91, (.iinc 10 1, 3)), (94, (.goto (-70), 3)), (88, (.iconst 0, 1)), (84, (.iconst 1, 1)), (85, (.goto 4, 3)), (24, (.iload 10, 2)), (26, (.iconst 3, 1)), (27, (.if_icmp .ge 70, 3)), (97, (.iload 9, 2)), (99, (.ireturn, 1)), (30, (.iload 9, 2)), (32, (.ifCond .eq 56, 3)), (35, (.aload 4, 2)), (37, (.bipush 6, 2)), (39, (.iload 10, 2)), (41, (.imul, 1)), (42, (.iaload, 1)), (43, (.iload 6, 2)), (45, (.if_icmp .ne 39, 3)), (48, (.aload 4, 2)), (50, (.bipush 6, 2)), (52, (.iload 10, 2)), (54, (.imul, 1)), (55, (.iconst 2, 1)), (56, (.iadd, 1)), (57, (.iaload, 1)), (58, (.ifCond .ne 26, 3)), (61, (.aload_n 1, 1)), (62, (.iload 6, 2)), (64, (.aload 5, 2)), (66, (.iload 10, 2)), (68, (.laload, 1)), (69, (.invokestatic 17, 3)), (72, (.aload_n 1, 1)), (73, (.iload 6, 2)), (75, (.lload 7, 2)), (77, (.invokestatic 17, 3)), (80, (.lcmp, 1)), (81, (.ifCond .eq 7, 3)), (19, (.istore 9, 2)), (21, (.iconst 0, 1)), (22, (.istore 10, 2)), (0, (.aload_n 0, 1)), (1, (.aload_n 1, 1)), (2, (.aload_n 2, 1)), (3, (.aload_n 3, 1)), (4, (.iload 6, 2)), (6, (.lload 7, 2)), (8, (.invokestatic 25, 3)), (11, (.ifCond .ne 7, 3)), (18, (.iconst 0, 1)), (14, (.iconst 1, 1)), (15, (.goto 4, 3))]
theorem dt167_L_isFree_ok : ∀ q ∈ dt167_L_isFree, decode cL_isFree q.1 = .ok q.2 := by decide +kernel
theorem dL_isFree_89 : decode cL_isFree 89 = .ok (.istore 9, 2) := g_dec dt167_L_isFree_ok (k := 0) rfl
theorem dL_isFree_91 : decode cL_isFree 91 = .ok (.iinc 10 1, 3) := g_dec dt167_L_isFree_ok (k := 1) rfl
theorem dL_isFree_94 : decode cL_isFree 94 = .ok (.goto (-70), 3) := g_dec dt167_L_isFree_ok (k := 2) rfl
theorem dL_isFree_88 : decode cL_isFree 88 = .ok (.iconst 0, 1) := g_dec dt167_L_isFree_ok (k := 3) rfl
theorem dL_isFree_84 : decode cL_isFree 84 = .ok (.iconst 1, 1) := g_dec dt167_L_isFree_ok (k := 4) rfl
theorem dL_isFree_85 : decode cL_isFree 85 = .ok (.goto 4, 3) := g_dec dt167_L_isFree_ok (k := 5) rfl
theorem dL_isFree_24 : decode cL_isFree 24 = .ok (.iload 10, 2) := g_dec dt167_L_isFree_ok (k := 6) rfl
theorem dL_isFree_26 : decode cL_isFree 26 = .ok (.iconst 3, 1) := g_dec dt167_L_isFree_ok (k := 7) rfl
theorem dL_isFree_27 : decode cL_isFree 27 = .ok (.if_icmp .ge 70, 3) := g_dec dt167_L_isFree_ok (k := 8) rfl
theorem dL_isFree_97 : decode cL_isFree 97 = .ok (.iload 9, 2) := g_dec dt167_L_isFree_ok (k := 9) rfl
theorem dL_isFree_99 : decode cL_isFree 99 = .ok (.ireturn, 1) := g_dec dt167_L_isFree_ok (k := 10) rfl
theorem dL_isFree_30 : decode cL_isFree 30 = .ok (.iload 9, 2) := g_dec dt167_L_isFree_ok (k := 11) rfl
theorem dL_isFree_32 : decode cL_isFree 32 = .ok (.ifCond .eq 56, 3) := g_dec dt167_L_isFree_ok (k := 12) rfl
theorem dL_isFree_35 : decode cL_isFree 35 = .ok (.aload 4, 2) := g_dec dt167_L_isFree_ok (k := 13) rfl
theorem dL_isFree_37 : decode cL_isFree 37 = .ok (.bipush 6, 2) := g_dec dt167_L_isFree_ok (k := 14) rfl
theorem dL_isFree_39 : decode cL_isFree 39 = .ok (.iload 10, 2) := g_dec dt167_L_isFree_ok (k := 15) rfl
theorem dL_isFree_41 : decode cL_isFree 41 = .ok (.imul, 1) := g_dec dt167_L_isFree_ok (k := 16) rfl
theorem dL_isFree_42 : decode cL_isFree 42 = .ok (.iaload, 1) := g_dec dt167_L_isFree_ok (k := 17) rfl
theorem dL_isFree_43 : decode cL_isFree 43 = .ok (.iload 6, 2) := g_dec dt167_L_isFree_ok (k := 18) rfl
theorem dL_isFree_45 : decode cL_isFree 45 = .ok (.if_icmp .ne 39, 3) := g_dec dt167_L_isFree_ok (k := 19) rfl
theorem dL_isFree_48 : decode cL_isFree 48 = .ok (.aload 4, 2) := g_dec dt167_L_isFree_ok (k := 20) rfl
theorem dL_isFree_50 : decode cL_isFree 50 = .ok (.bipush 6, 2) := g_dec dt167_L_isFree_ok (k := 21) rfl
theorem dL_isFree_52 : decode cL_isFree 52 = .ok (.iload 10, 2) := g_dec dt167_L_isFree_ok (k := 22) rfl
theorem dL_isFree_54 : decode cL_isFree 54 = .ok (.imul, 1) := g_dec dt167_L_isFree_ok (k := 23) rfl
theorem dL_isFree_55 : decode cL_isFree 55 = .ok (.iconst 2, 1) := g_dec dt167_L_isFree_ok (k := 24) rfl
theorem dL_isFree_56 : decode cL_isFree 56 = .ok (.iadd, 1) := g_dec dt167_L_isFree_ok (k := 25) rfl
theorem dL_isFree_57 : decode cL_isFree 57 = .ok (.iaload, 1) := g_dec dt167_L_isFree_ok (k := 26) rfl
theorem dL_isFree_58 : decode cL_isFree 58 = .ok (.ifCond .ne 26, 3) := g_dec dt167_L_isFree_ok (k := 27) rfl
theorem dL_isFree_61 : decode cL_isFree 61 = .ok (.aload_n 1, 1) := g_dec dt167_L_isFree_ok (k := 28) rfl
theorem dL_isFree_62 : decode cL_isFree 62 = .ok (.iload 6, 2) := g_dec dt167_L_isFree_ok (k := 29) rfl
theorem dL_isFree_64 : decode cL_isFree 64 = .ok (.aload 5, 2) := g_dec dt167_L_isFree_ok (k := 30) rfl
theorem dL_isFree_66 : decode cL_isFree 66 = .ok (.iload 10, 2) := g_dec dt167_L_isFree_ok (k := 31) rfl
theorem dL_isFree_68 : decode cL_isFree 68 = .ok (.laload, 1) := g_dec dt167_L_isFree_ok (k := 32) rfl
theorem dL_isFree_69 : decode cL_isFree 69 = .ok (.invokestatic 17, 3) := g_dec dt167_L_isFree_ok (k := 33) rfl
theorem dL_isFree_72 : decode cL_isFree 72 = .ok (.aload_n 1, 1) := g_dec dt167_L_isFree_ok (k := 34) rfl
theorem dL_isFree_73 : decode cL_isFree 73 = .ok (.iload 6, 2) := g_dec dt167_L_isFree_ok (k := 35) rfl
theorem dL_isFree_75 : decode cL_isFree 75 = .ok (.lload 7, 2) := g_dec dt167_L_isFree_ok (k := 36) rfl
theorem dL_isFree_77 : decode cL_isFree 77 = .ok (.invokestatic 17, 3) := g_dec dt167_L_isFree_ok (k := 37) rfl
theorem dL_isFree_80 : decode cL_isFree 80 = .ok (.lcmp, 1) := g_dec dt167_L_isFree_ok (k := 38) rfl
theorem dL_isFree_81 : decode cL_isFree 81 = .ok (.ifCond .eq 7, 3) := g_dec dt167_L_isFree_ok (k := 39) rfl
theorem dL_isFree_19 : decode cL_isFree 19 = .ok (.istore 9, 2) := g_dec dt167_L_isFree_ok (k := 40) rfl
theorem dL_isFree_21 : decode cL_isFree 21 = .ok (.iconst 0, 1) := g_dec dt167_L_isFree_ok (k := 41) rfl
theorem dL_isFree_22 : decode cL_isFree 22 = .ok (.istore 10, 2) := g_dec dt167_L_isFree_ok (k := 42) rfl
theorem dL_isFree_0 : decode cL_isFree 0 = .ok (.aload_n 0, 1) := g_dec dt167_L_isFree_ok (k := 43) rfl
theorem dL_isFree_1 : decode cL_isFree 1 = .ok (.aload_n 1, 1) := g_dec dt167_L_isFree_ok (k := 44) rfl
theorem dL_isFree_2 : decode cL_isFree 2 = .ok (.aload_n 2, 1) := g_dec dt167_L_isFree_ok (k := 45) rfl
theorem dL_isFree_3 : decode cL_isFree 3 = .ok (.aload_n 3, 1) := g_dec dt167_L_isFree_ok (k := 46) rfl
theorem dL_isFree_4 : decode cL_isFree 4 = .ok (.iload 6, 2) := g_dec dt167_L_isFree_ok (k := 47) rfl
theorem dL_isFree_6 : decode cL_isFree 6 = .ok (.lload 7, 2) := g_dec dt167_L_isFree_ok (k := 48) rfl
theorem dL_isFree_8 : decode cL_isFree 8 = .ok (.invokestatic 25, 3) := g_dec dt167_L_isFree_ok (k := 49) rfl
theorem dL_isFree_11 : decode cL_isFree 11 = .ok (.ifCond .ne 7, 3) := g_dec dt167_L_isFree_ok (k := 50) rfl
theorem dL_isFree_18 : decode cL_isFree 18 = .ok (.iconst 0, 1) := g_dec dt167_L_isFree_ok (k := 51) rfl
theorem dL_isFree_14 : decode cL_isFree 14 = .ok (.iconst 1, 1) := g_dec dt167_L_isFree_ok (k := 52) rfl
theorem dL_isFree_15 : decode cL_isFree 15 = .ok (.goto 4, 3) := g_dec dt167_L_isFree_ok (k := 53) rfl
def dt168_L_isAhead : List (Nat × Instr × Nat) := [(92, (.istore 10, 2)), (94, (.iinc 11 1, 3)), (97, (.goto (-91), 3)), (87, (.iconst 1, 1)), (88, (.goto 4, 3)), (91, (.iconst 0, 1)), (6, (.iload 11, 2)), (8, (.iload 6, 2)), (10, (.if_icmp .ge 90, 3)), (100, (.iload 10, 2)), (102, (.ireturn, 1)), (13, (.aload 5, 2)), (15, (.iload 11, 2)), (17, (.iaload, 1)), (18, (.bipush 100, 2)), (20, (.idiv, 1)), (21, (.istore 12, 2)), (23, (.iload 10, 2)), (25, (.ifCond .ne 62, 3)), (28, (.iload 12, 2)), (30, (.iload 7, 2)), (32, (.if_icmp .ge 59, 3)), (35, (.aload_n 0, 1)), (36, (.aload_n 1, 1)), (37, (.aload_n 2, 1)), (38, (.aload_n 3, 1)), (39, (.aload 4, 2)), (41, (.aload 5, 2)), (43, (.iload 11, 2)), (45, (.iaload, 1)), (46, (.bipush 100, 2)), (48, (.irem, 1)), (49, (.invokestatic 53, 3)), (52, (.iload 9, 2)), (54, (.ishr, 1)), (55, (.iconst 1, 1)), (56, (.iand, 1)), (57, (.iconst 1, 1)), (58, (.if_icmp .ne 33, 3)), (61, (.aload_n 3, 1)), (62, (.iload 9, 2)), (64, (.aload 8, 2)), (66, (.iload 12, 2)), (68, (.laload, 1)), (69, (.invokestatic 17, 3)), (72, (.aload_n 3, 1)), (73, (.iload 9, 2)), (75, (.aload 8, 2)), (77, (.iload 7, 2)), (79, (.laload, 1)), (80, (.invokestatic 17, 3)), (83, (.lcmp, 1)), (84, (.ifCond .ne 7, 3)), (0, (.iconst 0, 1)), (1, (.istore 10, 2)), (3, (.iconst 0, 1)), (4, (.istore 11, 2))]
theorem dt168_L_isAhead_ok : ∀ q ∈ dt168_L_isAhead, decode cL_isAhead q.1 = .ok q.2 := by decide +kernel
theorem dL_isAhead_92 : decode cL_isAhead 92 = .ok (.istore 10, 2) := g_dec dt168_L_isAhead_ok (k := 0) rfl
theorem dL_isAhead_94 : decode cL_isAhead 94 = .ok (.iinc 11 1, 3) := g_dec dt168_L_isAhead_ok (k := 1) rfl
theorem dL_isAhead_97 : decode cL_isAhead 97 = .ok (.goto (-91), 3) := g_dec dt168_L_isAhead_ok (k := 2) rfl
theorem dL_isAhead_87 : decode cL_isAhead 87 = .ok (.iconst 1, 1) := g_dec dt168_L_isAhead_ok (k := 3) rfl
theorem dL_isAhead_88 : decode cL_isAhead 88 = .ok (.goto 4, 3) := g_dec dt168_L_isAhead_ok (k := 4) rfl
theorem dL_isAhead_91 : decode cL_isAhead 91 = .ok (.iconst 0, 1) := g_dec dt168_L_isAhead_ok (k := 5) rfl
theorem dL_isAhead_6 : decode cL_isAhead 6 = .ok (.iload 11, 2) := g_dec dt168_L_isAhead_ok (k := 6) rfl
theorem dL_isAhead_8 : decode cL_isAhead 8 = .ok (.iload 6, 2) := g_dec dt168_L_isAhead_ok (k := 7) rfl
theorem dL_isAhead_10 : decode cL_isAhead 10 = .ok (.if_icmp .ge 90, 3) := g_dec dt168_L_isAhead_ok (k := 8) rfl
theorem dL_isAhead_100 : decode cL_isAhead 100 = .ok (.iload 10, 2) := g_dec dt168_L_isAhead_ok (k := 9) rfl
theorem dL_isAhead_102 : decode cL_isAhead 102 = .ok (.ireturn, 1) := g_dec dt168_L_isAhead_ok (k := 10) rfl
theorem dL_isAhead_13 : decode cL_isAhead 13 = .ok (.aload 5, 2) := g_dec dt168_L_isAhead_ok (k := 11) rfl
theorem dL_isAhead_15 : decode cL_isAhead 15 = .ok (.iload 11, 2) := g_dec dt168_L_isAhead_ok (k := 12) rfl
theorem dL_isAhead_17 : decode cL_isAhead 17 = .ok (.iaload, 1) := g_dec dt168_L_isAhead_ok (k := 13) rfl
theorem dL_isAhead_18 : decode cL_isAhead 18 = .ok (.bipush 100, 2) := g_dec dt168_L_isAhead_ok (k := 14) rfl
theorem dL_isAhead_20 : decode cL_isAhead 20 = .ok (.idiv, 1) := g_dec dt168_L_isAhead_ok (k := 15) rfl
theorem dL_isAhead_21 : decode cL_isAhead 21 = .ok (.istore 12, 2) := g_dec dt168_L_isAhead_ok (k := 16) rfl
theorem dL_isAhead_23 : decode cL_isAhead 23 = .ok (.iload 10, 2) := g_dec dt168_L_isAhead_ok (k := 17) rfl
theorem dL_isAhead_25 : decode cL_isAhead 25 = .ok (.ifCond .ne 62, 3) := g_dec dt168_L_isAhead_ok (k := 18) rfl
theorem dL_isAhead_28 : decode cL_isAhead 28 = .ok (.iload 12, 2) := g_dec dt168_L_isAhead_ok (k := 19) rfl
theorem dL_isAhead_30 : decode cL_isAhead 30 = .ok (.iload 7, 2) := g_dec dt168_L_isAhead_ok (k := 20) rfl
theorem dL_isAhead_32 : decode cL_isAhead 32 = .ok (.if_icmp .ge 59, 3) := g_dec dt168_L_isAhead_ok (k := 21) rfl
theorem dL_isAhead_35 : decode cL_isAhead 35 = .ok (.aload_n 0, 1) := g_dec dt168_L_isAhead_ok (k := 22) rfl
theorem dL_isAhead_36 : decode cL_isAhead 36 = .ok (.aload_n 1, 1) := g_dec dt168_L_isAhead_ok (k := 23) rfl
theorem dL_isAhead_37 : decode cL_isAhead 37 = .ok (.aload_n 2, 1) := g_dec dt168_L_isAhead_ok (k := 24) rfl
theorem dL_isAhead_38 : decode cL_isAhead 38 = .ok (.aload_n 3, 1) := g_dec dt168_L_isAhead_ok (k := 25) rfl
theorem dL_isAhead_39 : decode cL_isAhead 39 = .ok (.aload 4, 2) := g_dec dt168_L_isAhead_ok (k := 26) rfl
theorem dL_isAhead_41 : decode cL_isAhead 41 = .ok (.aload 5, 2) := g_dec dt168_L_isAhead_ok (k := 27) rfl
theorem dL_isAhead_43 : decode cL_isAhead 43 = .ok (.iload 11, 2) := g_dec dt168_L_isAhead_ok (k := 28) rfl
theorem dL_isAhead_45 : decode cL_isAhead 45 = .ok (.iaload, 1) := g_dec dt168_L_isAhead_ok (k := 29) rfl
theorem dL_isAhead_46 : decode cL_isAhead 46 = .ok (.bipush 100, 2) := g_dec dt168_L_isAhead_ok (k := 30) rfl
theorem dL_isAhead_48 : decode cL_isAhead 48 = .ok (.irem, 1) := g_dec dt168_L_isAhead_ok (k := 31) rfl
theorem dL_isAhead_49 : decode cL_isAhead 49 = .ok (.invokestatic 53, 3) := g_dec dt168_L_isAhead_ok (k := 32) rfl
theorem dL_isAhead_52 : decode cL_isAhead 52 = .ok (.iload 9, 2) := g_dec dt168_L_isAhead_ok (k := 33) rfl
theorem dL_isAhead_54 : decode cL_isAhead 54 = .ok (.ishr, 1) := g_dec dt168_L_isAhead_ok (k := 34) rfl
theorem dL_isAhead_55 : decode cL_isAhead 55 = .ok (.iconst 1, 1) := g_dec dt168_L_isAhead_ok (k := 35) rfl
theorem dL_isAhead_56 : decode cL_isAhead 56 = .ok (.iand, 1) := g_dec dt168_L_isAhead_ok (k := 36) rfl
theorem dL_isAhead_57 : decode cL_isAhead 57 = .ok (.iconst 1, 1) := g_dec dt168_L_isAhead_ok (k := 37) rfl
theorem dL_isAhead_58 : decode cL_isAhead 58 = .ok (.if_icmp .ne 33, 3) := g_dec dt168_L_isAhead_ok (k := 38) rfl
theorem dL_isAhead_61 : decode cL_isAhead 61 = .ok (.aload_n 3, 1) := g_dec dt168_L_isAhead_ok (k := 39) rfl
theorem dL_isAhead_62 : decode cL_isAhead 62 = .ok (.iload 9, 2) := g_dec dt168_L_isAhead_ok (k := 40) rfl
theorem dL_isAhead_64 : decode cL_isAhead 64 = .ok (.aload 8, 2) := g_dec dt168_L_isAhead_ok (k := 41) rfl
theorem dL_isAhead_66 : decode cL_isAhead 66 = .ok (.iload 12, 2) := g_dec dt168_L_isAhead_ok (k := 42) rfl
theorem dL_isAhead_68 : decode cL_isAhead 68 = .ok (.laload, 1) := g_dec dt168_L_isAhead_ok (k := 43) rfl
theorem dL_isAhead_69 : decode cL_isAhead 69 = .ok (.invokestatic 17, 3) := g_dec dt168_L_isAhead_ok (k := 44) rfl
theorem dL_isAhead_72 : decode cL_isAhead 72 = .ok (.aload_n 3, 1) := g_dec dt168_L_isAhead_ok (k := 45) rfl
theorem dL_isAhead_73 : decode cL_isAhead 73 = .ok (.iload 9, 2) := g_dec dt168_L_isAhead_ok (k := 46) rfl
theorem dL_isAhead_75 : decode cL_isAhead 75 = .ok (.aload 8, 2) := g_dec dt168_L_isAhead_ok (k := 47) rfl
theorem dL_isAhead_77 : decode cL_isAhead 77 = .ok (.iload 7, 2) := g_dec dt168_L_isAhead_ok (k := 48) rfl
theorem dL_isAhead_79 : decode cL_isAhead 79 = .ok (.laload, 1) := g_dec dt168_L_isAhead_ok (k := 49) rfl
theorem dL_isAhead_80 : decode cL_isAhead 80 = .ok (.invokestatic 17, 3) := g_dec dt168_L_isAhead_ok (k := 50) rfl
theorem dL_isAhead_83 : decode cL_isAhead 83 = .ok (.lcmp, 1) := g_dec dt168_L_isAhead_ok (k := 51) rfl
theorem dL_isAhead_84 : decode cL_isAhead 84 = .ok (.ifCond .ne 7, 3) := g_dec dt168_L_isAhead_ok (k := 52) rfl
theorem dL_isAhead_0 : decode cL_isAhead 0 = .ok (.iconst 0, 1) := g_dec dt168_L_isAhead_ok (k := 53) rfl
theorem dL_isAhead_1 : decode cL_isAhead 1 = .ok (.istore 10, 2) := g_dec dt168_L_isAhead_ok (k := 54) rfl
theorem dL_isAhead_3 : decode cL_isAhead 3 = .ok (.iconst 0, 1) := g_dec dt168_L_isAhead_ok (k := 55) rfl
theorem dL_isAhead_4 : decode cL_isAhead 4 = .ok (.istore 11, 2) := g_dec dt168_L_isAhead_ok (k := 56) rfl
def dt169_L_wanted : List (Nat × Instr × Nat) := [(218, (.iinc 13 1, 3)), (221, (.goto (-218), 3)), (212, (.iinc 16 1, 3)), (215, (.goto (-147), 3)), (143, (.istore 17, 2)), (145, (.iinc 18 (-1), 3)), (148, (.goto (-55), 3)), (93, (.iload 18, 2)), (95, (.iload 14, 2)), (97, (.if_icmp .lt 54, 3)), (151, (.iload 17, 2)), (153, (.iload 12, 2)), (155, (.if_icmp .ne 57, 3)), (158, (.aload_n 0, 1)), (159, (.aload_n 3, 1)), (160, (.aload 5, 2)), (162, (.aload 6, 2)), (164, (.aload 7, 2)), (166, (.aload 8, 2)), (168, (.iload 16, 2)), (170, (.aload 11, 2)), (172, (.iload 13, 2)), (174, (.laload, 1)), (175, (.invokestatic 114, 3)), (178, (.ifCond .eq 34, 3)), (181, (.aload_n 0, 1)), (182, (.aload_n 1, 1)), (183, (.aload_n 2, 1)), (184, (.aload_n 3, 1)), (185, (.aload 4, 2)), (187, (.aload 9, 2)), (189, (.iload 10, 2)), (191, (.iload 13, 2)), (193, (.aload 11, 2)), (195, (.iload 16, 2)), (197, (.invokestatic 118, 3)), (200, (.ifCond .ne 12, 3)), (203, (.bipush 100, 2)), (205, (.iload 13, 2)), (207, (.imul, 1)), (208, (.iload 16, 2)), (210, (.iadd, 1)), (211, (.ireturn, 1)), (100, (.aload_n 0, 1)), (101, (.aload_n 1, 1)), (102, (.aload_n 2, 1)), (103, (.aload_n 3, 1)), (104, (.aload 4, 2)), (106, (.aload 9, 2)), (108, (.iload 18, 2)), (110, (.iaload, 1)), (111, (.bipush 100, 2)), (113, (.irem, 1)), (114, (.invokestatic 53, 3)), (117, (.iload 16, 2)), (119, (.ishr, 1)), (120, (.iconst 1, 1)), (121, (.iand, 1)), (122, (.iconst 1, 1)), (123, (.if_icmp .ne 18, 3))]
theorem dt169_L_wanted_ok : ∀ q ∈ dt169_L_wanted, decode cL_wanted q.1 = .ok q.2 := by decide +kernel
theorem dL_wanted_218 : decode cL_wanted 218 = .ok (.iinc 13 1, 3) := g_dec dt169_L_wanted_ok (k := 0) rfl
theorem dL_wanted_221 : decode cL_wanted 221 = .ok (.goto (-218), 3) := g_dec dt169_L_wanted_ok (k := 1) rfl
theorem dL_wanted_212 : decode cL_wanted 212 = .ok (.iinc 16 1, 3) := g_dec dt169_L_wanted_ok (k := 2) rfl
theorem dL_wanted_215 : decode cL_wanted 215 = .ok (.goto (-147), 3) := g_dec dt169_L_wanted_ok (k := 3) rfl
theorem dL_wanted_143 : decode cL_wanted 143 = .ok (.istore 17, 2) := g_dec dt169_L_wanted_ok (k := 4) rfl
theorem dL_wanted_145 : decode cL_wanted 145 = .ok (.iinc 18 (-1), 3) := g_dec dt169_L_wanted_ok (k := 5) rfl
theorem dL_wanted_148 : decode cL_wanted 148 = .ok (.goto (-55), 3) := g_dec dt169_L_wanted_ok (k := 6) rfl
theorem dL_wanted_93 : decode cL_wanted 93 = .ok (.iload 18, 2) := g_dec dt169_L_wanted_ok (k := 7) rfl
theorem dL_wanted_95 : decode cL_wanted 95 = .ok (.iload 14, 2) := g_dec dt169_L_wanted_ok (k := 8) rfl
theorem dL_wanted_97 : decode cL_wanted 97 = .ok (.if_icmp .lt 54, 3) := g_dec dt169_L_wanted_ok (k := 9) rfl
theorem dL_wanted_151 : decode cL_wanted 151 = .ok (.iload 17, 2) := g_dec dt169_L_wanted_ok (k := 10) rfl
theorem dL_wanted_153 : decode cL_wanted 153 = .ok (.iload 12, 2) := g_dec dt169_L_wanted_ok (k := 11) rfl
theorem dL_wanted_155 : decode cL_wanted 155 = .ok (.if_icmp .ne 57, 3) := g_dec dt169_L_wanted_ok (k := 12) rfl
theorem dL_wanted_158 : decode cL_wanted 158 = .ok (.aload_n 0, 1) := g_dec dt169_L_wanted_ok (k := 13) rfl
theorem dL_wanted_159 : decode cL_wanted 159 = .ok (.aload_n 3, 1) := g_dec dt169_L_wanted_ok (k := 14) rfl
theorem dL_wanted_160 : decode cL_wanted 160 = .ok (.aload 5, 2) := g_dec dt169_L_wanted_ok (k := 15) rfl
theorem dL_wanted_162 : decode cL_wanted 162 = .ok (.aload 6, 2) := g_dec dt169_L_wanted_ok (k := 16) rfl
theorem dL_wanted_164 : decode cL_wanted 164 = .ok (.aload 7, 2) := g_dec dt169_L_wanted_ok (k := 17) rfl
theorem dL_wanted_166 : decode cL_wanted 166 = .ok (.aload 8, 2) := g_dec dt169_L_wanted_ok (k := 18) rfl
theorem dL_wanted_168 : decode cL_wanted 168 = .ok (.iload 16, 2) := g_dec dt169_L_wanted_ok (k := 19) rfl
theorem dL_wanted_170 : decode cL_wanted 170 = .ok (.aload 11, 2) := g_dec dt169_L_wanted_ok (k := 20) rfl
theorem dL_wanted_172 : decode cL_wanted 172 = .ok (.iload 13, 2) := g_dec dt169_L_wanted_ok (k := 21) rfl
theorem dL_wanted_174 : decode cL_wanted 174 = .ok (.laload, 1) := g_dec dt169_L_wanted_ok (k := 22) rfl
theorem dL_wanted_175 : decode cL_wanted 175 = .ok (.invokestatic 114, 3) := g_dec dt169_L_wanted_ok (k := 23) rfl
theorem dL_wanted_178 : decode cL_wanted 178 = .ok (.ifCond .eq 34, 3) := g_dec dt169_L_wanted_ok (k := 24) rfl
theorem dL_wanted_181 : decode cL_wanted 181 = .ok (.aload_n 0, 1) := g_dec dt169_L_wanted_ok (k := 25) rfl
theorem dL_wanted_182 : decode cL_wanted 182 = .ok (.aload_n 1, 1) := g_dec dt169_L_wanted_ok (k := 26) rfl
theorem dL_wanted_183 : decode cL_wanted 183 = .ok (.aload_n 2, 1) := g_dec dt169_L_wanted_ok (k := 27) rfl
theorem dL_wanted_184 : decode cL_wanted 184 = .ok (.aload_n 3, 1) := g_dec dt169_L_wanted_ok (k := 28) rfl
theorem dL_wanted_185 : decode cL_wanted 185 = .ok (.aload 4, 2) := g_dec dt169_L_wanted_ok (k := 29) rfl
theorem dL_wanted_187 : decode cL_wanted 187 = .ok (.aload 9, 2) := g_dec dt169_L_wanted_ok (k := 30) rfl
theorem dL_wanted_189 : decode cL_wanted 189 = .ok (.iload 10, 2) := g_dec dt169_L_wanted_ok (k := 31) rfl
theorem dL_wanted_191 : decode cL_wanted 191 = .ok (.iload 13, 2) := g_dec dt169_L_wanted_ok (k := 32) rfl
theorem dL_wanted_193 : decode cL_wanted 193 = .ok (.aload 11, 2) := g_dec dt169_L_wanted_ok (k := 33) rfl
theorem dL_wanted_195 : decode cL_wanted 195 = .ok (.iload 16, 2) := g_dec dt169_L_wanted_ok (k := 34) rfl
theorem dL_wanted_197 : decode cL_wanted 197 = .ok (.invokestatic 118, 3) := g_dec dt169_L_wanted_ok (k := 35) rfl
theorem dL_wanted_200 : decode cL_wanted 200 = .ok (.ifCond .ne 12, 3) := g_dec dt169_L_wanted_ok (k := 36) rfl
theorem dL_wanted_203 : decode cL_wanted 203 = .ok (.bipush 100, 2) := g_dec dt169_L_wanted_ok (k := 37) rfl
theorem dL_wanted_205 : decode cL_wanted 205 = .ok (.iload 13, 2) := g_dec dt169_L_wanted_ok (k := 38) rfl
theorem dL_wanted_207 : decode cL_wanted 207 = .ok (.imul, 1) := g_dec dt169_L_wanted_ok (k := 39) rfl
theorem dL_wanted_208 : decode cL_wanted 208 = .ok (.iload 16, 2) := g_dec dt169_L_wanted_ok (k := 40) rfl
theorem dL_wanted_210 : decode cL_wanted 210 = .ok (.iadd, 1) := g_dec dt169_L_wanted_ok (k := 41) rfl
theorem dL_wanted_211 : decode cL_wanted 211 = .ok (.ireturn, 1) := g_dec dt169_L_wanted_ok (k := 42) rfl
theorem dL_wanted_100 : decode cL_wanted 100 = .ok (.aload_n 0, 1) := g_dec dt169_L_wanted_ok (k := 43) rfl
theorem dL_wanted_101 : decode cL_wanted 101 = .ok (.aload_n 1, 1) := g_dec dt169_L_wanted_ok (k := 44) rfl
theorem dL_wanted_102 : decode cL_wanted 102 = .ok (.aload_n 2, 1) := g_dec dt169_L_wanted_ok (k := 45) rfl
theorem dL_wanted_103 : decode cL_wanted 103 = .ok (.aload_n 3, 1) := g_dec dt169_L_wanted_ok (k := 46) rfl
theorem dL_wanted_104 : decode cL_wanted 104 = .ok (.aload 4, 2) := g_dec dt169_L_wanted_ok (k := 47) rfl
theorem dL_wanted_106 : decode cL_wanted 106 = .ok (.aload 9, 2) := g_dec dt169_L_wanted_ok (k := 48) rfl
theorem dL_wanted_108 : decode cL_wanted 108 = .ok (.iload 18, 2) := g_dec dt169_L_wanted_ok (k := 49) rfl
theorem dL_wanted_110 : decode cL_wanted 110 = .ok (.iaload, 1) := g_dec dt169_L_wanted_ok (k := 50) rfl
theorem dL_wanted_111 : decode cL_wanted 111 = .ok (.bipush 100, 2) := g_dec dt169_L_wanted_ok (k := 51) rfl
theorem dL_wanted_113 : decode cL_wanted 113 = .ok (.irem, 1) := g_dec dt169_L_wanted_ok (k := 52) rfl
theorem dL_wanted_114 : decode cL_wanted 114 = .ok (.invokestatic 53, 3) := g_dec dt169_L_wanted_ok (k := 53) rfl
theorem dL_wanted_117 : decode cL_wanted 117 = .ok (.iload 16, 2) := g_dec dt169_L_wanted_ok (k := 54) rfl
theorem dL_wanted_119 : decode cL_wanted 119 = .ok (.ishr, 1) := g_dec dt169_L_wanted_ok (k := 55) rfl
theorem dL_wanted_120 : decode cL_wanted 120 = .ok (.iconst 1, 1) := g_dec dt169_L_wanted_ok (k := 56) rfl
theorem dL_wanted_121 : decode cL_wanted 121 = .ok (.iand, 1) := g_dec dt169_L_wanted_ok (k := 57) rfl
theorem dL_wanted_122 : decode cL_wanted 122 = .ok (.iconst 1, 1) := g_dec dt169_L_wanted_ok (k := 58) rfl
theorem dL_wanted_123 : decode cL_wanted 123 = .ok (.if_icmp .ne 18, 3) := g_dec dt169_L_wanted_ok (k := 59) rfl
def dt170_L_wanted : List (Nat × Instr × Nat) := [(141, (.iload 17, 2)), (126, (.aload_n 1, 1)), (127, (.aload 9, 2)), (129, (.iload 18, 2)), (131, (.iaload, 1)), (132, (.bipush 100, 2)), (134, (.irem, 1)), (135, (.iaload, 1)), (136, (.iconst 3, 1)), (137, (.irem, 1)), (138, (.goto 5, 3)), (68, (.iload 16, 2)), (70, (.aload_n 0, 1)), (71, (.iconst 2, 1)), (72, (.iaload, 1)), (73, (.if_icmp .ge 145, 3)), (76, (.iload 15, 2)), (78, (.ifCond .le 140, 3)), (81, (.iconst 3, 1)), (82, (.istore 17, 2)), (84, (.iload 14, 2)), (86, (.iload 15, 2)), (88, (.iadd, 1)), (89, (.iconst 1, 1)), (90, (.isub, 1)), (91, (.istore 18, 2)), (45, (.iadd, 1)), (46, (.istore 14, 2)), (48, (.iinc 15 1, 3)), (51, (.goto (-33), 3)), (18, (.iload 15, 2)), (20, (.iload 10, 2)), (22, (.if_icmp .ge 32, 3)), (54, (.aload 9, 2)), (56, (.iload 10, 2)), (58, (.iload 13, 2)), (60, (.invokestatic 110, 3)), (63, (.istore 15, 2)), (65, (.iconst 0, 1)), (66, (.istore 16, 2)), (25, (.iload 14, 2)), (27, (.aload 9, 2)), (29, (.iload 15, 2)), (31, (.iaload, 1)), (32, (.bipush 100, 2)), (34, (.idiv, 1)), (35, (.iload 13, 2)), (37, (.if_icmp .ge 7, 3)), (44, (.iconst 0, 1)), (40, (.iconst 1, 1)), (41, (.goto 4, 3)), (3, (.iload 13, 2)), (5, (.aload_n 0, 1)), (6, (.bipush 6, 2)), (8, (.iaload, 1)), (9, (.if_icmp .ge 215, 3)), (224, (.iconst (-1), 1)), (225, (.ireturn, 1)), (12, (.iconst 0, 1)), (13, (.istore 14, 2))]
theorem dt170_L_wanted_ok : ∀ q ∈ dt170_L_wanted, decode cL_wanted q.1 = .ok q.2 := by decide +kernel
theorem dL_wanted_141 : decode cL_wanted 141 = .ok (.iload 17, 2) := g_dec dt170_L_wanted_ok (k := 0) rfl
theorem dL_wanted_126 : decode cL_wanted 126 = .ok (.aload_n 1, 1) := g_dec dt170_L_wanted_ok (k := 1) rfl
theorem dL_wanted_127 : decode cL_wanted 127 = .ok (.aload 9, 2) := g_dec dt170_L_wanted_ok (k := 2) rfl
theorem dL_wanted_129 : decode cL_wanted 129 = .ok (.iload 18, 2) := g_dec dt170_L_wanted_ok (k := 3) rfl
theorem dL_wanted_131 : decode cL_wanted 131 = .ok (.iaload, 1) := g_dec dt170_L_wanted_ok (k := 4) rfl
theorem dL_wanted_132 : decode cL_wanted 132 = .ok (.bipush 100, 2) := g_dec dt170_L_wanted_ok (k := 5) rfl
theorem dL_wanted_134 : decode cL_wanted 134 = .ok (.irem, 1) := g_dec dt170_L_wanted_ok (k := 6) rfl
theorem dL_wanted_135 : decode cL_wanted 135 = .ok (.iaload, 1) := g_dec dt170_L_wanted_ok (k := 7) rfl
theorem dL_wanted_136 : decode cL_wanted 136 = .ok (.iconst 3, 1) := g_dec dt170_L_wanted_ok (k := 8) rfl
theorem dL_wanted_137 : decode cL_wanted 137 = .ok (.irem, 1) := g_dec dt170_L_wanted_ok (k := 9) rfl
theorem dL_wanted_138 : decode cL_wanted 138 = .ok (.goto 5, 3) := g_dec dt170_L_wanted_ok (k := 10) rfl
theorem dL_wanted_68 : decode cL_wanted 68 = .ok (.iload 16, 2) := g_dec dt170_L_wanted_ok (k := 11) rfl
theorem dL_wanted_70 : decode cL_wanted 70 = .ok (.aload_n 0, 1) := g_dec dt170_L_wanted_ok (k := 12) rfl
theorem dL_wanted_71 : decode cL_wanted 71 = .ok (.iconst 2, 1) := g_dec dt170_L_wanted_ok (k := 13) rfl
theorem dL_wanted_72 : decode cL_wanted 72 = .ok (.iaload, 1) := g_dec dt170_L_wanted_ok (k := 14) rfl
theorem dL_wanted_73 : decode cL_wanted 73 = .ok (.if_icmp .ge 145, 3) := g_dec dt170_L_wanted_ok (k := 15) rfl
theorem dL_wanted_76 : decode cL_wanted 76 = .ok (.iload 15, 2) := g_dec dt170_L_wanted_ok (k := 16) rfl
theorem dL_wanted_78 : decode cL_wanted 78 = .ok (.ifCond .le 140, 3) := g_dec dt170_L_wanted_ok (k := 17) rfl
theorem dL_wanted_81 : decode cL_wanted 81 = .ok (.iconst 3, 1) := g_dec dt170_L_wanted_ok (k := 18) rfl
theorem dL_wanted_82 : decode cL_wanted 82 = .ok (.istore 17, 2) := g_dec dt170_L_wanted_ok (k := 19) rfl
theorem dL_wanted_84 : decode cL_wanted 84 = .ok (.iload 14, 2) := g_dec dt170_L_wanted_ok (k := 20) rfl
theorem dL_wanted_86 : decode cL_wanted 86 = .ok (.iload 15, 2) := g_dec dt170_L_wanted_ok (k := 21) rfl
theorem dL_wanted_88 : decode cL_wanted 88 = .ok (.iadd, 1) := g_dec dt170_L_wanted_ok (k := 22) rfl
theorem dL_wanted_89 : decode cL_wanted 89 = .ok (.iconst 1, 1) := g_dec dt170_L_wanted_ok (k := 23) rfl
theorem dL_wanted_90 : decode cL_wanted 90 = .ok (.isub, 1) := g_dec dt170_L_wanted_ok (k := 24) rfl
theorem dL_wanted_91 : decode cL_wanted 91 = .ok (.istore 18, 2) := g_dec dt170_L_wanted_ok (k := 25) rfl
theorem dL_wanted_45 : decode cL_wanted 45 = .ok (.iadd, 1) := g_dec dt170_L_wanted_ok (k := 26) rfl
theorem dL_wanted_46 : decode cL_wanted 46 = .ok (.istore 14, 2) := g_dec dt170_L_wanted_ok (k := 27) rfl
theorem dL_wanted_48 : decode cL_wanted 48 = .ok (.iinc 15 1, 3) := g_dec dt170_L_wanted_ok (k := 28) rfl
theorem dL_wanted_51 : decode cL_wanted 51 = .ok (.goto (-33), 3) := g_dec dt170_L_wanted_ok (k := 29) rfl
theorem dL_wanted_18 : decode cL_wanted 18 = .ok (.iload 15, 2) := g_dec dt170_L_wanted_ok (k := 30) rfl
theorem dL_wanted_20 : decode cL_wanted 20 = .ok (.iload 10, 2) := g_dec dt170_L_wanted_ok (k := 31) rfl
theorem dL_wanted_22 : decode cL_wanted 22 = .ok (.if_icmp .ge 32, 3) := g_dec dt170_L_wanted_ok (k := 32) rfl
theorem dL_wanted_54 : decode cL_wanted 54 = .ok (.aload 9, 2) := g_dec dt170_L_wanted_ok (k := 33) rfl
theorem dL_wanted_56 : decode cL_wanted 56 = .ok (.iload 10, 2) := g_dec dt170_L_wanted_ok (k := 34) rfl
theorem dL_wanted_58 : decode cL_wanted 58 = .ok (.iload 13, 2) := g_dec dt170_L_wanted_ok (k := 35) rfl
theorem dL_wanted_60 : decode cL_wanted 60 = .ok (.invokestatic 110, 3) := g_dec dt170_L_wanted_ok (k := 36) rfl
theorem dL_wanted_63 : decode cL_wanted 63 = .ok (.istore 15, 2) := g_dec dt170_L_wanted_ok (k := 37) rfl
theorem dL_wanted_65 : decode cL_wanted 65 = .ok (.iconst 0, 1) := g_dec dt170_L_wanted_ok (k := 38) rfl
theorem dL_wanted_66 : decode cL_wanted 66 = .ok (.istore 16, 2) := g_dec dt170_L_wanted_ok (k := 39) rfl
theorem dL_wanted_25 : decode cL_wanted 25 = .ok (.iload 14, 2) := g_dec dt170_L_wanted_ok (k := 40) rfl
theorem dL_wanted_27 : decode cL_wanted 27 = .ok (.aload 9, 2) := g_dec dt170_L_wanted_ok (k := 41) rfl
theorem dL_wanted_29 : decode cL_wanted 29 = .ok (.iload 15, 2) := g_dec dt170_L_wanted_ok (k := 42) rfl
theorem dL_wanted_31 : decode cL_wanted 31 = .ok (.iaload, 1) := g_dec dt170_L_wanted_ok (k := 43) rfl
theorem dL_wanted_32 : decode cL_wanted 32 = .ok (.bipush 100, 2) := g_dec dt170_L_wanted_ok (k := 44) rfl
theorem dL_wanted_34 : decode cL_wanted 34 = .ok (.idiv, 1) := g_dec dt170_L_wanted_ok (k := 45) rfl
theorem dL_wanted_35 : decode cL_wanted 35 = .ok (.iload 13, 2) := g_dec dt170_L_wanted_ok (k := 46) rfl
theorem dL_wanted_37 : decode cL_wanted 37 = .ok (.if_icmp .ge 7, 3) := g_dec dt170_L_wanted_ok (k := 47) rfl
theorem dL_wanted_44 : decode cL_wanted 44 = .ok (.iconst 0, 1) := g_dec dt170_L_wanted_ok (k := 48) rfl
theorem dL_wanted_40 : decode cL_wanted 40 = .ok (.iconst 1, 1) := g_dec dt170_L_wanted_ok (k := 49) rfl
theorem dL_wanted_41 : decode cL_wanted 41 = .ok (.goto 4, 3) := g_dec dt170_L_wanted_ok (k := 50) rfl
theorem dL_wanted_3 : decode cL_wanted 3 = .ok (.iload 13, 2) := g_dec dt170_L_wanted_ok (k := 51) rfl
theorem dL_wanted_5 : decode cL_wanted 5 = .ok (.aload_n 0, 1) := g_dec dt170_L_wanted_ok (k := 52) rfl
theorem dL_wanted_6 : decode cL_wanted 6 = .ok (.bipush 6, 2) := g_dec dt170_L_wanted_ok (k := 53) rfl
theorem dL_wanted_8 : decode cL_wanted 8 = .ok (.iaload, 1) := g_dec dt170_L_wanted_ok (k := 54) rfl
theorem dL_wanted_9 : decode cL_wanted 9 = .ok (.if_icmp .ge 215, 3) := g_dec dt170_L_wanted_ok (k := 55) rfl
theorem dL_wanted_224 : decode cL_wanted 224 = .ok (.iconst (-1), 1) := g_dec dt170_L_wanted_ok (k := 56) rfl
theorem dL_wanted_225 : decode cL_wanted 225 = .ok (.ireturn, 1) := g_dec dt170_L_wanted_ok (k := 57) rfl
theorem dL_wanted_12 : decode cL_wanted 12 = .ok (.iconst 0, 1) := g_dec dt170_L_wanted_ok (k := 58) rfl
theorem dL_wanted_13 : decode cL_wanted 13 = .ok (.istore 14, 2) := g_dec dt170_L_wanted_ok (k := 59) rfl
def dt171_L_wanted : List (Nat × Instr × Nat) := [(15, (.iconst 0, 1)), (16, (.istore 15, 2)), (0, (.iconst 1, 1)), (1, (.istore 13, 2))]
theorem dt171_L_wanted_ok : ∀ q ∈ dt171_L_wanted, decode cL_wanted q.1 = .ok q.2 := by decide +kernel
theorem dL_wanted_15 : decode cL_wanted 15 = .ok (.iconst 0, 1) := g_dec dt171_L_wanted_ok (k := 0) rfl
theorem dL_wanted_16 : decode cL_wanted 16 = .ok (.istore 15, 2) := g_dec dt171_L_wanted_ok (k := 1) rfl
theorem dL_wanted_0 : decode cL_wanted 0 = .ok (.iconst 1, 1) := g_dec dt171_L_wanted_ok (k := 2) rfl
theorem dL_wanted_1 : decode cL_wanted 1 = .ok (.istore 13, 2) := g_dec dt171_L_wanted_ok (k := 3) rfl
def dt172_L_free : List (Nat × Instr × Nat) := [(51, (.istore 9, 2)), (53, (.iinc 10 (-1), 3)), (56, (.goto (-46), 3)), (49, (.iload 9, 2)), (10, (.iload 10, 2)), (12, (.ifCond .lt 47, 3)), (59, (.iload 9, 2)), (61, (.ireturn, 1)), (15, (.iload 6, 2)), (17, (.iload 10, 2)), (19, (.ishr, 1)), (20, (.iconst 1, 1)), (21, (.iand, 1)), (22, (.iconst 1, 1)), (23, (.if_icmp .ne 26, 3)), (26, (.aload_n 0, 1)), (27, (.aload_n 1, 1)), (28, (.aload_n 2, 1)), (29, (.aload_n 3, 1)), (30, (.aload 4, 2)), (32, (.aload 5, 2)), (34, (.iload 10, 2)), (36, (.lload 7, 2)), (38, (.invokestatic 114, 3)), (41, (.ifCond .eq 8, 3)), (44, (.iload 10, 2)), (46, (.goto 5, 3)), (0, (.iconst (-1), 1)), (1, (.istore 9, 2)), (3, (.aload_n 0, 1)), (4, (.iconst 2, 1)), (5, (.iaload, 1)), (6, (.iconst 1, 1)), (7, (.isub, 1)), (8, (.istore 10, 2))]
theorem dt172_L_free_ok : ∀ q ∈ dt172_L_free, decode cL_free q.1 = .ok q.2 := by decide +kernel
theorem dL_free_51 : decode cL_free 51 = .ok (.istore 9, 2) := g_dec dt172_L_free_ok (k := 0) rfl
theorem dL_free_53 : decode cL_free 53 = .ok (.iinc 10 (-1), 3) := g_dec dt172_L_free_ok (k := 1) rfl
theorem dL_free_56 : decode cL_free 56 = .ok (.goto (-46), 3) := g_dec dt172_L_free_ok (k := 2) rfl
theorem dL_free_49 : decode cL_free 49 = .ok (.iload 9, 2) := g_dec dt172_L_free_ok (k := 3) rfl
theorem dL_free_10 : decode cL_free 10 = .ok (.iload 10, 2) := g_dec dt172_L_free_ok (k := 4) rfl
theorem dL_free_12 : decode cL_free 12 = .ok (.ifCond .lt 47, 3) := g_dec dt172_L_free_ok (k := 5) rfl
theorem dL_free_59 : decode cL_free 59 = .ok (.iload 9, 2) := g_dec dt172_L_free_ok (k := 6) rfl
theorem dL_free_61 : decode cL_free 61 = .ok (.ireturn, 1) := g_dec dt172_L_free_ok (k := 7) rfl
theorem dL_free_15 : decode cL_free 15 = .ok (.iload 6, 2) := g_dec dt172_L_free_ok (k := 8) rfl
theorem dL_free_17 : decode cL_free 17 = .ok (.iload 10, 2) := g_dec dt172_L_free_ok (k := 9) rfl
theorem dL_free_19 : decode cL_free 19 = .ok (.ishr, 1) := g_dec dt172_L_free_ok (k := 10) rfl
theorem dL_free_20 : decode cL_free 20 = .ok (.iconst 1, 1) := g_dec dt172_L_free_ok (k := 11) rfl
theorem dL_free_21 : decode cL_free 21 = .ok (.iand, 1) := g_dec dt172_L_free_ok (k := 12) rfl
theorem dL_free_22 : decode cL_free 22 = .ok (.iconst 1, 1) := g_dec dt172_L_free_ok (k := 13) rfl
theorem dL_free_23 : decode cL_free 23 = .ok (.if_icmp .ne 26, 3) := g_dec dt172_L_free_ok (k := 14) rfl
theorem dL_free_26 : decode cL_free 26 = .ok (.aload_n 0, 1) := g_dec dt172_L_free_ok (k := 15) rfl
theorem dL_free_27 : decode cL_free 27 = .ok (.aload_n 1, 1) := g_dec dt172_L_free_ok (k := 16) rfl
theorem dL_free_28 : decode cL_free 28 = .ok (.aload_n 2, 1) := g_dec dt172_L_free_ok (k := 17) rfl
theorem dL_free_29 : decode cL_free 29 = .ok (.aload_n 3, 1) := g_dec dt172_L_free_ok (k := 18) rfl
theorem dL_free_30 : decode cL_free 30 = .ok (.aload 4, 2) := g_dec dt172_L_free_ok (k := 19) rfl
theorem dL_free_32 : decode cL_free 32 = .ok (.aload 5, 2) := g_dec dt172_L_free_ok (k := 20) rfl
theorem dL_free_34 : decode cL_free 34 = .ok (.iload 10, 2) := g_dec dt172_L_free_ok (k := 21) rfl
theorem dL_free_36 : decode cL_free 36 = .ok (.lload 7, 2) := g_dec dt172_L_free_ok (k := 22) rfl
theorem dL_free_38 : decode cL_free 38 = .ok (.invokestatic 114, 3) := g_dec dt172_L_free_ok (k := 23) rfl
theorem dL_free_41 : decode cL_free 41 = .ok (.ifCond .eq 8, 3) := g_dec dt172_L_free_ok (k := 24) rfl
theorem dL_free_44 : decode cL_free 44 = .ok (.iload 10, 2) := g_dec dt172_L_free_ok (k := 25) rfl
theorem dL_free_46 : decode cL_free 46 = .ok (.goto 5, 3) := g_dec dt172_L_free_ok (k := 26) rfl
theorem dL_free_0 : decode cL_free 0 = .ok (.iconst (-1), 1) := g_dec dt172_L_free_ok (k := 27) rfl
theorem dL_free_1 : decode cL_free 1 = .ok (.istore 9, 2) := g_dec dt172_L_free_ok (k := 28) rfl
theorem dL_free_3 : decode cL_free 3 = .ok (.aload_n 0, 1) := g_dec dt172_L_free_ok (k := 29) rfl
theorem dL_free_4 : decode cL_free 4 = .ok (.iconst 2, 1) := g_dec dt172_L_free_ok (k := 30) rfl
theorem dL_free_5 : decode cL_free 5 = .ok (.iaload, 1) := g_dec dt172_L_free_ok (k := 31) rfl
theorem dL_free_6 : decode cL_free 6 = .ok (.iconst 1, 1) := g_dec dt172_L_free_ok (k := 32) rfl
theorem dL_free_7 : decode cL_free 7 = .ok (.isub, 1) := g_dec dt172_L_free_ok (k := 33) rfl
theorem dL_free_8 : decode cL_free 8 = .ok (.istore 10, 2) := g_dec dt172_L_free_ok (k := 34) rfl
def dt173_L_reopens : List (Nat × Instr × Nat) := [(107, (.iastore, 1)), (108, (.iinc 6 1, 3)), (111, (.goto (-43), 3)), (68, (.iload 6, 2)), (70, (.iconst 3, 1)), (71, (.if_icmp .ge 43, 3)), (114, (.return_, 1)), (74, (.aload_n 3, 1)), (75, (.bipush 6, 2)), (77, (.iload 6, 2)), (79, (.imul, 1)), (80, (.iconst 2, 1)), (81, (.iadd, 1)), (82, (.aload_n 3, 1)), (83, (.bipush 6, 2)), (85, (.iload 6, 2)), (87, (.imul, 1)), (88, (.iaload, 1)), (89, (.iload 4, 2)), (91, (.if_icmp .ne 7, 3)), (98, (.aload_n 3, 1)), (99, (.bipush 6, 2)), (101, (.iload 6, 2)), (103, (.imul, 1)), (104, (.iconst 2, 1)), (105, (.iadd, 1)), (106, (.iaload, 1)), (94, (.iconst 1, 1)), (95, (.goto 12, 3)), (51, (.iadd, 1)), (52, (.istore 5, 2)), (54, (.iinc 6 1, 3)), (57, (.goto (-51), 3)), (6, (.iload 6, 2)), (8, (.aload_n 0, 1)), (9, (.iconst 4, 1)), (10, (.iaload, 1)), (11, (.if_icmp .ge 49, 3)), (60, (.aload_n 0, 1)), (61, (.iconst 4, 1)), (62, (.iload 5, 2)), (64, (.iastore, 1)), (65, (.iconst 0, 1)), (66, (.istore 6, 2)), (14, (.aload_n 1, 1)), (15, (.iload 5, 2)), (17, (.aload_n 1, 1)), (18, (.iload 6, 2)), (20, (.laload, 1)), (21, (.lastore, 1)), (22, (.aload_n 2, 1)), (23, (.iload 5, 2)), (25, (.aload_n 2, 1)), (26, (.iload 6, 2)), (28, (.iaload, 1)), (29, (.iastore, 1)), (30, (.iload 5, 2)), (32, (.aload_n 1, 1)), (33, (.iload 6, 2)), (35, (.laload, 1))]
theorem dt173_L_reopens_ok : ∀ q ∈ dt173_L_reopens, decode cL_reopens q.1 = .ok q.2 := by decide +kernel
theorem dL_reopens_107 : decode cL_reopens 107 = .ok (.iastore, 1) := g_dec dt173_L_reopens_ok (k := 0) rfl
theorem dL_reopens_108 : decode cL_reopens 108 = .ok (.iinc 6 1, 3) := g_dec dt173_L_reopens_ok (k := 1) rfl
theorem dL_reopens_111 : decode cL_reopens 111 = .ok (.goto (-43), 3) := g_dec dt173_L_reopens_ok (k := 2) rfl
theorem dL_reopens_68 : decode cL_reopens 68 = .ok (.iload 6, 2) := g_dec dt173_L_reopens_ok (k := 3) rfl
theorem dL_reopens_70 : decode cL_reopens 70 = .ok (.iconst 3, 1) := g_dec dt173_L_reopens_ok (k := 4) rfl
theorem dL_reopens_71 : decode cL_reopens 71 = .ok (.if_icmp .ge 43, 3) := g_dec dt173_L_reopens_ok (k := 5) rfl
theorem dL_reopens_114 : decode cL_reopens 114 = .ok (.return_, 1) := g_dec dt173_L_reopens_ok (k := 6) rfl
theorem dL_reopens_74 : decode cL_reopens 74 = .ok (.aload_n 3, 1) := g_dec dt173_L_reopens_ok (k := 7) rfl
theorem dL_reopens_75 : decode cL_reopens 75 = .ok (.bipush 6, 2) := g_dec dt173_L_reopens_ok (k := 8) rfl
theorem dL_reopens_77 : decode cL_reopens 77 = .ok (.iload 6, 2) := g_dec dt173_L_reopens_ok (k := 9) rfl
theorem dL_reopens_79 : decode cL_reopens 79 = .ok (.imul, 1) := g_dec dt173_L_reopens_ok (k := 10) rfl
theorem dL_reopens_80 : decode cL_reopens 80 = .ok (.iconst 2, 1) := g_dec dt173_L_reopens_ok (k := 11) rfl
theorem dL_reopens_81 : decode cL_reopens 81 = .ok (.iadd, 1) := g_dec dt173_L_reopens_ok (k := 12) rfl
theorem dL_reopens_82 : decode cL_reopens 82 = .ok (.aload_n 3, 1) := g_dec dt173_L_reopens_ok (k := 13) rfl
theorem dL_reopens_83 : decode cL_reopens 83 = .ok (.bipush 6, 2) := g_dec dt173_L_reopens_ok (k := 14) rfl
theorem dL_reopens_85 : decode cL_reopens 85 = .ok (.iload 6, 2) := g_dec dt173_L_reopens_ok (k := 15) rfl
theorem dL_reopens_87 : decode cL_reopens 87 = .ok (.imul, 1) := g_dec dt173_L_reopens_ok (k := 16) rfl
theorem dL_reopens_88 : decode cL_reopens 88 = .ok (.iaload, 1) := g_dec dt173_L_reopens_ok (k := 17) rfl
theorem dL_reopens_89 : decode cL_reopens 89 = .ok (.iload 4, 2) := g_dec dt173_L_reopens_ok (k := 18) rfl
theorem dL_reopens_91 : decode cL_reopens 91 = .ok (.if_icmp .ne 7, 3) := g_dec dt173_L_reopens_ok (k := 19) rfl
theorem dL_reopens_98 : decode cL_reopens 98 = .ok (.aload_n 3, 1) := g_dec dt173_L_reopens_ok (k := 20) rfl
theorem dL_reopens_99 : decode cL_reopens 99 = .ok (.bipush 6, 2) := g_dec dt173_L_reopens_ok (k := 21) rfl
theorem dL_reopens_101 : decode cL_reopens 101 = .ok (.iload 6, 2) := g_dec dt173_L_reopens_ok (k := 22) rfl
theorem dL_reopens_103 : decode cL_reopens 103 = .ok (.imul, 1) := g_dec dt173_L_reopens_ok (k := 23) rfl
theorem dL_reopens_104 : decode cL_reopens 104 = .ok (.iconst 2, 1) := g_dec dt173_L_reopens_ok (k := 24) rfl
theorem dL_reopens_105 : decode cL_reopens 105 = .ok (.iadd, 1) := g_dec dt173_L_reopens_ok (k := 25) rfl
theorem dL_reopens_106 : decode cL_reopens 106 = .ok (.iaload, 1) := g_dec dt173_L_reopens_ok (k := 26) rfl
theorem dL_reopens_94 : decode cL_reopens 94 = .ok (.iconst 1, 1) := g_dec dt173_L_reopens_ok (k := 27) rfl
theorem dL_reopens_95 : decode cL_reopens 95 = .ok (.goto 12, 3) := g_dec dt173_L_reopens_ok (k := 28) rfl
theorem dL_reopens_51 : decode cL_reopens 51 = .ok (.iadd, 1) := g_dec dt173_L_reopens_ok (k := 29) rfl
theorem dL_reopens_52 : decode cL_reopens 52 = .ok (.istore 5, 2) := g_dec dt173_L_reopens_ok (k := 30) rfl
theorem dL_reopens_54 : decode cL_reopens 54 = .ok (.iinc 6 1, 3) := g_dec dt173_L_reopens_ok (k := 31) rfl
theorem dL_reopens_57 : decode cL_reopens 57 = .ok (.goto (-51), 3) := g_dec dt173_L_reopens_ok (k := 32) rfl
theorem dL_reopens_6 : decode cL_reopens 6 = .ok (.iload 6, 2) := g_dec dt173_L_reopens_ok (k := 33) rfl
theorem dL_reopens_8 : decode cL_reopens 8 = .ok (.aload_n 0, 1) := g_dec dt173_L_reopens_ok (k := 34) rfl
theorem dL_reopens_9 : decode cL_reopens 9 = .ok (.iconst 4, 1) := g_dec dt173_L_reopens_ok (k := 35) rfl
theorem dL_reopens_10 : decode cL_reopens 10 = .ok (.iaload, 1) := g_dec dt173_L_reopens_ok (k := 36) rfl
theorem dL_reopens_11 : decode cL_reopens 11 = .ok (.if_icmp .ge 49, 3) := g_dec dt173_L_reopens_ok (k := 37) rfl
theorem dL_reopens_60 : decode cL_reopens 60 = .ok (.aload_n 0, 1) := g_dec dt173_L_reopens_ok (k := 38) rfl
theorem dL_reopens_61 : decode cL_reopens 61 = .ok (.iconst 4, 1) := g_dec dt173_L_reopens_ok (k := 39) rfl
theorem dL_reopens_62 : decode cL_reopens 62 = .ok (.iload 5, 2) := g_dec dt173_L_reopens_ok (k := 40) rfl
theorem dL_reopens_64 : decode cL_reopens 64 = .ok (.iastore, 1) := g_dec dt173_L_reopens_ok (k := 41) rfl
theorem dL_reopens_65 : decode cL_reopens 65 = .ok (.iconst 0, 1) := g_dec dt173_L_reopens_ok (k := 42) rfl
theorem dL_reopens_66 : decode cL_reopens 66 = .ok (.istore 6, 2) := g_dec dt173_L_reopens_ok (k := 43) rfl
theorem dL_reopens_14 : decode cL_reopens 14 = .ok (.aload_n 1, 1) := g_dec dt173_L_reopens_ok (k := 44) rfl
theorem dL_reopens_15 : decode cL_reopens 15 = .ok (.iload 5, 2) := g_dec dt173_L_reopens_ok (k := 45) rfl
theorem dL_reopens_17 : decode cL_reopens 17 = .ok (.aload_n 1, 1) := g_dec dt173_L_reopens_ok (k := 46) rfl
theorem dL_reopens_18 : decode cL_reopens 18 = .ok (.iload 6, 2) := g_dec dt173_L_reopens_ok (k := 47) rfl
theorem dL_reopens_20 : decode cL_reopens 20 = .ok (.laload, 1) := g_dec dt173_L_reopens_ok (k := 48) rfl
theorem dL_reopens_21 : decode cL_reopens 21 = .ok (.lastore, 1) := g_dec dt173_L_reopens_ok (k := 49) rfl
theorem dL_reopens_22 : decode cL_reopens 22 = .ok (.aload_n 2, 1) := g_dec dt173_L_reopens_ok (k := 50) rfl
theorem dL_reopens_23 : decode cL_reopens 23 = .ok (.iload 5, 2) := g_dec dt173_L_reopens_ok (k := 51) rfl
theorem dL_reopens_25 : decode cL_reopens 25 = .ok (.aload_n 2, 1) := g_dec dt173_L_reopens_ok (k := 52) rfl
theorem dL_reopens_26 : decode cL_reopens 26 = .ok (.iload 6, 2) := g_dec dt173_L_reopens_ok (k := 53) rfl
theorem dL_reopens_28 : decode cL_reopens 28 = .ok (.iaload, 1) := g_dec dt173_L_reopens_ok (k := 54) rfl
theorem dL_reopens_29 : decode cL_reopens 29 = .ok (.iastore, 1) := g_dec dt173_L_reopens_ok (k := 55) rfl
theorem dL_reopens_30 : decode cL_reopens 30 = .ok (.iload 5, 2) := g_dec dt173_L_reopens_ok (k := 56) rfl
theorem dL_reopens_32 : decode cL_reopens 32 = .ok (.aload_n 1, 1) := g_dec dt173_L_reopens_ok (k := 57) rfl
theorem dL_reopens_33 : decode cL_reopens 33 = .ok (.iload 6, 2) := g_dec dt173_L_reopens_ok (k := 58) rfl
theorem dL_reopens_35 : decode cL_reopens 35 = .ok (.laload, 1) := g_dec dt173_L_reopens_ok (k := 59) rfl
def dt174_L_reopens : List (Nat × Instr × Nat) := [(36, (.bipush 50, 2)), (38, (.lshr, 1)), (39, (.iload 4, 2)), (41, (.i2l, 1)), (42, (.lcmp, 1)), (43, (.ifCond .ne 7, 3)), (50, (.iconst 1, 1)), (46, (.iconst 0, 1)), (47, (.goto 4, 3)), (0, (.iconst 0, 1)), (1, (.istore 5, 2)), (3, (.iconst 0, 1)), (4, (.istore 6, 2))]
theorem dt174_L_reopens_ok : ∀ q ∈ dt174_L_reopens, decode cL_reopens q.1 = .ok q.2 := by decide +kernel
theorem dL_reopens_36 : decode cL_reopens 36 = .ok (.bipush 50, 2) := g_dec dt174_L_reopens_ok (k := 0) rfl
theorem dL_reopens_38 : decode cL_reopens 38 = .ok (.lshr, 1) := g_dec dt174_L_reopens_ok (k := 1) rfl
theorem dL_reopens_39 : decode cL_reopens 39 = .ok (.iload 4, 2) := g_dec dt174_L_reopens_ok (k := 2) rfl
theorem dL_reopens_41 : decode cL_reopens 41 = .ok (.i2l, 1) := g_dec dt174_L_reopens_ok (k := 3) rfl
theorem dL_reopens_42 : decode cL_reopens 42 = .ok (.lcmp, 1) := g_dec dt174_L_reopens_ok (k := 4) rfl
theorem dL_reopens_43 : decode cL_reopens 43 = .ok (.ifCond .ne 7, 3) := g_dec dt174_L_reopens_ok (k := 5) rfl
theorem dL_reopens_50 : decode cL_reopens 50 = .ok (.iconst 1, 1) := g_dec dt174_L_reopens_ok (k := 6) rfl
theorem dL_reopens_46 : decode cL_reopens 46 = .ok (.iconst 0, 1) := g_dec dt174_L_reopens_ok (k := 7) rfl
theorem dL_reopens_47 : decode cL_reopens 47 = .ok (.goto 4, 3) := g_dec dt174_L_reopens_ok (k := 8) rfl
theorem dL_reopens_0 : decode cL_reopens 0 = .ok (.iconst 0, 1) := g_dec dt174_L_reopens_ok (k := 9) rfl
theorem dL_reopens_1 : decode cL_reopens 1 = .ok (.istore 5, 2) := g_dec dt174_L_reopens_ok (k := 10) rfl
theorem dL_reopens_3 : decode cL_reopens 3 = .ok (.iconst 0, 1) := g_dec dt174_L_reopens_ok (k := 11) rfl
theorem dL_reopens_4 : decode cL_reopens 4 = .ok (.istore 6, 2) := g_dec dt174_L_reopens_ok (k := 12) rfl
section
variable {p : Program} {l : Launch} {e : Env} {s : State} {m : MethodId} {args : Array Value} {below : List Frame} {meth : Method} {c : Code} {D : va_G} {y : Nat → ClassId} {aS : Nat → Nat} {A : Nat → Prop} {L : List Nat} {ad : Nat → Nat} {N : Nat} {res : Int64}
def fL_bits_31 (N : Nat) (rec4 : (Int64 × Int32) → Option Int64) (σ : gS) (x0 : Int32) (x3 : Int32) (xs0 : Int64) (xs1 : Int64) : Option Int64 := rec4 ((xs1 ||| xs0), (x3 + 1))
set_option maxRecDepth 100000 in
set_option maxHeartbeats 4000000 in
theorem wL_bits_31 {rec4 : (Int64 × Int32) → Option Int64} {σ : gS} {x0 : Int32} {x3 : Int32} {xs0 : Int64} {xs1 : Int64} (hx : p.tables.exec = Jvm.exec) (hb : c.code = cL_bits) (hr : meth.sig.returnType = (some .long)) (hml : c.maxLocals = 4) (hown : s.vm.findClass RL = some m.cls) (hg : ∀ w ∈ wsL_law, w.before args s = true) (hlocks : meth.locks = false) (hK : gK D y aS s) (hA : ∀ q, s.heap.size ≤ q → A q) (hL : ∀ k, k < 179 → k ∈ L) (hrec4 : ∀ {x1n9 : Int64} {x3n9 : Int32} (H : Heap) (locs : List Loc) (ls : Array Slot), gY D y A s L ad σ H locs → lv_has ls 4 [(0, .int x0), (1, .long x1n9), (3, .int x3n9)] → rec4 (x1n9, x3n9) = some res → W p l e ({ frames := 0, cells := 0, slots := 0, locals := 0 } : Room) s m args below meth c H locs 0 0 (MQ below (va_Ql (fun (r : Int64) (_ : Unit) => r = res) (fun _ => gO D A (GW L y ad σ)) A) args s 0 0 A) (F0 m 4 ls [])) {H : Heap} {locs : List Loc} {ls : Array Slot} (hY : gY D y A s L ad σ H locs) (hl : lv_has ls 4 [(0, .int x0), (3, .int x3)]) (h : fL_bits_31 N rec4 σ x0 x3 xs0 xs1 = some res) : W p l e ({ frames := 0, cells := 0, slots := 0, locals := 0 } : Room) s m args below meth c H locs 0 0 (MQ below (va_Ql (fun (r : Int64) (_ : Unit) => r = res) (fun _ => gO D A (GW L y ad σ)) A) args s 0 0 A) (F0 m 31 ls [.long xs0, .long xs1]) := by
  unfold fL_bits_31 at h
  refine lv_lor hx hb dL_bits_31 ?_
  refine lv_lstore_n (lv' := [(1, .long (xs1 ||| xs0)), (0, .int x0), (3, .int x3)]) hx hb dL_bits_32 rfl hl (by decide) rfl ?_
  clear hl
  intro ls hl
  refine lv_iinc (v := (x3 + 1)) (lv' := [(3, .int (x3 + 1)), (1, .long (xs1 ||| xs0)), (0, .int x0)]) hx hb dL_bits_33 hl (k := 2) rfl rfl (by decide) rfl ?_
  clear hl
  intro ls hl
  refine lv_goto (tgt := 4) hx hb dL_bits_36 (by decide) ?_
  exact hrec4 _ _ _ hY (lv_sub hl [2, 1, 0] rfl) h
def fL_bits_4 (N : Nat) (σ : gS) (x0 : Int32) (rec4 : (Int64 × Int32) → Option Int64) (xx : Int64 × Int32) : Option Int64 := match xx with
  | (x1, x3) => if 12 ≤ x3 then (some x1) else (if ((x0 >>> (x3 &&& 31)) &&& 1) = 1 then (fL_bits_31 N rec4 σ x0 x3 (((15 : Int64) <<< ((4 * x3).toInt64 &&& 63))) x1) else (fL_bits_31 N rec4 σ x0 x3 0 x1))
set_option maxRecDepth 100000 in
set_option maxHeartbeats 4000000 in
theorem wL_bits_4 {σ : gS} {x0 : Int32} (hx : p.tables.exec = Jvm.exec) (hb : c.code = cL_bits) (hr : meth.sig.returnType = (some .long)) (hml : c.maxLocals = 4) (hown : s.vm.findClass RL = some m.cls) (hg : ∀ w ∈ wsL_law, w.before args s = true) (hlocks : meth.locks = false) (hK : gK D y aS s) (hA : ∀ q, s.heap.size ≤ q → A q) (hL : ∀ k, k < 179 → k ∈ L) : ∀ (n : Nat) {x1 : Int64} {x3 : Int32} (H : Heap) (locs : List Loc) (ls : Array Slot), gY D y A s L ad σ H locs → lv_has ls 4 [(0, .int x0), (1, .long x1), (3, .int x3)] → lp (fL_bits_4 N σ x0) n (x1, x3) = some res → W p l e ({ frames := 0, cells := 0, slots := 0, locals := 0 } : Room) s m args below meth c H locs 0 0 (MQ below (va_Ql (fun (r : Int64) (_ : Unit) => r = res) (fun _ => gO D A (GW L y ad σ)) A) args s 0 0 A) (F0 m 4 ls []) := by
  intro n
  induction n with
  | zero => intro x1 x3 H locs ls hY hl h; exact nomatch (show none = some res from h)
  | succ n hrec4 =>
    intro x1 x3 H locs ls hY hl h
    replace h : fL_bits_4 N σ x0 (lp (fL_bits_4 N σ x0) n) (x1, x3) = some res := h
    generalize lp (fL_bits_4 N σ x0) n = rec4 at h hrec4
    unfold fL_bits_4 at h
    try dsimp only at h
    refine lv_iload_n hx hb dL_bits_4 rfl (lv_at hl 2 rfl) ?_
    refine lv_bipush (v := 12) hx hb dL_bits_5 (by decide +kernel) ?_
    refine lv_icmp_ge (tgt := 39) hx hb dL_bits_7 (by decide) (fun z_1 => ?_) (fun z_1 => ?_)
    ·
      rw [if_pos z_1] at h
      refine lv_lload_n hx hb dL_bits_39 rfl (lv_at hl 1 rfl) ?_
      cases h
      exact g_lret hx hb hr hlocks () hY.1 hY.2.1 hY.2.2 rfl (Nat.le_of_ble_eq_true rfl) (Nat.le_of_ble_eq_true rfl) dL_bits_40
    ·
      rw [if_neg z_1] at h
      refine lv_lload_n hx hb dL_bits_10 rfl (lv_at hl 1 rfl) ?_
      refine lv_iload_n hx hb dL_bits_11 rfl (lv_at hl 0 rfl) ?_
      refine lv_iload_n hx hb dL_bits_12 rfl (lv_at hl 2 rfl) ?_
      refine lv_ishr hx hb dL_bits_13 ?_
      refine lv_iconst (v := 1) hx hb dL_bits_14 (by decide) ?_
      refine lv_iand hx hb dL_bits_15 ?_
      refine lv_iconst (v := 1) hx hb dL_bits_16 (by decide) ?_
      refine lv_icmp_ne (tgt := 30) hx hb dL_bits_17 (by decide) (fun z_2 => ?_) (fun z_2 => ?_)
      ·
        rw [if_neg z_2] at h
        refine lv_lconst (v := 0) hx hb dL_bits_30 (by decide) ?_
        exact wL_bits_31 hx hb hr hml hown hg hlocks hK hA hL hrec4 hY (lv_sub hl [0, 2] rfl) h
      ·
        rw [if_pos z_2] at h
        refine lv_ldc2 (v := 15) hx hb hown (hg _ gw_454) dL_bits_20 ?_
        refine lv_iconst (v := 4) hx hb dL_bits_23 (by decide) ?_
        refine lv_iload_n hx hb dL_bits_24 rfl (lv_at hl 2 rfl) ?_
        refine lv_imul hx hb dL_bits_25 ?_
        refine lv_lshl (v := (((15 : Int64) <<< ((4 * x3).toInt64 &&& 63)))) hx hb dL_bits_26 rfl ?_
        refine lv_goto (tgt := 31) hx hb dL_bits_27 (by decide) ?_
        exact wL_bits_31 hx hb hr hml hown hg hlocks hK hA hL hrec4 hY (lv_sub hl [0, 2] rfl) h
end
def fL_bits (N : Nat) (σ : gS) (x0 : Int32) : Option Int64 := lp (fL_bits_4 N σ x0) N (0, 0)
set_option maxRecDepth 100000 in
set_option maxHeartbeats 4000000 in
theorem kL_bits (l : Launch) (D : va_G) (y : Nat → ClassId) (aS : Nat → Nat) (sz : Nat) (L : List Nat) (hL : ∀ k, k < 179 → k ∈ L) (ad : Nat → Nat) (N : Nat) (σ : gS) (x0 : Int32) (res : Int64) (h : fL_bits N σ x0 = some res) : Met l yL_bits (Cond.code yL_bits cL_bits 4 (some .long) :: wsL_law) ({ frames := 0, cells := 0, slots := 0, locals := 0 } : Room) (va_Pc [.int x0] (gI D y aS (GW L y ad σ) sz)) (va_Ql (fun (r : Int64) (_ : Unit) => r = res) (fun _ => gO D (va_A (GW L y ad σ) sz) (GW L y ad σ)) (va_A (GW L y ad σ) sz)) 0 0 (va_A (GW L y ad σ) sz) := by
  refine g_of (by decide) (Nat.le_of_ble_eq_true rfl) ?_
  intro p e s m below meth c ls A hx hb hr hml hown hg hlocks hin hsz hK hP hD hS hA hAe hl
  rw [← hAe]
  replace hown : s.vm.findClass RL = some m.cls := hown
  have hY : gY D y A s L ad σ s.heap [] := ⟨hP, hD, hS⟩
  clear hP hD hS
  replace hl : lv_has ls 4 [(0, .int x0)] := hl
  unfold fL_bits at h
  refine lv_lconst (v := 0) hx hb dL_bits_0 (by decide) ?_
  refine lv_lstore_n (lv' := [(1, .long 0), (0, .int x0)]) hx hb dL_bits_1 rfl hl (by decide) rfl ?_
  clear hl
  intro ls hl
  refine lv_iconst (v := 0) hx hb dL_bits_2 (by decide) ?_
  refine lv_istore_n (lv' := [(3, .int 0), (1, .long 0), (0, .int x0)]) hx hb dL_bits_3 rfl hl (by decide) rfl ?_
  clear hl
  intro ls hl
  exact wL_bits_4 hx hb hr hml hown hg hlocks hK hA hL N _ _ _ hY (lv_sub hl [2, 1, 0] rfl) h
section
variable {p : Program} {l : Launch} {e : Env} {s : State} {m : MethodId} {args : Array Value} {below : List Frame} {meth : Method} {c : Code} {D : va_G} {y : Nat → ClassId} {aS : Nat → Nat} {A : Nat → Prop} {L : List Nat} {ad : Nat → Nat} {N : Nat} {res : Int32}
end
def fL_at (N : Nat) (σ : gS) (x0 : Int64) (x2 : Int32) : Option Int32 := some ((((x0 >>> ((4 * x2).toInt64 &&& 63))) &&& 15).toInt32)
set_option maxRecDepth 100000 in
set_option maxHeartbeats 4000000 in
theorem kL_at (l : Launch) (D : va_G) (y : Nat → ClassId) (aS : Nat → Nat) (sz : Nat) (L : List Nat) (hL : ∀ k, k < 179 → k ∈ L) (ad : Nat → Nat) (N : Nat) (σ : gS) (x0 : Int64) (x2 : Int32) (res : Int32) (h : fL_at N σ x0 x2 = some res) : Met l yL_at (Cond.code yL_at cL_at 3 (some .int) :: wsL_law) ({ frames := 0, cells := 0, slots := 0, locals := 0 } : Room) (va_Pc [.long x0, .int x2] (gI D y aS (GW L y ad σ) sz)) (va_Qi (fun (r : Int32) (_ : Unit) => r = res) (fun _ => gO D (va_A (GW L y ad σ) sz) (GW L y ad σ)) (va_A (GW L y ad σ) sz)) 0 0 (va_A (GW L y ad σ) sz) := by
  refine g_of (by decide) (Nat.le_of_ble_eq_true rfl) ?_
  intro p e s m below meth c ls A hx hb hr hml hown hg hlocks hin hsz hK hP hD hS hA hAe hl
  rw [← hAe]
  replace hown : s.vm.findClass RL = some m.cls := hown
  have hY : gY D y A s L ad σ s.heap [] := ⟨hP, hD, hS⟩
  clear hP hD hS
  replace hl : lv_has ls 3 [(0, .long x0), (2, .int x2)] := hl
  unfold fL_at at h
  refine lv_lload_n hx hb dL_at_0 rfl (lv_at hl 0 rfl) ?_
  refine lv_iconst (v := 4) hx hb dL_at_1 (by decide) ?_
  refine lv_iload_n hx hb dL_at_2 rfl (lv_at hl 1 rfl) ?_
  refine lv_imul hx hb dL_at_3 ?_
  refine lv_lshr (v := ((x0 >>> ((4 * x2).toInt64 &&& 63)))) hx hb dL_at_4 rfl ?_
  refine lv_ldc2 (v := 15) hx hb hown (hg _ gw_454) dL_at_5 ?_
  refine lv_land hx hb dL_at_8 ?_
  refine lv_l2i (v := ((((x0 >>> ((4 * x2).toInt64 &&& 63))) &&& 15).toInt32)) hx hb dL_at_9 rfl ?_
  cases h
  exact g_iret hx hb hr hlocks () hY.1 hY.2.1 hY.2.2 rfl rfl (Nat.le_of_ble_eq_true rfl) (Nat.le_of_ble_eq_true rfl) dL_at_10
theorem ggS_RL_9_L_bits : GoodIn wsL_law (va_wsS RL 9 yL_bits (Cond.code yL_bits cL_bits 4 (some .long) :: wsL_law)) := g_gi (fun _ h => h) gW_good (List.forall_mem_cons.mpr ⟨⟨gw_451, rfl⟩, List.forall_mem_cons.mpr ⟨⟨gw_452, rfl⟩, List.forall_mem_cons.mpr ⟨⟨gw_162, rfl⟩, fun _ h => nomatch h⟩⟩⟩) ⟨gw_453, rfl⟩
section
variable {p : Program} {l : Launch} {e : Env} {s : State} {m : MethodId} {args : Array Value} {below : List Frame} {meth : Method} {c : Code} {D : va_G} {y : Nat → ClassId} {aS : Nat → Nat} {A : Nat → Prop} {L : List Nat} {ad : Nat → Nat} {N : Nat} {res : Int32}
def fL_fits_22 (N : Nat) (σ : gS) (xs0 : Int32) : Option Int32 := if ¬ (xs0 = 0 ∨ xs0 = 1) then none else (some xs0)
set_option maxRecDepth 100000 in
set_option maxHeartbeats 4000000 in
theorem wL_fits_22 {σ : gS} {xs0 : Int32} (hx : p.tables.exec = Jvm.exec) (hb : c.code = cL_fits) (hr : meth.sig.returnType = (some .boolean)) (hml : c.maxLocals = 5) (hown : s.vm.findClass RL = some m.cls) (hg : ∀ w ∈ wsL_law, w.before args s = true) (hlocks : meth.locks = false) (hK : gK D y aS s) (hA : ∀ q, s.heap.size ≤ q → A q) (hL : ∀ k, k < 179 → k ∈ L) {H : Heap} {locs : List Loc} {ls : Array Slot} (hY : gY D y A s L ad σ H locs) (hl : lv_has ls 5 []) (h : fL_fits_22 N σ xs0 = some res) : W p l e ({ frames := 1, cells := 0, slots := 0, locals := 23 } : Room) s m args below meth c H locs 0 0 (MQ below (va_Qi (fun (r : Int32) (_ : Unit) => r = res) (fun _ => gO D A (GW L y ad σ)) A) args s 0 0 A) (F0 m 22 ls [.int xs0]) := by
  unfold fL_fits_22 at h
  obtain ⟨z_1, h⟩ := g_guard h
  cases h
  exact g_iret hx hb hr hlocks () hY.1 hY.2.1 hY.2.2 (g_nz (Classical.not_not.mp z_1)) rfl (Nat.le_of_ble_eq_true rfl) (Nat.le_of_ble_eq_true rfl) dL_fits_22
end
def fL_fits (N : Nat) (σ : gS) (x2 : Int32) (x3 : Int64) : Option Int32 := if x2 < 0 ∨ 24 ≤ x2.toNatClampNeg then none else (if x2 < 0 ∨ 24 ≤ x2.toNatClampNeg then none else ((fL_bits N σ (σ.1 168 x2.toNatClampNeg)).bind fun r_3 => if (lg_cmp ((x3 ^^^ (σ.2.1 169 x2.toNatClampNeg)) &&& r_3) 0) = 0 then (fL_fits_22 N σ 1) else (fL_fits_22 N σ 0)))
set_option maxRecDepth 100000 in
set_option maxHeartbeats 4000000 in
theorem kL_fits (l : Launch) (D : va_G) (y : Nat → ClassId) (aS : Nat → Nat) (sz : Nat) (L : List Nat) (hL : ∀ k, k < 179 → k ∈ L) (ad : Nat → Nat) (N : Nat) (σ : gS) (x2 : Int32) (x3 : Int64) (res : Int32) (h : fL_fits N σ x2 x3 = some res) : Met l yL_fits (Cond.code yL_fits cL_fits 5 (some .boolean) :: wsL_law) ({ frames := 1, cells := 0, slots := 0, locals := 23 } : Room) (va_Pc [.ref (ad 168), .ref (ad 169), .int x2, .long x3] (gI D y aS (GW L y ad σ) sz)) (va_Qi (fun (r : Int32) (_ : Unit) => r = res) (fun _ => gO D (va_A (GW L y ad σ) sz) (GW L y ad σ)) (va_A (GW L y ad σ) sz)) 0 0 (va_A (GW L y ad σ) sz) := by
  refine g_of (by decide) (Nat.le_of_ble_eq_true rfl) ?_
  intro p e s m below meth c ls A hx hb hr hml hown hg hlocks hin hsz hK hP hD hS hA hAe hl
  rw [← hAe]
  replace hown : s.vm.findClass RL = some m.cls := hown
  have hY : gY D y A s L ad σ s.heap [] := ⟨hP, hD, hS⟩
  clear hP hD hS
  replace hl : lv_has ls 5 [(0, .ref (ad 168)), (1, .ref (ad 169)), (2, .int x2), (3, .long x3)] := hl
  unfold fL_fits at h
  refine lv_lload_n hx hb dL_fits_0 rfl (lv_at hl 3 rfl) ?_
  refine lv_aload_n hx hb dL_fits_1 rfl (lv_at hl 1 rfl) ?_
  refine lv_iload_n hx hb dL_fits_2 rfl (lv_at hl 2 rfl) ?_
  obtain ⟨z_1, h⟩ := g_guard h
  refine G_lald (j := x2.toNatClampNeg) hx hb hK hY (hL 169 (by decide)) gk_169 (by rw [gl_169]; exact z_1) rfl dL_fits_3 ?_
  refine lv_lxor hx hb dL_fits_4 ?_
  refine lv_aload_n hx hb dL_fits_5 rfl (lv_at hl 0 rfl) ?_
  refine lv_iload_n hx hb dL_fits_6 rfl (lv_at hl 2 rfl) ?_
  obtain ⟨z_2, h⟩ := g_guard h
  refine G_iald (j := x2.toNatClampNeg) hx hb hK hY (hL 168 (by decide)) gk_168 (by rw [gl_168]; exact z_2) rfl dL_fits_7 ?_
  obtain ⟨r_3, e_4, h⟩ := g_bind h
  refine G_al hY hA (va_runS (As := [.int (σ.1 168 x2.toNatClampNeg)]) (rest := [.long (x3 ^^^ (σ.2.1 169 x2.toNatClampNeg))]) ⟨hx, hb, hml, hown, hg⟩ (kL_bits l D y aS s.heap.size L hL ad N σ (σ.1 168 x2.toNatClampNeg) _ e_4) (va_cwS 1 hg ggS_RL_9_L_bits rfl rfl rfl (by decide +kernel) ⟨Nat.le_of_ble_eq_true rfl, Nat.le_of_ble_eq_true rfl⟩) (G_pS hK hY) rfl rfl hl.1 rfl (lv_room (Nat.le_of_ble_eq_true rfl)) dL_fits_8 ⟨Nat.le_of_ble_eq_true rfl, Nat.le_of_ble_eq_true rfl⟩) ?_
  clear hY
  rintro _ H locs rfl hY
  refine lv_land hx hb dL_fits_11 ?_
  refine lv_lconst (v := 0) hx hb dL_fits_12 (by decide) ?_
  refine W.lcmp hx hb dL_fits_13 ?_
  refine lv_if_ne (tgt := 21) hx hb dL_fits_14 (by decide) (fun z_5 => ?_) (fun z_5 => ?_)
  ·
    rw [if_neg z_5] at h
    refine lv_iconst (v := 0) hx hb dL_fits_21 (by decide) ?_
    exact wL_fits_22 hx hb hr hml hown hg hlocks hK hA hL hY (lv_sub hl [] rfl) h
  ·
    rw [if_pos z_5] at h
    refine lv_iconst (v := 1) hx hb dL_fits_17 (by decide) ?_
    refine lv_goto (tgt := 22) hx hb dL_fits_18 (by decide) ?_
    exact wL_fits_22 hx hb hr hml hown hg hlocks hK hA hL hY (lv_sub hl [] rfl) h
section
variable {p : Program} {l : Launch} {e : Env} {s : State} {m : MethodId} {args : Array Value} {below : List Frame} {meth : Method} {c : Code} {D : va_G} {y : Nat → ClassId} {aS : Nat → Nat} {A : Nat → Prop} {L : List Nat} {ad : Nat → Nat} {N : Nat} {res : Int64}
end
def fL_onto (N : Nat) (σ : gS) (x2 : Int32) (x3 : Int64) : Option Int64 := if x2 < 0 ∨ 24 ≤ x2.toNatClampNeg then none else ((fL_bits N σ (σ.1 168 x2.toNatClampNeg)).bind fun r_2 => if x2 < 0 ∨ 24 ≤ x2.toNatClampNeg then none else (some ((x3 &&& (r_2 ^^^ (-1))) ||| (σ.2.1 170 x2.toNatClampNeg))))
set_option maxRecDepth 100000 in
set_option maxHeartbeats 4000000 in
theorem kL_onto (l : Launch) (D : va_G) (y : Nat → ClassId) (aS : Nat → Nat) (sz : Nat) (L : List Nat) (hL : ∀ k, k < 179 → k ∈ L) (ad : Nat → Nat) (N : Nat) (σ : gS) (x2 : Int32) (x3 : Int64) (res : Int64) (h : fL_onto N σ x2 x3 = some res) : Met l yL_onto (Cond.code yL_onto cL_onto 5 (some .long) :: wsL_law) ({ frames := 1, cells := 0, slots := 0, locals := 23 } : Room) (va_Pc [.ref (ad 168), .ref (ad 170), .int x2, .long x3] (gI D y aS (GW L y ad σ) sz)) (va_Ql (fun (r : Int64) (_ : Unit) => r = res) (fun _ => gO D (va_A (GW L y ad σ) sz) (GW L y ad σ)) (va_A (GW L y ad σ) sz)) 0 0 (va_A (GW L y ad σ) sz) := by
  refine g_of (by decide) (Nat.le_of_ble_eq_true rfl) ?_
  intro p e s m below meth c ls A hx hb hr hml hown hg hlocks hin hsz hK hP hD hS hA hAe hl
  rw [← hAe]
  replace hown : s.vm.findClass RL = some m.cls := hown
  have hY : gY D y A s L ad σ s.heap [] := ⟨hP, hD, hS⟩
  clear hP hD hS
  replace hl : lv_has ls 5 [(0, .ref (ad 168)), (1, .ref (ad 170)), (2, .int x2), (3, .long x3)] := hl
  unfold fL_onto at h
  refine lv_lload_n hx hb dL_onto_0 rfl (lv_at hl 3 rfl) ?_
  refine lv_aload_n hx hb dL_onto_1 rfl (lv_at hl 0 rfl) ?_
  refine lv_iload_n hx hb dL_onto_2 rfl (lv_at hl 2 rfl) ?_
  obtain ⟨z_1, h⟩ := g_guard h
  refine G_iald (j := x2.toNatClampNeg) hx hb hK hY (hL 168 (by decide)) gk_168 (by rw [gl_168]; exact z_1) rfl dL_onto_3 ?_
  obtain ⟨r_2, e_3, h⟩ := g_bind h
  refine G_al hY hA (va_runS (As := [.int (σ.1 168 x2.toNatClampNeg)]) (rest := [.long x3]) ⟨hx, hb, hml, hown, hg⟩ (kL_bits l D y aS s.heap.size L hL ad N σ (σ.1 168 x2.toNatClampNeg) _ e_3) (va_cwS 1 hg ggS_RL_9_L_bits rfl rfl rfl (by decide +kernel) ⟨Nat.le_of_ble_eq_true rfl, Nat.le_of_ble_eq_true rfl⟩) (G_pS hK hY) rfl rfl hl.1 rfl (lv_room (Nat.le_of_ble_eq_true rfl)) dL_onto_4 ⟨Nat.le_of_ble_eq_true rfl, Nat.le_of_ble_eq_true rfl⟩) ?_
  clear hY
  rintro _ H locs rfl hY
  refine lv_ldc2 (v := (-1)) hx hb hown (hg _ gw_458) dL_onto_7 ?_
  refine lv_lxor hx hb dL_onto_10 ?_
  refine lv_land hx hb dL_onto_11 ?_
  refine lv_aload_n hx hb dL_onto_12 rfl (lv_at hl 1 rfl) ?_
  refine lv_iload_n hx hb dL_onto_13 rfl (lv_at hl 2 rfl) ?_
  obtain ⟨z_4, h⟩ := g_guard h
  refine G_lald (j := x2.toNatClampNeg) hx hb hK hY (hL 170 (by decide)) gk_170 (by rw [gl_170]; exact z_4) rfl dL_onto_14 ?_
  refine lv_lor hx hb dL_onto_15 ?_
  cases h
  exact g_lret hx hb hr hlocks () hY.1 hY.2.1 hY.2.2 rfl (Nat.le_of_ble_eq_true rfl) (Nat.le_of_ble_eq_true rfl) dL_onto_16
section
variable {p : Program} {l : Launch} {e : Env} {s : State} {m : MethodId} {args : Array Value} {below : List Frame} {meth : Method} {c : Code} {D : va_G} {y : Nat → ClassId} {aS : Nat → Nat} {A : Nat → Prop} {L : List Nat} {ad : Nat → Nat} {N : Nat} {res : Int32}
def fL_required_148 (N : Nat) (rec51 : (Int32 × Int32) → Option Int32) (σ : gS) (x5 : Int32) (x7 : Int32) (xs0 : Int32) (xs1 : Int32) : Option Int32 := rec51 ((xs1 ||| xs0), (x7 + 1))
set_option maxRecDepth 100000 in
set_option maxHeartbeats 4000000 in
theorem wL_required_148 {rec51 : (Int32 × Int32) → Option Int32} {σ : gS} {x5 : Int32} {x7 : Int32} {xs0 : Int32} {xs1 : Int32} (hx : p.tables.exec = Jvm.exec) (hb : c.code = cL_required) (hr : meth.sig.returnType = (some .int)) (hml : c.maxLocals = 10) (hown : s.vm.findClass RL = some m.cls) (hg : ∀ w ∈ wsL_law, w.before args s = true) (hlocks : meth.locks = false) (hK : gK D y aS s) (hA : ∀ q, s.heap.size ≤ q → A q) (hL : ∀ k, k < 179 → k ∈ L) (hrec51 : ∀ {x6n9 : Int32} {x7n9 : Int32} (H : Heap) (locs : List Loc) (ls : Array Slot), gY D y A s L ad σ H locs → lv_has ls 10 [(0, .ref (ad 161)), (1, .ref (ad 162)), (2, .ref (ad 168)), (4, .ref (ad 173)), (5, .int x5), (6, .int x6n9), (7, .int x7n9)] → rec51 (x6n9, x7n9) = some res → W p l e ({ frames := 0, cells := 0, slots := 0, locals := 0 } : Room) s m args below meth c H locs 0 0 (MQ below (va_Qi (fun (r : Int32) (_ : Unit) => r = res) (fun _ => gO D A (GW L y ad σ)) A) args s 0 0 A) (F0 m 51 ls [])) {H : Heap} {locs : List Loc} {ls : Array Slot} (hY : gY D y A s L ad σ H locs) (hl : lv_has ls 10 [(0, .ref (ad 161)), (1, .ref (ad 162)), (2, .ref (ad 168)), (4, .ref (ad 173)), (5, .int x5), (7, .int x7)]) (h : fL_required_148 N rec51 σ x5 x7 xs0 xs1 = some res) : W p l e ({ frames := 0, cells := 0, slots := 0, locals := 0 } : Room) s m args below meth c H locs 0 0 (MQ below (va_Qi (fun (r : Int32) (_ : Unit) => r = res) (fun _ => gO D A (GW L y ad σ)) A) args s 0 0 A) (F0 m 148 ls [.int xs0, .int xs1]) := by
  unfold fL_required_148 at h
  refine lv_ior hx hb dL_required_148 ?_
  refine lv_istore (lv' := [(6, .int (xs1 ||| xs0)), (0, .ref (ad 161)), (1, .ref (ad 162)), (2, .ref (ad 168)), (4, .ref (ad 173)), (5, .int x5), (7, .int x7)]) hx hb dL_required_149 hl (by decide) rfl ?_
  clear hl
  intro ls hl
  refine lv_iinc (v := (x7 + 1)) (lv' := [(7, .int (x7 + 1)), (6, .int (xs1 ||| xs0)), (0, .ref (ad 161)), (1, .ref (ad 162)), (2, .ref (ad 168)), (4, .ref (ad 173)), (5, .int x5)]) hx hb dL_required_151 hl (k := 6) rfl rfl (by decide) rfl ?_
  clear hl
  intro ls hl
  refine lv_goto (tgt := 51) hx hb dL_required_154 (by decide) ?_
  exact hrec51 _ _ _ hY (lv_sub hl [2, 3, 4, 5, 6, 1, 0] rfl) h
def fL_required_126 (N : Nat) (rec51 : (Int32 × Int32) → Option Int32) (σ : gS) (x5 : Int32) (x6 : Int32) (x7 : Int32) (xs0 : Int32) : Option Int32 := if xs0 = 0 then (fL_required_148 N rec51 σ x5 x7 0 x6) else (if x7 < 0 ∨ 12 ≤ x7.toNatClampNeg then none else (fL_required_148 N rec51 σ x5 x7 ((1 : Int32) <<< (((σ.1 173 x7.toNatClampNeg) - (σ.1 173 x7.toNatClampNeg) / 4 * 4) &&& 31)) x6))
set_option maxRecDepth 100000 in
set_option maxHeartbeats 4000000 in
theorem wL_required_126 {rec51 : (Int32 × Int32) → Option Int32} {σ : gS} {x5 : Int32} {x6 : Int32} {x7 : Int32} {xs0 : Int32} (hx : p.tables.exec = Jvm.exec) (hb : c.code = cL_required) (hr : meth.sig.returnType = (some .int)) (hml : c.maxLocals = 10) (hown : s.vm.findClass RL = some m.cls) (hg : ∀ w ∈ wsL_law, w.before args s = true) (hlocks : meth.locks = false) (hK : gK D y aS s) (hA : ∀ q, s.heap.size ≤ q → A q) (hL : ∀ k, k < 179 → k ∈ L) (hrec51 : ∀ {x6n9 : Int32} {x7n9 : Int32} (H : Heap) (locs : List Loc) (ls : Array Slot), gY D y A s L ad σ H locs → lv_has ls 10 [(0, .ref (ad 161)), (1, .ref (ad 162)), (2, .ref (ad 168)), (4, .ref (ad 173)), (5, .int x5), (6, .int x6n9), (7, .int x7n9)] → rec51 (x6n9, x7n9) = some res → W p l e ({ frames := 0, cells := 0, slots := 0, locals := 0 } : Room) s m args below meth c H locs 0 0 (MQ below (va_Qi (fun (r : Int32) (_ : Unit) => r = res) (fun _ => gO D A (GW L y ad σ)) A) args s 0 0 A) (F0 m 51 ls [])) {H : Heap} {locs : List Loc} {ls : Array Slot} (hY : gY D y A s L ad σ H locs) (hl : lv_has ls 10 [(0, .ref (ad 161)), (1, .ref (ad 162)), (2, .ref (ad 168)), (4, .ref (ad 173)), (5, .int x5), (6, .int x6), (7, .int x7)]) (h : fL_required_126 N rec51 σ x5 x6 x7 xs0 = some res) : W p l e ({ frames := 0, cells := 0, slots := 0, locals := 0 } : Room) s m args below meth c H locs 0 0 (MQ below (va_Qi (fun (r : Int32) (_ : Unit) => r = res) (fun _ => gO D A (GW L y ad σ)) A) args s 0 0 A) (F0 m 126 ls [.int xs0]) := by
  unfold fL_required_126 at h
  refine lv_istore (lv' := [(9, .int xs0), (0, .ref (ad 161)), (1, .ref (ad 162)), (2, .ref (ad 168)), (4, .ref (ad 173)), (5, .int x5), (6, .int x6), (7, .int x7)]) hx hb dL_required_126 hl (by decide) rfl ?_
  clear hl
  intro ls hl
  refine lv_iload hx hb dL_required_128 (lv_at hl 6 rfl) ?_
  refine lv_iload hx hb dL_required_130 (lv_at hl 0 rfl) ?_
  refine lv_if_eq (tgt := 147) hx hb dL_required_132 (by decide) (fun z_1 => ?_) (fun z_1 => ?_)
  ·
    rw [if_pos z_1] at h
    refine lv_iconst (v := 0) hx hb dL_required_147 (by decide) ?_
    exact wL_required_148 hx hb hr hml hown hg hlocks hK hA hL hrec51 hY (lv_sub hl [1, 2, 3, 4, 5, 7] rfl) h
  ·
    rw [if_neg z_1] at h
    refine lv_iconst (v := 1) hx hb dL_required_135 (by decide) ?_
    refine lv_aload hx hb dL_required_136 (lv_at hl 4 rfl) ?_
    refine lv_iload hx hb dL_required_138 (lv_at hl 7 rfl) ?_
    obtain ⟨z_2, h⟩ := g_guard h
    refine G_iald (j := x7.toNatClampNeg) hx hb hK hY (hL 173 (by decide)) gk_173 (by rw [gl_173]; exact z_2) rfl dL_required_140 ?_
    refine lv_iconst (v := 4) hx hb dL_required_141 (by decide) ?_
    refine lv_irem hx hb dL_required_142 (by decide +kernel) ?_
    refine lv_ishl hx hb dL_required_143 ?_
    refine lv_goto (tgt := 148) hx hb dL_required_144 (by decide) ?_
    exact wL_required_148 hx hb hr hml hown hg hlocks hK hA hL hrec51 hY (lv_sub hl [1, 2, 3, 4, 5, 7] rfl) h
def fL_required_121 (N : Nat) (rec51 : (Int32 × Int32) → Option Int32) (σ : gS) (x5 : Int32) (x6 : Int32) (x7 : Int32) : Option Int32 := fL_required_126 N rec51 σ x5 x6 x7 1
set_option maxRecDepth 100000 in
set_option maxHeartbeats 4000000 in
theorem wL_required_121 {rec51 : (Int32 × Int32) → Option Int32} {σ : gS} {x5 : Int32} {x6 : Int32} {x7 : Int32} (hx : p.tables.exec = Jvm.exec) (hb : c.code = cL_required) (hr : meth.sig.returnType = (some .int)) (hml : c.maxLocals = 10) (hown : s.vm.findClass RL = some m.cls) (hg : ∀ w ∈ wsL_law, w.before args s = true) (hlocks : meth.locks = false) (hK : gK D y aS s) (hA : ∀ q, s.heap.size ≤ q → A q) (hL : ∀ k, k < 179 → k ∈ L) (hrec51 : ∀ {x6n9 : Int32} {x7n9 : Int32} (H : Heap) (locs : List Loc) (ls : Array Slot), gY D y A s L ad σ H locs → lv_has ls 10 [(0, .ref (ad 161)), (1, .ref (ad 162)), (2, .ref (ad 168)), (4, .ref (ad 173)), (5, .int x5), (6, .int x6n9), (7, .int x7n9)] → rec51 (x6n9, x7n9) = some res → W p l e ({ frames := 0, cells := 0, slots := 0, locals := 0 } : Room) s m args below meth c H locs 0 0 (MQ below (va_Qi (fun (r : Int32) (_ : Unit) => r = res) (fun _ => gO D A (GW L y ad σ)) A) args s 0 0 A) (F0 m 51 ls [])) {H : Heap} {locs : List Loc} {ls : Array Slot} (hY : gY D y A s L ad σ H locs) (hl : lv_has ls 10 [(0, .ref (ad 161)), (1, .ref (ad 162)), (2, .ref (ad 168)), (4, .ref (ad 173)), (5, .int x5), (6, .int x6), (7, .int x7)]) (h : fL_required_121 N rec51 σ x5 x6 x7 = some res) : W p l e ({ frames := 0, cells := 0, slots := 0, locals := 0 } : Room) s m args below meth c H locs 0 0 (MQ below (va_Qi (fun (r : Int32) (_ : Unit) => r = res) (fun _ => gO D A (GW L y ad σ)) A) args s 0 0 A) (F0 m 121 ls []) := by
  unfold fL_required_121 at h
  refine lv_iconst (v := 1) hx hb dL_required_121 (by decide) ?_
  refine lv_goto (tgt := 126) hx hb dL_required_122 (by decide) ?_
  exact wL_required_126 hx hb hr hml hown hg hlocks hK hA hL hrec51 hY (lv_sub hl [0, 1, 2, 3, 4, 5, 6] rfl) h
def fL_required_125 (N : Nat) (rec51 : (Int32 × Int32) → Option Int32) (σ : gS) (x5 : Int32) (x6 : Int32) (x7 : Int32) : Option Int32 := fL_required_126 N rec51 σ x5 x6 x7 0
set_option maxRecDepth 100000 in
set_option maxHeartbeats 4000000 in
theorem wL_required_125 {rec51 : (Int32 × Int32) → Option Int32} {σ : gS} {x5 : Int32} {x6 : Int32} {x7 : Int32} (hx : p.tables.exec = Jvm.exec) (hb : c.code = cL_required) (hr : meth.sig.returnType = (some .int)) (hml : c.maxLocals = 10) (hown : s.vm.findClass RL = some m.cls) (hg : ∀ w ∈ wsL_law, w.before args s = true) (hlocks : meth.locks = false) (hK : gK D y aS s) (hA : ∀ q, s.heap.size ≤ q → A q) (hL : ∀ k, k < 179 → k ∈ L) (hrec51 : ∀ {x6n9 : Int32} {x7n9 : Int32} (H : Heap) (locs : List Loc) (ls : Array Slot), gY D y A s L ad σ H locs → lv_has ls 10 [(0, .ref (ad 161)), (1, .ref (ad 162)), (2, .ref (ad 168)), (4, .ref (ad 173)), (5, .int x5), (6, .int x6n9), (7, .int x7n9)] → rec51 (x6n9, x7n9) = some res → W p l e ({ frames := 0, cells := 0, slots := 0, locals := 0 } : Room) s m args below meth c H locs 0 0 (MQ below (va_Qi (fun (r : Int32) (_ : Unit) => r = res) (fun _ => gO D A (GW L y ad σ)) A) args s 0 0 A) (F0 m 51 ls [])) {H : Heap} {locs : List Loc} {ls : Array Slot} (hY : gY D y A s L ad σ H locs) (hl : lv_has ls 10 [(0, .ref (ad 161)), (1, .ref (ad 162)), (2, .ref (ad 168)), (4, .ref (ad 173)), (5, .int x5), (6, .int x6), (7, .int x7)]) (h : fL_required_125 N rec51 σ x5 x6 x7 = some res) : W p l e ({ frames := 0, cells := 0, slots := 0, locals := 0 } : Room) s m args below meth c H locs 0 0 (MQ below (va_Qi (fun (r : Int32) (_ : Unit) => r = res) (fun _ => gO D A (GW L y ad σ)) A) args s 0 0 A) (F0 m 125 ls []) := by
  unfold fL_required_125 at h
  refine lv_iconst (v := 0) hx hb dL_required_125 (by decide) ?_
  exact wL_required_126 hx hb hr hml hown hg hlocks hK hA hL hrec51 hY (lv_sub hl [0, 1, 2, 3, 4, 5, 6] rfl) h
def fL_required_51 (N : Nat) (σ : gS) (x5 : Int32) (rec51 : (Int32 × Int32) → Option Int32) (xx : Int32 × Int32) : Option Int32 := match xx with
  | (x6, x7) => if (σ.1 161 3) ≤ x7 then (some x6) else (if x7 < 0 ∨ 12 ≤ x7.toNatClampNeg then none else (if x7 < 0 ∨ 12 ≤ x7.toNatClampNeg then none else (if (((σ.1 173 x7.toNatClampNeg) / 4) - ((σ.1 173 x7.toNatClampNeg) / 4) / 4 * 4) = 0 then (fL_required_121 N rec51 σ x5 x6 x7) else (if x7 < 0 ∨ 12 ≤ x7.toNatClampNeg then none else (if (((σ.1 173 x7.toNatClampNeg) / 4) - ((σ.1 173 x7.toNatClampNeg) / 4) / 4 * 4) = 1 then (if x5 < 0 ∨ 24 ≤ x5.toNatClampNeg then none else (if (((σ.1 168 x5.toNatClampNeg) >>> (((σ.1 173 x7.toNatClampNeg) / 16) &&& 31)) &&& 1) = 1 then (fL_required_121 N rec51 σ x5 x6 x7) else (fL_required_125 N rec51 σ x5 x6 x7))) else (if x5 < 0 ∨ 24 ≤ x5.toNatClampNeg then none else (if ((σ.1 162 x5.toNatClampNeg) - (σ.1 162 x5.toNatClampNeg) / 3 * 3) = ((σ.1 173 x7.toNatClampNeg) / 16) then (fL_required_121 N rec51 σ x5 x6 x7) else (fL_required_125 N rec51 σ x5 x6 x7))))))))
set_option maxRecDepth 100000 in
set_option maxHeartbeats 4000000 in
theorem wL_required_51 {σ : gS} {x5 : Int32} (hx : p.tables.exec = Jvm.exec) (hb : c.code = cL_required) (hr : meth.sig.returnType = (some .int)) (hml : c.maxLocals = 10) (hown : s.vm.findClass RL = some m.cls) (hg : ∀ w ∈ wsL_law, w.before args s = true) (hlocks : meth.locks = false) (hK : gK D y aS s) (hA : ∀ q, s.heap.size ≤ q → A q) (hL : ∀ k, k < 179 → k ∈ L) : ∀ (n : Nat) {x6 : Int32} {x7 : Int32} (H : Heap) (locs : List Loc) (ls : Array Slot), gY D y A s L ad σ H locs → lv_has ls 10 [(0, .ref (ad 161)), (1, .ref (ad 162)), (2, .ref (ad 168)), (4, .ref (ad 173)), (5, .int x5), (6, .int x6), (7, .int x7)] → lp (fL_required_51 N σ x5) n (x6, x7) = some res → W p l e ({ frames := 0, cells := 0, slots := 0, locals := 0 } : Room) s m args below meth c H locs 0 0 (MQ below (va_Qi (fun (r : Int32) (_ : Unit) => r = res) (fun _ => gO D A (GW L y ad σ)) A) args s 0 0 A) (F0 m 51 ls []) := by
  intro n
  induction n with
  | zero => intro x6 x7 H locs ls hY hl h; exact nomatch (show none = some res from h)
  | succ n hrec51 =>
    intro x6 x7 H locs ls hY hl h
    replace h : fL_required_51 N σ x5 (lp (fL_required_51 N σ x5) n) (x6, x7) = some res := h
    generalize lp (fL_required_51 N σ x5) n = rec51 at h hrec51
    unfold fL_required_51 at h
    try dsimp only at h
    refine lv_iload hx hb dL_required_51 (lv_at hl 6 rfl) ?_
    refine lv_aload_n hx hb dL_required_53 rfl (lv_at hl 0 rfl) ?_
    refine lv_iconst (v := 3) hx hb dL_required_54 (by decide) ?_
    refine G_iald (j := 3) hx hb hK hY (hL 161 (by decide)) gk_161 (by rw [gl_161]; decide +kernel) (by decide +kernel) dL_required_55 ?_
    refine lv_icmp_ge (tgt := 157) hx hb dL_required_56 (by decide) (fun z_1 => ?_) (fun z_1 => ?_)
    ·
      rw [if_pos z_1] at h
      refine lv_iload hx hb dL_required_157 (lv_at hl 5 rfl) ?_
      cases h
      exact g_iret hx hb hr hlocks () hY.1 hY.2.1 hY.2.2 rfl rfl (Nat.le_of_ble_eq_true rfl) (Nat.le_of_ble_eq_true rfl) dL_required_159
    ·
      rw [if_neg z_1] at h
      refine lv_aload hx hb dL_required_59 (lv_at hl 3 rfl) ?_
      refine lv_iload hx hb dL_required_61 (lv_at hl 6 rfl) ?_
      obtain ⟨z_2, h⟩ := g_guard h
      refine G_iald (j := x7.toNatClampNeg) hx hb hK hY (hL 173 (by decide)) gk_173 (by rw [gl_173]; exact z_2) rfl dL_required_63 ?_
      refine lv_bipush (v := 16) hx hb dL_required_64 (by decide +kernel) ?_
      refine lv_idiv hx hb dL_required_66 (by decide +kernel) ?_
      refine lv_istore (lv' := [(8, .int ((σ.1 173 x7.toNatClampNeg) / 16)), (0, .ref (ad 161)), (1, .ref (ad 162)), (2, .ref (ad 168)), (4, .ref (ad 173)), (5, .int x5), (6, .int x6), (7, .int x7)]) hx hb dL_required_67 hl (by decide) rfl ?_
      clear hl
      intro ls hl
      refine lv_aload hx hb dL_required_69 (lv_at hl 4 rfl) ?_
      refine lv_iload hx hb dL_required_71 (lv_at hl 7 rfl) ?_
      obtain ⟨z_3, h⟩ := g_guard h
      refine G_iald (j := x7.toNatClampNeg) hx hb hK hY (hL 173 (by decide)) gk_173 (by rw [gl_173]; exact z_3) rfl dL_required_73 ?_
      refine lv_iconst (v := 4) hx hb dL_required_74 (by decide) ?_
      refine lv_idiv hx hb dL_required_75 (by decide +kernel) ?_
      refine lv_iconst (v := 4) hx hb dL_required_76 (by decide) ?_
      refine lv_irem hx hb dL_required_77 (by decide +kernel) ?_
      refine lv_if_eq (tgt := 121) hx hb dL_required_78 (by decide) (fun z_4 => ?_) (fun z_4 => ?_)
      ·
        rw [if_pos z_4] at h
        exact wL_required_121 hx hb hr hml hown hg hlocks hK hA hL hrec51 hY (lv_sub hl [1, 2, 3, 4, 5, 6, 7] rfl) h
      ·
        rw [if_neg z_4] at h
        refine lv_aload hx hb dL_required_81 (lv_at hl 4 rfl) ?_
        refine lv_iload hx hb dL_required_83 (lv_at hl 7 rfl) ?_
        obtain ⟨z_5, h⟩ := g_guard h
        refine G_iald (j := x7.toNatClampNeg) hx hb hK hY (hL 173 (by decide)) gk_173 (by rw [gl_173]; exact z_5) rfl dL_required_85 ?_
        refine lv_iconst (v := 4) hx hb dL_required_86 (by decide) ?_
        refine lv_idiv hx hb dL_required_87 (by decide +kernel) ?_
        refine lv_iconst (v := 4) hx hb dL_required_88 (by decide) ?_
        refine lv_irem hx hb dL_required_89 (by decide +kernel) ?_
        refine lv_iconst (v := 1) hx hb dL_required_90 (by decide) ?_
        refine lv_icmp_ne (tgt := 110) hx hb dL_required_91 (by decide) (fun z_6 => ?_) (fun z_6 => ?_)
        ·
          rw [if_neg z_6] at h
          refine lv_aload_n hx hb dL_required_110 rfl (lv_at hl 2 rfl) ?_
          refine lv_iload hx hb dL_required_111 (lv_at hl 5 rfl) ?_
          obtain ⟨z_7, h⟩ := g_guard h
          refine G_iald (j := x5.toNatClampNeg) hx hb hK hY (hL 162 (by decide)) gk_162 (by rw [gl_162]; exact z_7) rfl dL_required_113 ?_
          refine lv_iconst (v := 3) hx hb dL_required_114 (by decide) ?_
          refine lv_irem hx hb dL_required_115 (by decide +kernel) ?_
          refine lv_iload hx hb dL_required_116 (lv_at hl 0 rfl) ?_
          refine lv_icmp_ne (tgt := 125) hx hb dL_required_118 (by decide) (fun z_8 => ?_) (fun z_8 => ?_)
          ·
            rw [if_neg z_8] at h
            exact wL_required_125 hx hb hr hml hown hg hlocks hK hA hL hrec51 hY (lv_sub hl [1, 2, 3, 4, 5, 6, 7] rfl) h
          ·
            rw [if_pos z_8] at h
            exact wL_required_121 hx hb hr hml hown hg hlocks hK hA hL hrec51 hY (lv_sub hl [1, 2, 3, 4, 5, 6, 7] rfl) h
        ·
          rw [if_pos z_6] at h
          refine lv_aload_n hx hb dL_required_94 rfl (lv_at hl 3 rfl) ?_
          refine lv_iload hx hb dL_required_95 (lv_at hl 5 rfl) ?_
          obtain ⟨z_9, h⟩ := g_guard h
          refine G_iald (j := x5.toNatClampNeg) hx hb hK hY (hL 168 (by decide)) gk_168 (by rw [gl_168]; exact z_9) rfl dL_required_97 ?_
          refine lv_iload hx hb dL_required_98 (lv_at hl 0 rfl) ?_
          refine lv_ishr hx hb dL_required_100 ?_
          refine lv_iconst (v := 1) hx hb dL_required_101 (by decide) ?_
          refine lv_iand hx hb dL_required_102 ?_
          refine lv_iconst (v := 1) hx hb dL_required_103 (by decide) ?_
          refine lv_icmp_ne (tgt := 125) hx hb dL_required_104 (by decide) (fun z_10 => ?_) (fun z_10 => ?_)
          ·
            rw [if_neg z_10] at h
            exact wL_required_125 hx hb hr hml hown hg hlocks hK hA hL hrec51 hY (lv_sub hl [1, 2, 3, 4, 5, 6, 7] rfl) h
          ·
            rw [if_pos z_10] at h
            refine lv_goto (tgt := 121) hx hb dL_required_107 (by decide) ?_
            exact wL_required_121 hx hb hr hml hown hg hlocks hK hA hL hrec51 hY (lv_sub hl [1, 2, 3, 4, 5, 6, 7] rfl) h
def fL_required_39 (N : Nat) (rec6 : (Int32 × Int32) → Option Int32) (σ : gS) (x5 : Int32) (x7 : Int32) (xs0 : Int32) (xs1 : Int32) : Option Int32 := rec6 ((xs1 ||| xs0), (x7 + 1))
set_option maxRecDepth 100000 in
set_option maxHeartbeats 4000000 in
theorem wL_required_39 {rec6 : (Int32 × Int32) → Option Int32} {σ : gS} {x5 : Int32} {x7 : Int32} {xs0 : Int32} {xs1 : Int32} (hx : p.tables.exec = Jvm.exec) (hb : c.code = cL_required) (hr : meth.sig.returnType = (some .int)) (hml : c.maxLocals = 10) (hown : s.vm.findClass RL = some m.cls) (hg : ∀ w ∈ wsL_law, w.before args s = true) (hlocks : meth.locks = false) (hK : gK D y aS s) (hA : ∀ q, s.heap.size ≤ q → A q) (hL : ∀ k, k < 179 → k ∈ L) (hrec6 : ∀ {x6n9 : Int32} {x7n9 : Int32} (H : Heap) (locs : List Loc) (ls : Array Slot), gY D y A s L ad σ H locs → lv_has ls 10 [(0, .ref (ad 161)), (1, .ref (ad 162)), (2, .ref (ad 168)), (3, .ref (ad 172)), (4, .ref (ad 173)), (5, .int x5), (6, .int x6n9), (7, .int x7n9)] → rec6 (x6n9, x7n9) = some res → W p l e ({ frames := 0, cells := 0, slots := 0, locals := 0 } : Room) s m args below meth c H locs 0 0 (MQ below (va_Qi (fun (r : Int32) (_ : Unit) => r = res) (fun _ => gO D A (GW L y ad σ)) A) args s 0 0 A) (F0 m 6 ls [])) {H : Heap} {locs : List Loc} {ls : Array Slot} (hY : gY D y A s L ad σ H locs) (hl : lv_has ls 10 [(0, .ref (ad 161)), (1, .ref (ad 162)), (2, .ref (ad 168)), (3, .ref (ad 172)), (4, .ref (ad 173)), (5, .int x5), (7, .int x7)]) (h : fL_required_39 N rec6 σ x5 x7 xs0 xs1 = some res) : W p l e ({ frames := 0, cells := 0, slots := 0, locals := 0 } : Room) s m args below meth c H locs 0 0 (MQ below (va_Qi (fun (r : Int32) (_ : Unit) => r = res) (fun _ => gO D A (GW L y ad σ)) A) args s 0 0 A) (F0 m 39 ls [.int xs0, .int xs1]) := by
  unfold fL_required_39 at h
  refine lv_ior hx hb dL_required_39 ?_
  refine lv_istore (lv' := [(6, .int (xs1 ||| xs0)), (0, .ref (ad 161)), (1, .ref (ad 162)), (2, .ref (ad 168)), (3, .ref (ad 172)), (4, .ref (ad 173)), (5, .int x5), (7, .int x7)]) hx hb dL_required_40 hl (by decide) rfl ?_
  clear hl
  intro ls hl
  refine lv_iinc (v := (x7 + 1)) (lv' := [(7, .int (x7 + 1)), (6, .int (xs1 ||| xs0)), (0, .ref (ad 161)), (1, .ref (ad 162)), (2, .ref (ad 168)), (3, .ref (ad 172)), (4, .ref (ad 173)), (5, .int x5)]) hx hb dL_required_42 hl (k := 7) rfl rfl (by decide) rfl ?_
  clear hl
  intro ls hl
  refine lv_goto (tgt := 6) hx hb dL_required_45 (by decide) ?_
  exact hrec6 _ _ _ hY (lv_sub hl [2, 3, 4, 5, 6, 7, 1, 0] rfl) h
def fL_required_6 (N : Nat) (σ : gS) (x5 : Int32) (rec6 : (Int32 × Int32) → Option Int32) (xx : Int32 × Int32) : Option Int32 := match xx with
  | (x6, x7) => if (σ.1 161 2) ≤ x7 then (lp (fL_required_51 N σ x5) N (x6, 0)) else (if (12 * x7) < 0 ∨ 48 ≤ (12 * x7).toNatClampNeg then none else (if x5 < 0 ∨ 24 ≤ x5.toNatClampNeg then none else (if ((σ.1 172 ((12 * x7).toNatClampNeg)) &&& (σ.1 168 x5.toNatClampNeg)) = 0 then (fL_required_39 N rec6 σ x5 x7 0 x6) else (fL_required_39 N rec6 σ x5 x7 ((1 : Int32) <<< (x7 &&& 31)) x6))))
set_option maxRecDepth 100000 in
set_option maxHeartbeats 4000000 in
theorem wL_required_6 {σ : gS} {x5 : Int32} (hx : p.tables.exec = Jvm.exec) (hb : c.code = cL_required) (hr : meth.sig.returnType = (some .int)) (hml : c.maxLocals = 10) (hown : s.vm.findClass RL = some m.cls) (hg : ∀ w ∈ wsL_law, w.before args s = true) (hlocks : meth.locks = false) (hK : gK D y aS s) (hA : ∀ q, s.heap.size ≤ q → A q) (hL : ∀ k, k < 179 → k ∈ L) : ∀ (n : Nat) {x6 : Int32} {x7 : Int32} (H : Heap) (locs : List Loc) (ls : Array Slot), gY D y A s L ad σ H locs → lv_has ls 10 [(0, .ref (ad 161)), (1, .ref (ad 162)), (2, .ref (ad 168)), (3, .ref (ad 172)), (4, .ref (ad 173)), (5, .int x5), (6, .int x6), (7, .int x7)] → lp (fL_required_6 N σ x5) n (x6, x7) = some res → W p l e ({ frames := 0, cells := 0, slots := 0, locals := 0 } : Room) s m args below meth c H locs 0 0 (MQ below (va_Qi (fun (r : Int32) (_ : Unit) => r = res) (fun _ => gO D A (GW L y ad σ)) A) args s 0 0 A) (F0 m 6 ls []) := by
  intro n
  induction n with
  | zero => intro x6 x7 H locs ls hY hl h; exact nomatch (show none = some res from h)
  | succ n hrec6 =>
    intro x6 x7 H locs ls hY hl h
    replace h : fL_required_6 N σ x5 (lp (fL_required_6 N σ x5) n) (x6, x7) = some res := h
    generalize lp (fL_required_6 N σ x5) n = rec6 at h hrec6
    unfold fL_required_6 at h
    try dsimp only at h
    refine lv_iload hx hb dL_required_6 (lv_at hl 7 rfl) ?_
    refine lv_aload_n hx hb dL_required_8 rfl (lv_at hl 0 rfl) ?_
    refine lv_iconst (v := 2) hx hb dL_required_9 (by decide) ?_
    refine G_iald (j := 2) hx hb hK hY (hL 161 (by decide)) gk_161 (by rw [gl_161]; decide +kernel) (by decide +kernel) dL_required_10 ?_
    refine lv_icmp_ge (tgt := 48) hx hb dL_required_11 (by decide) (fun z_1 => ?_) (fun z_1 => ?_)
    ·
      rw [if_pos z_1] at h
      refine lv_iconst (v := 0) hx hb dL_required_48 (by decide) ?_
      refine lv_istore (lv' := [(7, .int 0), (0, .ref (ad 161)), (1, .ref (ad 162)), (2, .ref (ad 168)), (3, .ref (ad 172)), (4, .ref (ad 173)), (5, .int x5), (6, .int x6)]) hx hb dL_required_49 hl (by decide) rfl ?_
      clear hl
      intro ls hl
      exact wL_required_51 hx hb hr hml hown hg hlocks hK hA hL N _ _ _ hY (lv_sub hl [1, 2, 3, 5, 6, 7, 0] rfl) h
    ·
      rw [if_neg z_1] at h
      refine lv_iload hx hb dL_required_14 (lv_at hl 6 rfl) ?_
      refine lv_aload_n hx hb dL_required_16 rfl (lv_at hl 3 rfl) ?_
      refine lv_bipush (v := 12) hx hb dL_required_17 (by decide +kernel) ?_
      refine lv_iload hx hb dL_required_19 (lv_at hl 7 rfl) ?_
      refine lv_imul hx hb dL_required_21 ?_
      obtain ⟨z_2, h⟩ := g_guard h
      refine G_iald (j := (12 * x7).toNatClampNeg) hx hb hK hY (hL 172 (by decide)) gk_172 (by rw [gl_172]; exact z_2) rfl dL_required_22 ?_
      refine lv_aload_n hx hb dL_required_23 rfl (lv_at hl 2 rfl) ?_
      refine lv_iload hx hb dL_required_24 (lv_at hl 5 rfl) ?_
      obtain ⟨z_3, h⟩ := g_guard h
      refine G_iald (j := x5.toNatClampNeg) hx hb hK hY (hL 168 (by decide)) gk_168 (by rw [gl_168]; exact z_3) rfl dL_required_26 ?_
      refine lv_iand hx hb dL_required_27 ?_
      refine lv_if_eq (tgt := 38) hx hb dL_required_28 (by decide) (fun z_4 => ?_) (fun z_4 => ?_)
      ·
        rw [if_pos z_4] at h
        refine lv_iconst (v := 0) hx hb dL_required_38 (by decide) ?_
        exact wL_required_39 hx hb hr hml hown hg hlocks hK hA hL hrec6 hY (lv_sub hl [0, 1, 2, 3, 4, 5, 7] rfl) h
      ·
        rw [if_neg z_4] at h
        refine lv_iconst (v := 1) hx hb dL_required_31 (by decide) ?_
        refine lv_iload hx hb dL_required_32 (lv_at hl 7 rfl) ?_
        refine lv_ishl hx hb dL_required_34 ?_
        refine lv_goto (tgt := 39) hx hb dL_required_35 (by decide) ?_
        exact wL_required_39 hx hb hr hml hown hg hlocks hK hA hL hrec6 hY (lv_sub hl [0, 1, 2, 3, 4, 5, 7] rfl) h
end
def fL_required (N : Nat) (σ : gS) (x5 : Int32) : Option Int32 := lp (fL_required_6 N σ x5) N (0, 0)
set_option maxRecDepth 100000 in
set_option maxHeartbeats 4000000 in
theorem kL_required (l : Launch) (D : va_G) (y : Nat → ClassId) (aS : Nat → Nat) (sz : Nat) (L : List Nat) (hL : ∀ k, k < 179 → k ∈ L) (ad : Nat → Nat) (N : Nat) (σ : gS) (x5 : Int32) (res : Int32) (h : fL_required N σ x5 = some res) : Met l yL_required (Cond.code yL_required cL_required 10 (some .int) :: wsL_law) ({ frames := 0, cells := 0, slots := 0, locals := 0 } : Room) (va_Pc [.ref (ad 161), .ref (ad 162), .ref (ad 168), .ref (ad 172), .ref (ad 173), .int x5] (gI D y aS (GW L y ad σ) sz)) (va_Qi (fun (r : Int32) (_ : Unit) => r = res) (fun _ => gO D (va_A (GW L y ad σ) sz) (GW L y ad σ)) (va_A (GW L y ad σ) sz)) 0 0 (va_A (GW L y ad σ) sz) := by
  refine g_of (by decide) (Nat.le_of_ble_eq_true rfl) ?_
  intro p e s m below meth c ls A hx hb hr hml hown hg hlocks hin hsz hK hP hD hS hA hAe hl
  rw [← hAe]
  replace hown : s.vm.findClass RL = some m.cls := hown
  have hY : gY D y A s L ad σ s.heap [] := ⟨hP, hD, hS⟩
  clear hP hD hS
  replace hl : lv_has ls 10 [(0, .ref (ad 161)), (1, .ref (ad 162)), (2, .ref (ad 168)), (3, .ref (ad 172)), (4, .ref (ad 173)), (5, .int x5)] := hl
  unfold fL_required at h
  refine lv_iconst (v := 0) hx hb dL_required_0 (by decide) ?_
  refine lv_istore (lv' := [(6, .int 0), (0, .ref (ad 161)), (1, .ref (ad 162)), (2, .ref (ad 168)), (3, .ref (ad 172)), (4, .ref (ad 173)), (5, .int x5)]) hx hb dL_required_1 hl (by decide) rfl ?_
  clear hl
  intro ls hl
  refine lv_iconst (v := 0) hx hb dL_required_3 (by decide) ?_
  refine lv_istore (lv' := [(7, .int 0), (6, .int 0), (0, .ref (ad 161)), (1, .ref (ad 162)), (2, .ref (ad 168)), (3, .ref (ad 172)), (4, .ref (ad 173)), (5, .int x5)]) hx hb dL_required_4 hl (by decide) rfl ?_
  clear hl
  intro ls hl
  exact wL_required_6 hx hb hr hml hown hg hlocks hK hA hL N _ _ _ hY (lv_sub hl [2, 3, 4, 5, 6, 7, 1, 0] rfl) h
section
variable {p : Program} {l : Launch} {e : Env} {s : State} {m : MethodId} {args : Array Value} {below : List Frame} {meth : Method} {c : Code} {D : va_G} {y : Nat → ClassId} {aS : Nat → Nat} {A : Nat → Prop} {L : List Nat} {ad : Nat → Nat} {N : Nat} {res : Int64}
end
def fL_key (N : Nat) (σ : gS) (x1 : Int32) (x2 : Int64) : Option Int64 := if (12 * x1) < 0 ∨ 48 ≤ (12 * x1).toNatClampNeg then none else ((fL_bits N σ (σ.1 172 ((12 * x1).toNatClampNeg))).bind fun r_2 => some ((x2 &&& r_2) ||| (((x1.toInt64) <<< ((50 : Int32).toInt64 &&& 63)))))
set_option maxRecDepth 100000 in
set_option maxHeartbeats 4000000 in
theorem kL_key (l : Launch) (D : va_G) (y : Nat → ClassId) (aS : Nat → Nat) (sz : Nat) (L : List Nat) (hL : ∀ k, k < 179 → k ∈ L) (ad : Nat → Nat) (N : Nat) (σ : gS) (x1 : Int32) (x2 : Int64) (res : Int64) (h : fL_key N σ x1 x2 = some res) : Met l yL_key (Cond.code yL_key cL_key 4 (some .long) :: wsL_law) ({ frames := 1, cells := 0, slots := 0, locals := 23 } : Room) (va_Pc [.ref (ad 172), .int x1, .long x2] (gI D y aS (GW L y ad σ) sz)) (va_Ql (fun (r : Int64) (_ : Unit) => r = res) (fun _ => gO D (va_A (GW L y ad σ) sz) (GW L y ad σ)) (va_A (GW L y ad σ) sz)) 0 0 (va_A (GW L y ad σ) sz) := by
  refine g_of (by decide) (Nat.le_of_ble_eq_true rfl) ?_
  intro p e s m below meth c ls A hx hb hr hml hown hg hlocks hin hsz hK hP hD hS hA hAe hl
  rw [← hAe]
  replace hown : s.vm.findClass RL = some m.cls := hown
  have hY : gY D y A s L ad σ s.heap [] := ⟨hP, hD, hS⟩
  clear hP hD hS
  replace hl : lv_has ls 4 [(0, .ref (ad 172)), (1, .int x1), (2, .long x2)] := hl
  unfold fL_key at h
  refine lv_lload_n hx hb dL_key_0 rfl (lv_at hl 2 rfl) ?_
  refine lv_aload_n hx hb dL_key_1 rfl (lv_at hl 0 rfl) ?_
  refine lv_bipush (v := 12) hx hb dL_key_2 (by decide +kernel) ?_
  refine lv_iload_n hx hb dL_key_4 rfl (lv_at hl 1 rfl) ?_
  refine lv_imul hx hb dL_key_5 ?_
  obtain ⟨z_1, h⟩ := g_guard h
  refine G_iald (j := (12 * x1).toNatClampNeg) hx hb hK hY (hL 172 (by decide)) gk_172 (by rw [gl_172]; exact z_1) rfl dL_key_6 ?_
  obtain ⟨r_2, e_3, h⟩ := g_bind h
  refine G_al hY hA (va_runS (As := [.int (σ.1 172 ((12 * x1).toNatClampNeg))]) (rest := [.long x2]) ⟨hx, hb, hml, hown, hg⟩ (kL_bits l D y aS s.heap.size L hL ad N σ (σ.1 172 ((12 * x1).toNatClampNeg)) _ e_3) (va_cwS 1 hg ggS_RL_9_L_bits rfl rfl rfl (by decide +kernel) ⟨Nat.le_of_ble_eq_true rfl, Nat.le_of_ble_eq_true rfl⟩) (G_pS hK hY) rfl rfl hl.1 rfl (lv_room (Nat.le_of_ble_eq_true rfl)) dL_key_7 ⟨Nat.le_of_ble_eq_true rfl, Nat.le_of_ble_eq_true rfl⟩) ?_
  clear hY
  rintro _ H locs rfl hY
  refine lv_land hx hb dL_key_10 ?_
  refine lv_iload_n hx hb dL_key_11 rfl (lv_at hl 1 rfl) ?_
  refine lv_i2l (v := (x1.toInt64)) hx hb dL_key_12 rfl ?_
  refine lv_bipush (v := 50) hx hb dL_key_13 (by decide +kernel) ?_
  refine lv_lshl (v := (((x1.toInt64) <<< ((50 : Int32).toInt64 &&& 63)))) hx hb dL_key_15 rfl ?_
  refine lv_lor hx hb dL_key_16 ?_
  cases h
  exact g_lret hx hb hr hlocks () hY.1 hY.2.1 hY.2.2 rfl (Nat.le_of_ble_eq_true rfl) (Nat.le_of_ble_eq_true rfl) dL_key_17
section
variable {p : Program} {l : Launch} {e : Env} {s : State} {m : MethodId} {args : Array Value} {below : List Frame} {meth : Method} {c : Code} {D : va_G} {y : Nat → ClassId} {aS : Nat → Nat} {A : Nat → Prop} {L : List Nat} {ad : Nat → Nat} {N : Nat} {res : Int32}
def fL_entry_30 (N : Nat) (rec6 : (Int32 × Int32) → Option Int32) (σ : gS) (x2 : Int64) (x5 : Int32) (xs0 : Int32) : Option Int32 := rec6 (xs0, (x5 + 1))
set_option maxRecDepth 100000 in
set_option maxHeartbeats 4000000 in
theorem wL_entry_30 {rec6 : (Int32 × Int32) → Option Int32} {σ : gS} {x2 : Int64} {x5 : Int32} {xs0 : Int32} (hx : p.tables.exec = Jvm.exec) (hb : c.code = cL_entry) (hr : meth.sig.returnType = (some .int)) (hml : c.maxLocals = 6) (hown : s.vm.findClass RL = some m.cls) (hg : ∀ w ∈ wsL_law, w.before args s = true) (hlocks : meth.locks = false) (hK : gK D y aS s) (hA : ∀ q, s.heap.size ≤ q → A q) (hL : ∀ k, k < 179 → k ∈ L) (hrec6 : ∀ {x4n9 : Int32} {x5n9 : Int32} (H : Heap) (locs : List Loc) (ls : Array Slot), gY D y A s L ad σ H locs → lv_has ls 6 [(0, .ref (ad 161)), (1, .ref (ad 174)), (2, .long x2), (4, .int x4n9), (5, .int x5n9)] → rec6 (x4n9, x5n9) = some res → W p l e ({ frames := 0, cells := 0, slots := 0, locals := 0 } : Room) s m args below meth c H locs 0 0 (MQ below (va_Qi (fun (r : Int32) (_ : Unit) => r = res) (fun _ => gO D A (GW L y ad σ)) A) args s 0 0 A) (F0 m 6 ls [])) {H : Heap} {locs : List Loc} {ls : Array Slot} (hY : gY D y A s L ad σ H locs) (hl : lv_has ls 6 [(0, .ref (ad 161)), (1, .ref (ad 174)), (2, .long x2), (5, .int x5)]) (h : fL_entry_30 N rec6 σ x2 x5 xs0 = some res) : W p l e ({ frames := 0, cells := 0, slots := 0, locals := 0 } : Room) s m args below meth c H locs 0 0 (MQ below (va_Qi (fun (r : Int32) (_ : Unit) => r = res) (fun _ => gO D A (GW L y ad σ)) A) args s 0 0 A) (F0 m 30 ls [.int xs0]) := by
  unfold fL_entry_30 at h
  refine lv_istore (lv' := [(4, .int xs0), (0, .ref (ad 161)), (1, .ref (ad 174)), (2, .long x2), (5, .int x5)]) hx hb dL_entry_30 hl (by decide) rfl ?_
  clear hl
  intro ls hl
  refine lv_iinc (v := (x5 + 1)) (lv' := [(5, .int (x5 + 1)), (4, .int xs0), (0, .ref (ad 161)), (1, .ref (ad 174)), (2, .long x2)]) hx hb dL_entry_32 hl (k := 4) rfl rfl (by decide) rfl ?_
  clear hl
  intro ls hl
  refine lv_goto (tgt := 6) hx hb dL_entry_35 (by decide) ?_
  exact hrec6 _ _ _ hY (lv_sub hl [2, 3, 4, 1, 0] rfl) h
def fL_entry_6 (N : Nat) (σ : gS) (x2 : Int64) (rec6 : (Int32 × Int32) → Option Int32) (xx : Int32 × Int32) : Option Int32 := match xx with
  | (x4, x5) => if (σ.1 161 4) ≤ x5 then (some x4) else (if x5 < 0 ∨ 64 ≤ x5.toNatClampNeg then none else (if (lg_cmp (σ.2.1 174 x5.toNatClampNeg) x2) = 0 then (fL_entry_30 N rec6 σ x2 x5 x5) else (fL_entry_30 N rec6 σ x2 x5 x4)))
set_option maxRecDepth 100000 in
set_option maxHeartbeats 4000000 in
theorem wL_entry_6 {σ : gS} {x2 : Int64} (hx : p.tables.exec = Jvm.exec) (hb : c.code = cL_entry) (hr : meth.sig.returnType = (some .int)) (hml : c.maxLocals = 6) (hown : s.vm.findClass RL = some m.cls) (hg : ∀ w ∈ wsL_law, w.before args s = true) (hlocks : meth.locks = false) (hK : gK D y aS s) (hA : ∀ q, s.heap.size ≤ q → A q) (hL : ∀ k, k < 179 → k ∈ L) : ∀ (n : Nat) {x4 : Int32} {x5 : Int32} (H : Heap) (locs : List Loc) (ls : Array Slot), gY D y A s L ad σ H locs → lv_has ls 6 [(0, .ref (ad 161)), (1, .ref (ad 174)), (2, .long x2), (4, .int x4), (5, .int x5)] → lp (fL_entry_6 N σ x2) n (x4, x5) = some res → W p l e ({ frames := 0, cells := 0, slots := 0, locals := 0 } : Room) s m args below meth c H locs 0 0 (MQ below (va_Qi (fun (r : Int32) (_ : Unit) => r = res) (fun _ => gO D A (GW L y ad σ)) A) args s 0 0 A) (F0 m 6 ls []) := by
  intro n
  induction n with
  | zero => intro x4 x5 H locs ls hY hl h; exact nomatch (show none = some res from h)
  | succ n hrec6 =>
    intro x4 x5 H locs ls hY hl h
    replace h : fL_entry_6 N σ x2 (lp (fL_entry_6 N σ x2) n) (x4, x5) = some res := h
    generalize lp (fL_entry_6 N σ x2) n = rec6 at h hrec6
    unfold fL_entry_6 at h
    try dsimp only at h
    refine lv_iload hx hb dL_entry_6 (lv_at hl 4 rfl) ?_
    refine lv_aload_n hx hb dL_entry_8 rfl (lv_at hl 0 rfl) ?_
    refine lv_iconst (v := 4) hx hb dL_entry_9 (by decide) ?_
    refine G_iald (j := 4) hx hb hK hY (hL 161 (by decide)) gk_161 (by rw [gl_161]; decide +kernel) (by decide +kernel) dL_entry_10 ?_
    refine lv_icmp_ge (tgt := 38) hx hb dL_entry_11 (by decide) (fun z_1 => ?_) (fun z_1 => ?_)
    ·
      rw [if_pos z_1] at h
      refine lv_iload hx hb dL_entry_38 (lv_at hl 3 rfl) ?_
      cases h
      exact g_iret hx hb hr hlocks () hY.1 hY.2.1 hY.2.2 rfl rfl (Nat.le_of_ble_eq_true rfl) (Nat.le_of_ble_eq_true rfl) dL_entry_40
    ·
      rw [if_neg z_1] at h
      refine lv_aload_n hx hb dL_entry_14 rfl (lv_at hl 1 rfl) ?_
      refine lv_iload hx hb dL_entry_15 (lv_at hl 4 rfl) ?_
      obtain ⟨z_2, h⟩ := g_guard h
      refine G_lald (j := x5.toNatClampNeg) hx hb hK hY (hL 174 (by decide)) gk_174 (by rw [gl_174]; exact z_2) rfl dL_entry_17 ?_
      refine lv_lload_n hx hb dL_entry_18 rfl (lv_at hl 2 rfl) ?_
      refine W.lcmp hx hb dL_entry_19 ?_
      refine lv_if_ne (tgt := 28) hx hb dL_entry_20 (by decide) (fun z_3 => ?_) (fun z_3 => ?_)
      ·
        rw [if_neg z_3] at h
        refine lv_iload hx hb dL_entry_28 (lv_at hl 3 rfl) ?_
        exact wL_entry_30 hx hb hr hml hown hg hlocks hK hA hL hrec6 hY (lv_sub hl [0, 1, 2, 4] rfl) h
      ·
        rw [if_pos z_3] at h
        refine lv_iload hx hb dL_entry_23 (lv_at hl 4 rfl) ?_
        refine lv_goto (tgt := 30) hx hb dL_entry_25 (by decide) ?_
        exact wL_entry_30 hx hb hr hml hown hg hlocks hK hA hL hrec6 hY (lv_sub hl [0, 1, 2, 4] rfl) h
end
def fL_entry (N : Nat) (σ : gS) (x2 : Int64) : Option Int32 := lp (fL_entry_6 N σ x2) N ((-1), 0)
set_option maxRecDepth 100000 in
set_option maxHeartbeats 4000000 in
theorem kL_entry (l : Launch) (D : va_G) (y : Nat → ClassId) (aS : Nat → Nat) (sz : Nat) (L : List Nat) (hL : ∀ k, k < 179 → k ∈ L) (ad : Nat → Nat) (N : Nat) (σ : gS) (x2 : Int64) (res : Int32) (h : fL_entry N σ x2 = some res) : Met l yL_entry (Cond.code yL_entry cL_entry 6 (some .int) :: wsL_law) ({ frames := 0, cells := 0, slots := 0, locals := 0 } : Room) (va_Pc [.ref (ad 161), .ref (ad 174), .long x2] (gI D y aS (GW L y ad σ) sz)) (va_Qi (fun (r : Int32) (_ : Unit) => r = res) (fun _ => gO D (va_A (GW L y ad σ) sz) (GW L y ad σ)) (va_A (GW L y ad σ) sz)) 0 0 (va_A (GW L y ad σ) sz) := by
  refine g_of (by decide) (Nat.le_of_ble_eq_true rfl) ?_
  intro p e s m below meth c ls A hx hb hr hml hown hg hlocks hin hsz hK hP hD hS hA hAe hl
  rw [← hAe]
  replace hown : s.vm.findClass RL = some m.cls := hown
  have hY : gY D y A s L ad σ s.heap [] := ⟨hP, hD, hS⟩
  clear hP hD hS
  replace hl : lv_has ls 6 [(0, .ref (ad 161)), (1, .ref (ad 174)), (2, .long x2)] := hl
  unfold fL_entry at h
  refine lv_iconst (v := (-1)) hx hb dL_entry_0 (by decide) ?_
  refine lv_istore (lv' := [(4, .int (-1)), (0, .ref (ad 161)), (1, .ref (ad 174)), (2, .long x2)]) hx hb dL_entry_1 hl (by decide) rfl ?_
  clear hl
  intro ls hl
  refine lv_iconst (v := 0) hx hb dL_entry_3 (by decide) ?_
  refine lv_istore (lv' := [(5, .int 0), (4, .int (-1)), (0, .ref (ad 161)), (1, .ref (ad 174)), (2, .long x2)]) hx hb dL_entry_4 hl (by decide) rfl ?_
  clear hl
  intro ls hl
  exact wL_entry_6 hx hb hr hml hown hg hlocks hK hA hL N _ _ _ hY (lv_sub hl [2, 3, 4, 1, 0] rfl) h
theorem ggS_RL_17_L_key : GoodIn wsL_law (va_wsS RL 17 yL_key (Cond.code yL_key cL_key 4 (some .long) :: wsL_law)) := g_gi (fun _ h => h) gW_good (List.forall_mem_cons.mpr ⟨⟨gw_509, rfl⟩, List.forall_mem_cons.mpr ⟨⟨gw_510, rfl⟩, List.forall_mem_cons.mpr ⟨⟨gw_162, rfl⟩, fun _ h => nomatch h⟩⟩⟩) ⟨gw_511, rfl⟩
theorem ggS_RL_21_L_entry : GoodIn wsL_law (va_wsS RL 21 yL_entry (Cond.code yL_entry cL_entry 6 (some .int) :: wsL_law)) := g_gi (fun _ h => h) gW_good (List.forall_mem_cons.mpr ⟨⟨gw_512, rfl⟩, List.forall_mem_cons.mpr ⟨⟨gw_513, rfl⟩, List.forall_mem_cons.mpr ⟨⟨gw_162, rfl⟩, fun _ h => nomatch h⟩⟩⟩) ⟨gw_514, rfl⟩
section
variable {p : Program} {l : Launch} {e : Env} {s : State} {m : MethodId} {args : Array Value} {below : List Frame} {meth : Method} {c : Code} {D : va_G} {y : Nat → ClassId} {aS : Nat → Nat} {A : Nat → Prop} {L : List Nat} {ad : Nat → Nat} {N : Nat} {res : Int32}
def fL_verdict_30 (N : Nat) (σ : gS) (xs0 : Int32) : Option Int32 := some xs0
set_option maxRecDepth 100000 in
set_option maxHeartbeats 4000000 in
theorem wL_verdict_30 {σ : gS} {xs0 : Int32} (hx : p.tables.exec = Jvm.exec) (hb : c.code = cL_verdict) (hr : meth.sig.returnType = (some .int)) (hml : c.maxLocals = 8) (hown : s.vm.findClass RL = some m.cls) (hg : ∀ w ∈ wsL_law, w.before args s = true) (hlocks : meth.locks = false) (hK : gK D y aS s) (hA : ∀ q, s.heap.size ≤ q → A q) (hL : ∀ k, k < 179 → k ∈ L) {H : Heap} {locs : List Loc} {ls : Array Slot} (hY : gY D y A s L ad σ H locs) (hl : lv_has ls 8 []) (h : fL_verdict_30 N σ xs0 = some res) : W p l e ({ frames := 2, cells := 0, slots := 0, locals := 46 } : Room) s m args below meth c H locs 0 0 (MQ below (va_Qi (fun (r : Int32) (_ : Unit) => r = res) (fun _ => gO D A (GW L y ad σ)) A) args s 0 0 A) (F0 m 30 ls [.int xs0]) := by
  unfold fL_verdict_30 at h
  cases h
  exact g_iret hx hb hr hlocks () hY.1 hY.2.1 hY.2.2 rfl rfl (Nat.le_of_ble_eq_true rfl) (Nat.le_of_ble_eq_true rfl) dL_verdict_30
end
def fL_verdict (N : Nat) (σ : gS) (x4 : Int32) (x5 : Int64) : Option Int32 := (fL_key N σ x4 x5).bind fun r_1 => (fL_entry N σ r_1).bind fun r_3 => if 0 ≤ r_3 then (if r_3 < 0 ∨ 64 ≤ r_3.toNatClampNeg then none else (fL_verdict_30 N σ ((σ.1 175 r_3.toNatClampNeg) - (σ.1 175 r_3.toNatClampNeg) / 4 * 4))) else (fL_verdict_30 N σ 0)
set_option maxRecDepth 100000 in
set_option maxHeartbeats 4000000 in
theorem kL_verdict (l : Launch) (D : va_G) (y : Nat → ClassId) (aS : Nat → Nat) (sz : Nat) (L : List Nat) (hL : ∀ k, k < 179 → k ∈ L) (ad : Nat → Nat) (N : Nat) (σ : gS) (x4 : Int32) (x5 : Int64) (res : Int32) (h : fL_verdict N σ x4 x5 = some res) : Met l yL_verdict (Cond.code yL_verdict cL_verdict 8 (some .int) :: wsL_law) ({ frames := 2, cells := 0, slots := 0, locals := 46 } : Room) (va_Pc [.ref (ad 161), .ref (ad 172), .ref (ad 174), .ref (ad 175), .int x4, .long x5] (gI D y aS (GW L y ad σ) sz)) (va_Qi (fun (r : Int32) (_ : Unit) => r = res) (fun _ => gO D (va_A (GW L y ad σ) sz) (GW L y ad σ)) (va_A (GW L y ad σ) sz)) 0 0 (va_A (GW L y ad σ) sz) := by
  refine g_of (by decide) (Nat.le_of_ble_eq_true rfl) ?_
  intro p e s m below meth c ls A hx hb hr hml hown hg hlocks hin hsz hK hP hD hS hA hAe hl
  rw [← hAe]
  replace hown : s.vm.findClass RL = some m.cls := hown
  have hY : gY D y A s L ad σ s.heap [] := ⟨hP, hD, hS⟩
  clear hP hD hS
  replace hl : lv_has ls 8 [(0, .ref (ad 161)), (1, .ref (ad 172)), (2, .ref (ad 174)), (3, .ref (ad 175)), (4, .int x4), (5, .long x5)] := hl
  unfold fL_verdict at h
  refine lv_aload_n hx hb dL_verdict_0 rfl (lv_at hl 0 rfl) ?_
  refine lv_aload_n hx hb dL_verdict_1 rfl (lv_at hl 2 rfl) ?_
  refine lv_aload_n hx hb dL_verdict_2 rfl (lv_at hl 1 rfl) ?_
  refine lv_iload hx hb dL_verdict_3 (lv_at hl 4 rfl) ?_
  refine lv_lload hx hb dL_verdict_5 (lv_at hl 5 rfl) ?_
  obtain ⟨r_1, e_2, h⟩ := g_bind h
  refine G_al hY hA (va_runS (As := [.ref (ad 172), .int x4, .long x5]) (rest := [.ref (ad 174), .ref (ad 161)]) ⟨hx, hb, hml, hown, hg⟩ (kL_key l D y aS s.heap.size L hL ad N σ x4 x5 _ e_2) (va_cwS 3 hg ggS_RL_17_L_key rfl rfl rfl (by decide +kernel) ⟨Nat.le_of_ble_eq_true rfl, Nat.le_of_ble_eq_true rfl⟩) (G_pS hK hY) rfl rfl hl.1 rfl (lv_room (Nat.le_of_ble_eq_true rfl)) dL_verdict_7 ⟨Nat.le_of_ble_eq_true rfl, Nat.le_of_ble_eq_true rfl⟩) ?_
  clear hY
  rintro _ H locs rfl hY
  obtain ⟨r_3, e_4, h⟩ := g_bind h
  refine G_ai hY hA (va_runS (As := [.ref (ad 161), .ref (ad 174), .long r_1]) (rest := []) ⟨hx, hb, hml, hown, hg⟩ (kL_entry l D y aS H.size L hL ad N σ r_1 _ e_4) (va_cwS 3 hg ggS_RL_21_L_entry rfl rfl rfl (by decide +kernel) ⟨Nat.le_of_ble_eq_true rfl, Nat.le_of_ble_eq_true rfl⟩) (G_pS hK hY) rfl rfl hl.1 rfl (lv_room (Nat.le_of_ble_eq_true rfl)) dL_verdict_10 ⟨Nat.le_of_ble_eq_true rfl, Nat.le_of_ble_eq_true rfl⟩) ?_
  clear hY
  rintro _ H locs rfl hY
  refine lv_istore (lv' := [(7, .int r_3), (0, .ref (ad 161)), (1, .ref (ad 172)), (2, .ref (ad 174)), (3, .ref (ad 175)), (4, .int x4), (5, .long x5)]) hx hb dL_verdict_13 hl (by decide) rfl ?_
  clear hl
  intro ls hl
  refine lv_iload hx hb dL_verdict_15 (lv_at hl 0 rfl) ?_
  refine lv_if_ge (tgt := 24) hx hb dL_verdict_17 (by decide) (fun z_5 => ?_) (fun z_5 => ?_)
  ·
    rw [if_pos z_5] at h
    refine lv_aload_n hx hb dL_verdict_24 rfl (lv_at hl 4 rfl) ?_
    refine lv_iload hx hb dL_verdict_25 (lv_at hl 0 rfl) ?_
    obtain ⟨z_6, h⟩ := g_guard h
    refine G_iald (j := r_3.toNatClampNeg) hx hb hK hY (hL 175 (by decide)) gk_175 (by rw [gl_175]; exact z_6) rfl dL_verdict_27 ?_
    refine lv_iconst (v := 4) hx hb dL_verdict_28 (by decide) ?_
    refine lv_irem hx hb dL_verdict_29 (by decide +kernel) ?_
    exact wL_verdict_30 hx hb hr hml hown hg hlocks hK hA hL hY (lv_sub hl [] rfl) h
  ·
    rw [if_neg z_5] at h
    refine lv_iconst (v := 0) hx hb dL_verdict_20 (by decide) ?_
    refine lv_goto (tgt := 30) hx hb dL_verdict_21 (by decide) ?_
    exact wL_verdict_30 hx hb hr hml hown hg hlocks hK hA hL hY (lv_sub hl [] rfl) h
theorem ggS_RL_25_L_verdict : GoodIn wsL_law (va_wsS RL 25 yL_verdict (Cond.code yL_verdict cL_verdict 8 (some .int) :: wsL_law)) := g_gi (fun _ h => h) gW_good (List.forall_mem_cons.mpr ⟨⟨gw_506, rfl⟩, List.forall_mem_cons.mpr ⟨⟨gw_507, rfl⟩, List.forall_mem_cons.mpr ⟨⟨gw_162, rfl⟩, fun _ h => nomatch h⟩⟩⟩) ⟨gw_508, rfl⟩
section
variable {p : Program} {l : Launch} {e : Env} {s : State} {m : MethodId} {args : Array Value} {below : List Frame} {meth : Method} {c : Code} {D : va_G} {y : Nat → ClassId} {aS : Nat → Nat} {A : Nat → Prop} {L : List Nat} {ad : Nat → Nat} {N : Nat} {res : Int32}
def fL_verdicts_101 (N : Nat) (σ : gS) (xs0 : Int32) : Option Int32 := some xs0
set_option maxRecDepth 100000 in
set_option maxHeartbeats 4000000 in
theorem wL_verdicts_101 {σ : gS} {xs0 : Int32} (hx : p.tables.exec = Jvm.exec) (hb : c.code = cL_verdicts) (hr : meth.sig.returnType = (some .int)) (hml : c.maxLocals = 11) (hown : s.vm.findClass RL = some m.cls) (hg : ∀ w ∈ wsL_law, w.before args s = true) (hlocks : meth.locks = false) (hK : gK D y aS s) (hA : ∀ q, s.heap.size ≤ q → A q) (hL : ∀ k, k < 179 → k ∈ L) {H : Heap} {locs : List Loc} {ls : Array Slot} (hY : gY D y A s L ad σ H locs) (hl : lv_has ls 11 []) (h : fL_verdicts_101 N σ xs0 = some res) : W p l e ({ frames := 3, cells := 0, slots := 0, locals := 73 } : Room) s m args below meth c H locs 0 0 (MQ below (va_Qi (fun (r : Int32) (_ : Unit) => r = res) (fun _ => gO D A (GW L y ad σ)) A) args s 0 0 A) (F0 m 101 ls [.int xs0]) := by
  unfold fL_verdicts_101 at h
  cases h
  exact g_iret hx hb hr hlocks () hY.1 hY.2.1 hY.2.2 rfl rfl (Nat.le_of_ble_eq_true rfl) (Nat.le_of_ble_eq_true rfl) dL_verdicts_101
def fL_verdicts_73 (N : Nat) (rec9 : (Int32 × Int32 × Int32) → Option Int32) (σ : gS) (x4 : Int32) (x5 : Int64) (x7 : Int32) (x9 : Int32) (xs0 : Int32) (xs1 : Int32) : Option Int32 := rec9 (x7, (xs1 + xs0), (x9 + 1))
set_option maxRecDepth 100000 in
set_option maxHeartbeats 4000000 in
theorem wL_verdicts_73 {rec9 : (Int32 × Int32 × Int32) → Option Int32} {σ : gS} {x4 : Int32} {x5 : Int64} {x7 : Int32} {x9 : Int32} {xs0 : Int32} {xs1 : Int32} (hx : p.tables.exec = Jvm.exec) (hb : c.code = cL_verdicts) (hr : meth.sig.returnType = (some .int)) (hml : c.maxLocals = 11) (hown : s.vm.findClass RL = some m.cls) (hg : ∀ w ∈ wsL_law, w.before args s = true) (hlocks : meth.locks = false) (hK : gK D y aS s) (hA : ∀ q, s.heap.size ≤ q → A q) (hL : ∀ k, k < 179 → k ∈ L) (hrec9 : ∀ {x7n9 : Int32} {x8n9 : Int32} {x9n9 : Int32} (H : Heap) (locs : List Loc) (ls : Array Slot), gY D y A s L ad σ H locs → lv_has ls 11 [(0, .ref (ad 161)), (1, .ref (ad 172)), (2, .ref (ad 174)), (3, .ref (ad 175)), (4, .int x4), (5, .long x5), (7, .int x7n9), (8, .int x8n9), (9, .int x9n9)] → rec9 (x7n9, x8n9, x9n9) = some res → W p l e ({ frames := 3, cells := 0, slots := 0, locals := 73 } : Room) s m args below meth c H locs 0 0 (MQ below (va_Qi (fun (r : Int32) (_ : Unit) => r = res) (fun _ => gO D A (GW L y ad σ)) A) args s 0 0 A) (F0 m 9 ls [])) {H : Heap} {locs : List Loc} {ls : Array Slot} (hY : gY D y A s L ad σ H locs) (hl : lv_has ls 11 [(0, .ref (ad 161)), (1, .ref (ad 172)), (2, .ref (ad 174)), (3, .ref (ad 175)), (4, .int x4), (5, .long x5), (7, .int x7), (9, .int x9)]) (h : fL_verdicts_73 N rec9 σ x4 x5 x7 x9 xs0 xs1 = some res) : W p l e ({ frames := 3, cells := 0, slots := 0, locals := 73 } : Room) s m args below meth c H locs 0 0 (MQ below (va_Qi (fun (r : Int32) (_ : Unit) => r = res) (fun _ => gO D A (GW L y ad σ)) A) args s 0 0 A) (F0 m 73 ls [.int xs0, .int xs1]) := by
  unfold fL_verdicts_73 at h
  refine lv_iadd hx hb dL_verdicts_73 ?_
  refine lv_istore (lv' := [(8, .int (xs1 + xs0)), (0, .ref (ad 161)), (1, .ref (ad 172)), (2, .ref (ad 174)), (3, .ref (ad 175)), (4, .int x4), (5, .long x5), (7, .int x7), (9, .int x9)]) hx hb dL_verdicts_74 hl (by decide) rfl ?_
  clear hl
  intro ls hl
  refine lv_iinc (v := (x9 + 1)) (lv' := [(9, .int (x9 + 1)), (8, .int (xs1 + xs0)), (0, .ref (ad 161)), (1, .ref (ad 172)), (2, .ref (ad 174)), (3, .ref (ad 175)), (4, .int x4), (5, .long x5), (7, .int x7)]) hx hb dL_verdicts_76 hl (k := 8) rfl rfl (by decide) rfl ?_
  clear hl
  intro ls hl
  refine lv_goto (tgt := 9) hx hb dL_verdicts_79 (by decide) ?_
  exact hrec9 _ _ _ hY (lv_sub hl [2, 3, 4, 5, 6, 7, 8, 1, 0] rfl) h
def fL_verdicts_57 (N : Nat) (rec9 : (Int32 × Int32 × Int32) → Option Int32) (σ : gS) (x4 : Int32) (x5 : Int64) (x8 : Int32) (x9 : Int32) (x10 : Int32) (xs0 : Int32) (xs1 : Int32) : Option Int32 := if x10 = 2 then (fL_verdicts_73 N rec9 σ x4 x5 (xs1 + xs0) x9 1 x8) else (fL_verdicts_73 N rec9 σ x4 x5 (xs1 + xs0) x9 0 x8)
set_option maxRecDepth 100000 in
set_option maxHeartbeats 4000000 in
theorem wL_verdicts_57 {rec9 : (Int32 × Int32 × Int32) → Option Int32} {σ : gS} {x4 : Int32} {x5 : Int64} {x8 : Int32} {x9 : Int32} {x10 : Int32} {xs0 : Int32} {xs1 : Int32} (hx : p.tables.exec = Jvm.exec) (hb : c.code = cL_verdicts) (hr : meth.sig.returnType = (some .int)) (hml : c.maxLocals = 11) (hown : s.vm.findClass RL = some m.cls) (hg : ∀ w ∈ wsL_law, w.before args s = true) (hlocks : meth.locks = false) (hK : gK D y aS s) (hA : ∀ q, s.heap.size ≤ q → A q) (hL : ∀ k, k < 179 → k ∈ L) (hrec9 : ∀ {x7n9 : Int32} {x8n9 : Int32} {x9n9 : Int32} (H : Heap) (locs : List Loc) (ls : Array Slot), gY D y A s L ad σ H locs → lv_has ls 11 [(0, .ref (ad 161)), (1, .ref (ad 172)), (2, .ref (ad 174)), (3, .ref (ad 175)), (4, .int x4), (5, .long x5), (7, .int x7n9), (8, .int x8n9), (9, .int x9n9)] → rec9 (x7n9, x8n9, x9n9) = some res → W p l e ({ frames := 3, cells := 0, slots := 0, locals := 73 } : Room) s m args below meth c H locs 0 0 (MQ below (va_Qi (fun (r : Int32) (_ : Unit) => r = res) (fun _ => gO D A (GW L y ad σ)) A) args s 0 0 A) (F0 m 9 ls [])) {H : Heap} {locs : List Loc} {ls : Array Slot} (hY : gY D y A s L ad σ H locs) (hl : lv_has ls 11 [(0, .ref (ad 161)), (1, .ref (ad 172)), (2, .ref (ad 174)), (3, .ref (ad 175)), (4, .int x4), (5, .long x5), (8, .int x8), (9, .int x9), (10, .int x10)]) (h : fL_verdicts_57 N rec9 σ x4 x5 x8 x9 x10 xs0 xs1 = some res) : W p l e ({ frames := 3, cells := 0, slots := 0, locals := 73 } : Room) s m args below meth c H locs 0 0 (MQ below (va_Qi (fun (r : Int32) (_ : Unit) => r = res) (fun _ => gO D A (GW L y ad σ)) A) args s 0 0 A) (F0 m 57 ls [.int xs0, .int xs1]) := by
  unfold fL_verdicts_57 at h
  refine lv_iadd hx hb dL_verdicts_57 ?_
  refine lv_istore (lv' := [(7, .int (xs1 + xs0)), (0, .ref (ad 161)), (1, .ref (ad 172)), (2, .ref (ad 174)), (3, .ref (ad 175)), (4, .int x4), (5, .long x5), (8, .int x8), (9, .int x9), (10, .int x10)]) hx hb dL_verdicts_58 hl (by decide) rfl ?_
  clear hl
  intro ls hl
  refine lv_iload hx hb dL_verdicts_60 (lv_at hl 7 rfl) ?_
  refine lv_iload hx hb dL_verdicts_62 (lv_at hl 9 rfl) ?_
  refine lv_iconst (v := 2) hx hb dL_verdicts_64 (by decide) ?_
  refine lv_icmp_ne (tgt := 72) hx hb dL_verdicts_65 (by decide) (fun z_1 => ?_) (fun z_1 => ?_)
  ·
    rw [if_neg z_1] at h
    refine lv_iconst (v := 0) hx hb dL_verdicts_72 (by decide) ?_
    exact wL_verdicts_73 hx hb hr hml hown hg hlocks hK hA hL hrec9 hY (lv_sub hl [1, 2, 3, 4, 5, 6, 0, 8] rfl) h
  ·
    rw [if_pos z_1] at h
    refine lv_iconst (v := 1) hx hb dL_verdicts_68 (by decide) ?_
    refine lv_goto (tgt := 73) hx hb dL_verdicts_69 (by decide) ?_
    exact wL_verdicts_73 hx hb hr hml hown hg hlocks hK hA hL hrec9 hY (lv_sub hl [1, 2, 3, 4, 5, 6, 0, 8] rfl) h
def fL_verdicts_43 (N : Nat) (rec9 : (Int32 × Int32 × Int32) → Option Int32) (σ : gS) (x4 : Int32) (x5 : Int64) (x7 : Int32) (x8 : Int32) (x9 : Int32) (xs0 : Int32) : Option Int32 := if xs0 = 0 then (fL_verdicts_57 N rec9 σ x4 x5 x8 x9 xs0 1 x7) else (fL_verdicts_57 N rec9 σ x4 x5 x8 x9 xs0 0 x7)
set_option maxRecDepth 100000 in
set_option maxHeartbeats 4000000 in
theorem wL_verdicts_43 {rec9 : (Int32 × Int32 × Int32) → Option Int32} {σ : gS} {x4 : Int32} {x5 : Int64} {x7 : Int32} {x8 : Int32} {x9 : Int32} {xs0 : Int32} (hx : p.tables.exec = Jvm.exec) (hb : c.code = cL_verdicts) (hr : meth.sig.returnType = (some .int)) (hml : c.maxLocals = 11) (hown : s.vm.findClass RL = some m.cls) (hg : ∀ w ∈ wsL_law, w.before args s = true) (hlocks : meth.locks = false) (hK : gK D y aS s) (hA : ∀ q, s.heap.size ≤ q → A q) (hL : ∀ k, k < 179 → k ∈ L) (hrec9 : ∀ {x7n9 : Int32} {x8n9 : Int32} {x9n9 : Int32} (H : Heap) (locs : List Loc) (ls : Array Slot), gY D y A s L ad σ H locs → lv_has ls 11 [(0, .ref (ad 161)), (1, .ref (ad 172)), (2, .ref (ad 174)), (3, .ref (ad 175)), (4, .int x4), (5, .long x5), (7, .int x7n9), (8, .int x8n9), (9, .int x9n9)] → rec9 (x7n9, x8n9, x9n9) = some res → W p l e ({ frames := 3, cells := 0, slots := 0, locals := 73 } : Room) s m args below meth c H locs 0 0 (MQ below (va_Qi (fun (r : Int32) (_ : Unit) => r = res) (fun _ => gO D A (GW L y ad σ)) A) args s 0 0 A) (F0 m 9 ls [])) {H : Heap} {locs : List Loc} {ls : Array Slot} (hY : gY D y A s L ad σ H locs) (hl : lv_has ls 11 [(0, .ref (ad 161)), (1, .ref (ad 172)), (2, .ref (ad 174)), (3, .ref (ad 175)), (4, .int x4), (5, .long x5), (7, .int x7), (8, .int x8), (9, .int x9)]) (h : fL_verdicts_43 N rec9 σ x4 x5 x7 x8 x9 xs0 = some res) : W p l e ({ frames := 3, cells := 0, slots := 0, locals := 73 } : Room) s m args below meth c H locs 0 0 (MQ below (va_Qi (fun (r : Int32) (_ : Unit) => r = res) (fun _ => gO D A (GW L y ad σ)) A) args s 0 0 A) (F0 m 43 ls [.int xs0]) := by
  unfold fL_verdicts_43 at h
  refine lv_istore (lv' := [(10, .int xs0), (0, .ref (ad 161)), (1, .ref (ad 172)), (2, .ref (ad 174)), (3, .ref (ad 175)), (4, .int x4), (5, .long x5), (7, .int x7), (8, .int x8), (9, .int x9)]) hx hb dL_verdicts_43 hl (by decide) rfl ?_
  clear hl
  intro ls hl
  refine lv_iload hx hb dL_verdicts_45 (lv_at hl 7 rfl) ?_
  refine lv_iload hx hb dL_verdicts_47 (lv_at hl 0 rfl) ?_
  refine lv_if_ne (tgt := 56) hx hb dL_verdicts_49 (by decide) (fun z_1 => ?_) (fun z_1 => ?_)
  ·
    rw [if_neg z_1] at h
    refine lv_iconst (v := 0) hx hb dL_verdicts_56 (by decide) ?_
    exact wL_verdicts_57 hx hb hr hml hown hg hlocks hK hA hL hrec9 hY (lv_sub hl [1, 2, 3, 4, 5, 6, 8, 9, 0] rfl) h
  ·
    rw [if_pos z_1] at h
    refine lv_iconst (v := 1) hx hb dL_verdicts_52 (by decide) ?_
    refine lv_goto (tgt := 57) hx hb dL_verdicts_53 (by decide) ?_
    exact wL_verdicts_57 hx hb hr hml hown hg hlocks hK hA hL hrec9 hY (lv_sub hl [1, 2, 3, 4, 5, 6, 8, 9, 0] rfl) h
def fL_verdicts_9 (N : Nat) (σ : gS) (x4 : Int32) (x5 : Int64) (rec9 : (Int32 × Int32 × Int32) → Option Int32) (xx : Int32 × Int32 × Int32) : Option Int32 := match xx with
  | (x7, x8, x9) => if (σ.1 161 2) ≤ x9 then (if x8 ≤ 0 then (if x7 ≤ 0 then (fL_verdicts_101 N σ 1) else (fL_verdicts_101 N σ 0)) else (fL_verdicts_101 N σ 2)) else (if ((x4 >>> (x9 &&& 31)) &&& 1) = 1 then ((fL_verdict N σ x9 x5).bind fun r_5 => fL_verdicts_43 N rec9 σ x4 x5 x7 x8 x9 r_5) else (fL_verdicts_43 N rec9 σ x4 x5 x7 x8 x9 1))
set_option maxRecDepth 100000 in
set_option maxHeartbeats 4000000 in
theorem wL_verdicts_9 {σ : gS} {x4 : Int32} {x5 : Int64} (hx : p.tables.exec = Jvm.exec) (hb : c.code = cL_verdicts) (hr : meth.sig.returnType = (some .int)) (hml : c.maxLocals = 11) (hown : s.vm.findClass RL = some m.cls) (hg : ∀ w ∈ wsL_law, w.before args s = true) (hlocks : meth.locks = false) (hK : gK D y aS s) (hA : ∀ q, s.heap.size ≤ q → A q) (hL : ∀ k, k < 179 → k ∈ L) : ∀ (n : Nat) {x7 : Int32} {x8 : Int32} {x9 : Int32} (H : Heap) (locs : List Loc) (ls : Array Slot), gY D y A s L ad σ H locs → lv_has ls 11 [(0, .ref (ad 161)), (1, .ref (ad 172)), (2, .ref (ad 174)), (3, .ref (ad 175)), (4, .int x4), (5, .long x5), (7, .int x7), (8, .int x8), (9, .int x9)] → lp (fL_verdicts_9 N σ x4 x5) n (x7, x8, x9) = some res → W p l e ({ frames := 3, cells := 0, slots := 0, locals := 73 } : Room) s m args below meth c H locs 0 0 (MQ below (va_Qi (fun (r : Int32) (_ : Unit) => r = res) (fun _ => gO D A (GW L y ad σ)) A) args s 0 0 A) (F0 m 9 ls []) := by
  intro n
  induction n with
  | zero => intro x7 x8 x9 H locs ls hY hl h; exact nomatch (show none = some res from h)
  | succ n hrec9 =>
    intro x7 x8 x9 H locs ls hY hl h
    replace h : fL_verdicts_9 N σ x4 x5 (lp (fL_verdicts_9 N σ x4 x5) n) (x7, x8, x9) = some res := h
    generalize lp (fL_verdicts_9 N σ x4 x5) n = rec9 at h hrec9
    unfold fL_verdicts_9 at h
    try dsimp only at h
    refine lv_iload hx hb dL_verdicts_9 (lv_at hl 8 rfl) ?_
    refine lv_aload_n hx hb dL_verdicts_11 rfl (lv_at hl 0 rfl) ?_
    refine lv_iconst (v := 2) hx hb dL_verdicts_12 (by decide) ?_
    refine G_iald (j := 2) hx hb hK hY (hL 161 (by decide)) gk_161 (by rw [gl_161]; decide +kernel) (by decide +kernel) dL_verdicts_13 ?_
    refine lv_icmp_ge (tgt := 82) hx hb dL_verdicts_14 (by decide) (fun z_1 => ?_) (fun z_1 => ?_)
    ·
      rw [if_pos z_1] at h
      refine lv_iload hx hb dL_verdicts_82 (lv_at hl 7 rfl) ?_
      refine lv_if_le (tgt := 91) hx hb dL_verdicts_84 (by decide) (fun z_2 => ?_) (fun z_2 => ?_)
      ·
        rw [if_pos z_2] at h
        refine lv_iload hx hb dL_verdicts_91 (lv_at hl 6 rfl) ?_
        refine lv_if_le (tgt := 100) hx hb dL_verdicts_93 (by decide) (fun z_3 => ?_) (fun z_3 => ?_)
        ·
          rw [if_pos z_3] at h
          refine lv_iconst (v := 1) hx hb dL_verdicts_100 (by decide) ?_
          exact wL_verdicts_101 hx hb hr hml hown hg hlocks hK hA hL hY (lv_sub hl [] rfl) h
        ·
          rw [if_neg z_3] at h
          refine lv_iconst (v := 0) hx hb dL_verdicts_96 (by decide) ?_
          refine lv_goto (tgt := 101) hx hb dL_verdicts_97 (by decide) ?_
          exact wL_verdicts_101 hx hb hr hml hown hg hlocks hK hA hL hY (lv_sub hl [] rfl) h
      ·
        rw [if_neg z_2] at h
        refine lv_iconst (v := 2) hx hb dL_verdicts_87 (by decide) ?_
        refine lv_goto (tgt := 101) hx hb dL_verdicts_88 (by decide) ?_
        exact wL_verdicts_101 hx hb hr hml hown hg hlocks hK hA hL hY (lv_sub hl [] rfl) h
    ·
      rw [if_neg z_1] at h
      refine lv_iload hx hb dL_verdicts_17 (lv_at hl 4 rfl) ?_
      refine lv_iload hx hb dL_verdicts_19 (lv_at hl 8 rfl) ?_
      refine lv_ishr hx hb dL_verdicts_21 ?_
      refine lv_iconst (v := 1) hx hb dL_verdicts_22 (by decide) ?_
      refine lv_iand hx hb dL_verdicts_23 ?_
      refine lv_iconst (v := 1) hx hb dL_verdicts_24 (by decide) ?_
      refine lv_icmp_ne (tgt := 42) hx hb dL_verdicts_25 (by decide) (fun z_4 => ?_) (fun z_4 => ?_)
      ·
        rw [if_neg z_4] at h
        refine lv_iconst (v := 1) hx hb dL_verdicts_42 (by decide) ?_
        exact wL_verdicts_43 hx hb hr hml hown hg hlocks hK hA hL hrec9 hY (lv_sub hl [0, 1, 2, 3, 4, 5, 6, 7, 8] rfl) h
      ·
        rw [if_pos z_4] at h
        refine lv_aload_n hx hb dL_verdicts_28 rfl (lv_at hl 0 rfl) ?_
        refine lv_aload_n hx hb dL_verdicts_29 rfl (lv_at hl 1 rfl) ?_
        refine lv_aload_n hx hb dL_verdicts_30 rfl (lv_at hl 2 rfl) ?_
        refine lv_aload_n hx hb dL_verdicts_31 rfl (lv_at hl 3 rfl) ?_
        refine lv_iload hx hb dL_verdicts_32 (lv_at hl 8 rfl) ?_
        refine lv_lload hx hb dL_verdicts_34 (lv_at hl 5 rfl) ?_
        obtain ⟨r_5, e_6, h⟩ := g_bind h
        refine G_ai hY hA (va_runS (As := [.ref (ad 161), .ref (ad 172), .ref (ad 174), .ref (ad 175), .int x9, .long x5]) (rest := []) ⟨hx, hb, hml, hown, hg⟩ (kL_verdict l D y aS H.size L hL ad N σ x9 x5 _ e_6) (va_cwS 6 hg ggS_RL_25_L_verdict rfl rfl rfl (by decide +kernel) ⟨Nat.le_of_ble_eq_true rfl, Nat.le_of_ble_eq_true rfl⟩) (G_pS hK hY) rfl rfl hl.1 rfl (lv_room (Nat.le_of_ble_eq_true rfl)) dL_verdicts_36 ⟨Nat.le_of_ble_eq_true rfl, Nat.le_of_ble_eq_true rfl⟩) ?_
        clear hY
        rintro _ H locs rfl hY
        refine lv_goto (tgt := 43) hx hb dL_verdicts_39 (by decide) ?_
        exact wL_verdicts_43 hx hb hr hml hown hg hlocks hK hA hL hrec9 hY (lv_sub hl [0, 1, 2, 3, 4, 5, 6, 7, 8] rfl) h
end
def fL_verdicts (N : Nat) (σ : gS) (x4 : Int32) (x5 : Int64) : Option Int32 := lp (fL_verdicts_9 N σ x4 x5) N (0, 0, 0)
set_option maxRecDepth 100000 in
set_option maxHeartbeats 4000000 in
theorem kL_verdicts (l : Launch) (D : va_G) (y : Nat → ClassId) (aS : Nat → Nat) (sz : Nat) (L : List Nat) (hL : ∀ k, k < 179 → k ∈ L) (ad : Nat → Nat) (N : Nat) (σ : gS) (x4 : Int32) (x5 : Int64) (res : Int32) (h : fL_verdicts N σ x4 x5 = some res) : Met l yL_verdicts (Cond.code yL_verdicts cL_verdicts 11 (some .int) :: wsL_law) ({ frames := 3, cells := 0, slots := 0, locals := 73 } : Room) (va_Pc [.ref (ad 161), .ref (ad 172), .ref (ad 174), .ref (ad 175), .int x4, .long x5] (gI D y aS (GW L y ad σ) sz)) (va_Qi (fun (r : Int32) (_ : Unit) => r = res) (fun _ => gO D (va_A (GW L y ad σ) sz) (GW L y ad σ)) (va_A (GW L y ad σ) sz)) 0 0 (va_A (GW L y ad σ) sz) := by
  refine g_of (by decide) (Nat.le_of_ble_eq_true rfl) ?_
  intro p e s m below meth c ls A hx hb hr hml hown hg hlocks hin hsz hK hP hD hS hA hAe hl
  rw [← hAe]
  replace hown : s.vm.findClass RL = some m.cls := hown
  have hY : gY D y A s L ad σ s.heap [] := ⟨hP, hD, hS⟩
  clear hP hD hS
  replace hl : lv_has ls 11 [(0, .ref (ad 161)), (1, .ref (ad 172)), (2, .ref (ad 174)), (3, .ref (ad 175)), (4, .int x4), (5, .long x5)] := hl
  unfold fL_verdicts at h
  refine lv_iconst (v := 0) hx hb dL_verdicts_0 (by decide) ?_
  refine lv_istore (lv' := [(7, .int 0), (0, .ref (ad 161)), (1, .ref (ad 172)), (2, .ref (ad 174)), (3, .ref (ad 175)), (4, .int x4), (5, .long x5)]) hx hb dL_verdicts_1 hl (by decide) rfl ?_
  clear hl
  intro ls hl
  refine lv_iconst (v := 0) hx hb dL_verdicts_3 (by decide) ?_
  refine lv_istore (lv' := [(8, .int 0), (7, .int 0), (0, .ref (ad 161)), (1, .ref (ad 172)), (2, .ref (ad 174)), (3, .ref (ad 175)), (4, .int x4), (5, .long x5)]) hx hb dL_verdicts_4 hl (by decide) rfl ?_
  clear hl
  intro ls hl
  refine lv_iconst (v := 0) hx hb dL_verdicts_6 (by decide) ?_
  refine lv_istore (lv' := [(9, .int 0), (8, .int 0), (7, .int 0), (0, .ref (ad 161)), (1, .ref (ad 172)), (2, .ref (ad 174)), (3, .ref (ad 175)), (4, .int x4), (5, .long x5)]) hx hb dL_verdicts_7 hl (by decide) rfl ?_
  clear hl
  intro ls hl
  exact wL_verdicts_9 hx hb hr hml hown hg hlocks hK hA hL N _ _ _ hY (lv_sub hl [3, 4, 5, 6, 7, 8, 2, 1, 0] rfl) h
theorem ggS_RL_29_L_at : GoodIn wsL_law (va_wsS RL 29 yL_at (Cond.code yL_at cL_at 3 (some .int) :: wsL_law)) := g_gi (fun _ h => h) gW_good (List.forall_mem_cons.mpr ⟨⟨gw_483, rfl⟩, List.forall_mem_cons.mpr ⟨⟨gw_484, rfl⟩, List.forall_mem_cons.mpr ⟨⟨gw_162, rfl⟩, fun _ h => nomatch h⟩⟩⟩) ⟨gw_485, rfl⟩
section
variable {p : Program} {l : Launch} {e : Env} {s : State} {m : MethodId} {args : Array Value} {below : List Frame} {meth : Method} {c : Code} {D : va_G} {y : Nat → ClassId} {aS : Nat → Nat} {A : Nat → Prop} {L : List Nat} {ad : Nat → Nat} {N : Nat} {res : Int32}
def fL_fails_212 (N : Nat) (σ : gS) (xs0 : Int32) : Option Int32 := if ¬ (xs0 = 0 ∨ xs0 = 1) then none else (some xs0)
set_option maxRecDepth 100000 in
set_option maxHeartbeats 4000000 in
theorem wL_fails_212 {σ : gS} {xs0 : Int32} (hx : p.tables.exec = Jvm.exec) (hb : c.code = cL_fails) (hr : meth.sig.returnType = (some .boolean)) (hml : c.maxLocals = 10) (hown : s.vm.findClass RL = some m.cls) (hg : ∀ w ∈ wsL_law, w.before args s = true) (hlocks : meth.locks = false) (hK : gK D y aS s) (hA : ∀ q, s.heap.size ≤ q → A q) (hL : ∀ k, k < 179 → k ∈ L) {H : Heap} {locs : List Loc} {ls : Array Slot} (hY : gY D y A s L ad σ H locs) (hl : lv_has ls 10 []) (h : fL_fails_212 N σ xs0 = some res) : W p l e ({ frames := 1, cells := 0, slots := 0, locals := 22 } : Room) s m args below meth c H locs 0 0 (MQ below (va_Qi (fun (r : Int32) (_ : Unit) => r = res) (fun _ => gO D A (GW L y ad σ)) A) args s 0 0 A) (F0 m 212 ls [.int xs0]) := by
  unfold fL_fails_212 at h
  obtain ⟨z_1, h⟩ := g_guard h
  cases h
  exact g_iret hx hb hr hlocks () hY.1 hY.2.1 hY.2.2 (g_nz (Classical.not_not.mp z_1)) rfl (Nat.le_of_ble_eq_true rfl) (Nat.le_of_ble_eq_true rfl) dL_fails_212
def fL_fails_207 (N : Nat) (σ : gS) : Option Int32 := fL_fails_212 N σ 1
set_option maxRecDepth 100000 in
set_option maxHeartbeats 4000000 in
theorem wL_fails_207 {σ : gS} (hx : p.tables.exec = Jvm.exec) (hb : c.code = cL_fails) (hr : meth.sig.returnType = (some .boolean)) (hml : c.maxLocals = 10) (hown : s.vm.findClass RL = some m.cls) (hg : ∀ w ∈ wsL_law, w.before args s = true) (hlocks : meth.locks = false) (hK : gK D y aS s) (hA : ∀ q, s.heap.size ≤ q → A q) (hL : ∀ k, k < 179 → k ∈ L) {H : Heap} {locs : List Loc} {ls : Array Slot} (hY : gY D y A s L ad σ H locs) (hl : lv_has ls 10 []) (h : fL_fails_207 N σ = some res) : W p l e ({ frames := 1, cells := 0, slots := 0, locals := 22 } : Room) s m args below meth c H locs 0 0 (MQ below (va_Qi (fun (r : Int32) (_ : Unit) => r = res) (fun _ => gO D A (GW L y ad σ)) A) args s 0 0 A) (F0 m 207 ls []) := by
  unfold fL_fails_207 at h
  refine lv_iconst (v := 1) hx hb dL_fails_207 (by decide) ?_
  refine lv_goto (tgt := 212) hx hb dL_fails_208 (by decide) ?_
  exact wL_fails_212 hx hb hr hml hown hg hlocks hK hA hL hY (lv_sub hl [] rfl) h
def fL_fails_160 (N : Nat) (rec85 : (Int32 × Int32) → Option Int32) (σ : gS) (x2 : Int64) (x4 : Int32) (x5 : Int32) (x7 : Int32) (x8 : Int32) (xs0 : Int32) : Option Int32 := rec85 (xs0, (x8 + 1))
set_option maxRecDepth 100000 in
set_option maxHeartbeats 4000000 in
theorem wL_fails_160 {rec85 : (Int32 × Int32) → Option Int32} {σ : gS} {x2 : Int64} {x4 : Int32} {x5 : Int32} {x7 : Int32} {x8 : Int32} {xs0 : Int32} (hx : p.tables.exec = Jvm.exec) (hb : c.code = cL_fails) (hr : meth.sig.returnType = (some .boolean)) (hml : c.maxLocals = 10) (hown : s.vm.findClass RL = some m.cls) (hg : ∀ w ∈ wsL_law, w.before args s = true) (hlocks : meth.locks = false) (hK : gK D y aS s) (hA : ∀ q, s.heap.size ≤ q → A q) (hL : ∀ k, k < 179 → k ∈ L) (hrec85 : ∀ {x6n9 : Int32} {x8n9 : Int32} (H : Heap) (locs : List Loc) (ls : Array Slot), gY D y A s L ad σ H locs → lv_has ls 10 [(0, .ref (ad 172)), (2, .long x2), (4, .int x4), (5, .int x5), (6, .int x6n9), (7, .int x7), (8, .int x8n9)] → rec85 (x6n9, x8n9) = some res → W p l e ({ frames := 1, cells := 0, slots := 0, locals := 22 } : Room) s m args below meth c H locs 0 0 (MQ below (va_Qi (fun (r : Int32) (_ : Unit) => r = res) (fun _ => gO D A (GW L y ad σ)) A) args s 0 0 A) (F0 m 85 ls [])) {H : Heap} {locs : List Loc} {ls : Array Slot} (hY : gY D y A s L ad σ H locs) (hl : lv_has ls 10 [(0, .ref (ad 172)), (2, .long x2), (4, .int x4), (5, .int x5), (7, .int x7), (8, .int x8)]) (h : fL_fails_160 N rec85 σ x2 x4 x5 x7 x8 xs0 = some res) : W p l e ({ frames := 1, cells := 0, slots := 0, locals := 22 } : Room) s m args below meth c H locs 0 0 (MQ below (va_Qi (fun (r : Int32) (_ : Unit) => r = res) (fun _ => gO D A (GW L y ad σ)) A) args s 0 0 A) (F0 m 160 ls [.int xs0]) := by
  unfold fL_fails_160 at h
  refine lv_istore (lv' := [(6, .int xs0), (0, .ref (ad 172)), (2, .long x2), (4, .int x4), (5, .int x5), (7, .int x7), (8, .int x8)]) hx hb dL_fails_160 hl (by decide) rfl ?_
  clear hl
  intro ls hl
  refine lv_iinc (v := (x8 + 1)) (lv' := [(8, .int (x8 + 1)), (6, .int xs0), (0, .ref (ad 172)), (2, .long x2), (4, .int x4), (5, .int x5), (7, .int x7)]) hx hb dL_fails_162 hl (k := 6) rfl rfl (by decide) rfl ?_
  clear hl
  intro ls hl
  refine lv_goto (tgt := 85) hx hb dL_fails_165 (by decide) ?_
  exact hrec85 _ _ _ hY (lv_sub hl [2, 3, 4, 5, 1, 6, 0] rfl) h
def fL_fails_155 (N : Nat) (rec85 : (Int32 × Int32) → Option Int32) (σ : gS) (x2 : Int64) (x4 : Int32) (x5 : Int32) (x7 : Int32) (x8 : Int32) : Option Int32 := fL_fails_160 N rec85 σ x2 x4 x5 x7 x8 1
set_option maxRecDepth 100000 in
set_option maxHeartbeats 4000000 in
theorem wL_fails_155 {rec85 : (Int32 × Int32) → Option Int32} {σ : gS} {x2 : Int64} {x4 : Int32} {x5 : Int32} {x7 : Int32} {x8 : Int32} (hx : p.tables.exec = Jvm.exec) (hb : c.code = cL_fails) (hr : meth.sig.returnType = (some .boolean)) (hml : c.maxLocals = 10) (hown : s.vm.findClass RL = some m.cls) (hg : ∀ w ∈ wsL_law, w.before args s = true) (hlocks : meth.locks = false) (hK : gK D y aS s) (hA : ∀ q, s.heap.size ≤ q → A q) (hL : ∀ k, k < 179 → k ∈ L) (hrec85 : ∀ {x6n9 : Int32} {x8n9 : Int32} (H : Heap) (locs : List Loc) (ls : Array Slot), gY D y A s L ad σ H locs → lv_has ls 10 [(0, .ref (ad 172)), (2, .long x2), (4, .int x4), (5, .int x5), (6, .int x6n9), (7, .int x7), (8, .int x8n9)] → rec85 (x6n9, x8n9) = some res → W p l e ({ frames := 1, cells := 0, slots := 0, locals := 22 } : Room) s m args below meth c H locs 0 0 (MQ below (va_Qi (fun (r : Int32) (_ : Unit) => r = res) (fun _ => gO D A (GW L y ad σ)) A) args s 0 0 A) (F0 m 85 ls [])) {H : Heap} {locs : List Loc} {ls : Array Slot} (hY : gY D y A s L ad σ H locs) (hl : lv_has ls 10 [(0, .ref (ad 172)), (2, .long x2), (4, .int x4), (5, .int x5), (7, .int x7), (8, .int x8)]) (h : fL_fails_155 N rec85 σ x2 x4 x5 x7 x8 = some res) : W p l e ({ frames := 1, cells := 0, slots := 0, locals := 22 } : Room) s m args below meth c H locs 0 0 (MQ below (va_Qi (fun (r : Int32) (_ : Unit) => r = res) (fun _ => gO D A (GW L y ad σ)) A) args s 0 0 A) (F0 m 155 ls []) := by
  unfold fL_fails_155 at h
  refine lv_iconst (v := 1) hx hb dL_fails_155 (by decide) ?_
  refine lv_goto (tgt := 160) hx hb dL_fails_156 (by decide) ?_
  exact wL_fails_160 hx hb hr hml hown hg hlocks hK hA hL hrec85 hY (lv_sub hl [0, 1, 2, 3, 4, 5] rfl) h
def fL_fails_159 (N : Nat) (rec85 : (Int32 × Int32) → Option Int32) (σ : gS) (x2 : Int64) (x4 : Int32) (x5 : Int32) (x7 : Int32) (x8 : Int32) : Option Int32 := fL_fails_160 N rec85 σ x2 x4 x5 x7 x8 0
set_option maxRecDepth 100000 in
set_option maxHeartbeats 4000000 in
theorem wL_fails_159 {rec85 : (Int32 × Int32) → Option Int32} {σ : gS} {x2 : Int64} {x4 : Int32} {x5 : Int32} {x7 : Int32} {x8 : Int32} (hx : p.tables.exec = Jvm.exec) (hb : c.code = cL_fails) (hr : meth.sig.returnType = (some .boolean)) (hml : c.maxLocals = 10) (hown : s.vm.findClass RL = some m.cls) (hg : ∀ w ∈ wsL_law, w.before args s = true) (hlocks : meth.locks = false) (hK : gK D y aS s) (hA : ∀ q, s.heap.size ≤ q → A q) (hL : ∀ k, k < 179 → k ∈ L) (hrec85 : ∀ {x6n9 : Int32} {x8n9 : Int32} (H : Heap) (locs : List Loc) (ls : Array Slot), gY D y A s L ad σ H locs → lv_has ls 10 [(0, .ref (ad 172)), (2, .long x2), (4, .int x4), (5, .int x5), (6, .int x6n9), (7, .int x7), (8, .int x8n9)] → rec85 (x6n9, x8n9) = some res → W p l e ({ frames := 1, cells := 0, slots := 0, locals := 22 } : Room) s m args below meth c H locs 0 0 (MQ below (va_Qi (fun (r : Int32) (_ : Unit) => r = res) (fun _ => gO D A (GW L y ad σ)) A) args s 0 0 A) (F0 m 85 ls [])) {H : Heap} {locs : List Loc} {ls : Array Slot} (hY : gY D y A s L ad σ H locs) (hl : lv_has ls 10 [(0, .ref (ad 172)), (2, .long x2), (4, .int x4), (5, .int x5), (7, .int x7), (8, .int x8)]) (h : fL_fails_159 N rec85 σ x2 x4 x5 x7 x8 = some res) : W p l e ({ frames := 1, cells := 0, slots := 0, locals := 22 } : Room) s m args below meth c H locs 0 0 (MQ below (va_Qi (fun (r : Int32) (_ : Unit) => r = res) (fun _ => gO D A (GW L y ad σ)) A) args s 0 0 A) (F0 m 159 ls []) := by
  unfold fL_fails_159 at h
  refine lv_iconst (v := 0) hx hb dL_fails_159 (by decide) ?_
  exact wL_fails_160 hx hb hr hml hown hg hlocks hK hA hL hrec85 hY (lv_sub hl [0, 1, 2, 3, 4, 5] rfl) h
def fL_fails_85 (N : Nat) (σ : gS) (x2 : Int64) (x4 : Int32) (x5 : Int32) (x7 : Int32) (rec85 : (Int32 × Int32) → Option Int32) (xx : Int32 × Int32) : Option Int32 := match xx with
  | (x6, x8) => if (x5 + 4) < 0 ∨ 48 ≤ (x5 + 4).toNatClampNeg then none else (if (σ.1 172 ((x5 + 4).toNatClampNeg)) ≤ x8 then (if x6 = 0 then (if (x5 + 2) < 0 ∨ 48 ≤ (x5 + 2).toNatClampNeg then none else (if 0 ≤ (lg_cmp (((((x7.toInt64) * 7919) + ((x4.toInt64) * 104729)) - (((x7.toInt64) * 7919) + ((x4.toInt64) * 104729)) / 1000003 * 1000003) - ((((x7.toInt64) * 7919) + ((x4.toInt64) * 104729)) - (((x7.toInt64) * 7919) + ((x4.toInt64) * 104729)) / 1000003 * 1000003) / 10 * 10) ((σ.1 172 ((x5 + 2).toNatClampNeg)).toInt64)) then (fL_fails_212 N σ 0) else (fL_fails_207 N σ))) else (fL_fails_207 N σ)) else (if ((x5 + 7) + x8) < 0 ∨ 48 ≤ ((x5 + 7) + x8).toNatClampNeg then none else (if x6 = 0 then ((fL_at N σ x2 ((σ.1 172 (((x5 + 7) + x8).toNatClampNeg)) - (σ.1 172 (((x5 + 7) + x8).toNatClampNeg)) / 16 * 16)).bind fun r_8 => if r_8 = (((σ.1 172 (((x5 + 7) + x8).toNatClampNeg)) / 16) - ((σ.1 172 (((x5 + 7) + x8).toNatClampNeg)) / 16) / 16 * 16) then ((fL_at N σ x2 (((σ.1 172 (((x5 + 7) + x8).toNatClampNeg)) / 256) - ((σ.1 172 (((x5 + 7) + x8).toNatClampNeg)) / 256) / 16 * 16)).bind fun r_11 => if r_11 = ((σ.1 172 (((x5 + 7) + x8).toNatClampNeg)) / 4096) then (fL_fails_155 N rec85 σ x2 x4 x5 x7 x8) else (fL_fails_159 N rec85 σ x2 x4 x5 x7 x8)) else (fL_fails_159 N rec85 σ x2 x4 x5 x7 x8)) else (fL_fails_155 N rec85 σ x2 x4 x5 x7 x8))))
set_option maxRecDepth 100000 in
set_option maxHeartbeats 4000000 in
theorem wL_fails_85 {σ : gS} {x2 : Int64} {x4 : Int32} {x5 : Int32} {x7 : Int32} (hx : p.tables.exec = Jvm.exec) (hb : c.code = cL_fails) (hr : meth.sig.returnType = (some .boolean)) (hml : c.maxLocals = 10) (hown : s.vm.findClass RL = some m.cls) (hg : ∀ w ∈ wsL_law, w.before args s = true) (hlocks : meth.locks = false) (hK : gK D y aS s) (hA : ∀ q, s.heap.size ≤ q → A q) (hL : ∀ k, k < 179 → k ∈ L) : ∀ (n : Nat) {x6 : Int32} {x8 : Int32} (H : Heap) (locs : List Loc) (ls : Array Slot), gY D y A s L ad σ H locs → lv_has ls 10 [(0, .ref (ad 172)), (2, .long x2), (4, .int x4), (5, .int x5), (6, .int x6), (7, .int x7), (8, .int x8)] → lp (fL_fails_85 N σ x2 x4 x5 x7) n (x6, x8) = some res → W p l e ({ frames := 1, cells := 0, slots := 0, locals := 22 } : Room) s m args below meth c H locs 0 0 (MQ below (va_Qi (fun (r : Int32) (_ : Unit) => r = res) (fun _ => gO D A (GW L y ad σ)) A) args s 0 0 A) (F0 m 85 ls []) := by
  intro n
  induction n with
  | zero => intro x6 x8 H locs ls hY hl h; exact nomatch (show none = some res from h)
  | succ n hrec85 =>
    intro x6 x8 H locs ls hY hl h
    replace h : fL_fails_85 N σ x2 x4 x5 x7 (lp (fL_fails_85 N σ x2 x4 x5 x7) n) (x6, x8) = some res := h
    generalize lp (fL_fails_85 N σ x2 x4 x5 x7) n = rec85 at h hrec85
    unfold fL_fails_85 at h
    try dsimp only at h
    refine lv_iload hx hb dL_fails_85 (lv_at hl 6 rfl) ?_
    refine lv_aload_n hx hb dL_fails_87 rfl (lv_at hl 0 rfl) ?_
    refine lv_iload hx hb dL_fails_88 (lv_at hl 3 rfl) ?_
    refine lv_iconst (v := 4) hx hb dL_fails_90 (by decide) ?_
    refine lv_iadd hx hb dL_fails_91 ?_
    obtain ⟨z_1, h⟩ := g_guard h
    refine G_iald (j := (x5 + 4).toNatClampNeg) hx hb hK hY (hL 172 (by decide)) gk_172 (by rw [gl_172]; exact z_1) rfl dL_fails_92 ?_
    refine lv_icmp_ge (tgt := 168) hx hb dL_fails_93 (by decide) (fun z_2 => ?_) (fun z_2 => ?_)
    ·
      rw [if_pos z_2] at h
      refine lv_iload hx hb dL_fails_168 (lv_at hl 4 rfl) ?_
      refine lv_if_ne (tgt := 207) hx hb dL_fails_170 (by decide) (fun z_3 => ?_) (fun z_3 => ?_)
      ·
        rw [if_neg z_3] at h
        exact wL_fails_207 hx hb hr hml hown hg hlocks hK hA hL hY (lv_sub hl [] rfl) h
      ·
        rw [if_pos z_3] at h
        refine lv_iload hx hb dL_fails_173 (lv_at hl 5 rfl) ?_
        refine lv_i2l (v := (x7.toInt64)) hx hb dL_fails_175 rfl ?_
        refine lv_ldc2 (v := 7919) hx hb hown (hg _ gw_716) dL_fails_176 ?_
        refine lv_lmul hx hb dL_fails_179 ?_
        refine lv_iload hx hb dL_fails_180 (lv_at hl 2 rfl) ?_
        refine lv_i2l (v := (x4.toInt64)) hx hb dL_fails_182 rfl ?_
        refine lv_ldc2 (v := 104729) hx hb hown (hg _ gw_717) dL_fails_183 ?_
        refine lv_lmul hx hb dL_fails_186 ?_
        refine lv_ladd hx hb dL_fails_187 ?_
        refine lv_ldc2 (v := 1000003) hx hb hown (hg _ gw_718) dL_fails_188 ?_
        refine lv_lrem hx hb dL_fails_191 (by decide +kernel) ?_
        refine lv_ldc2 (v := 10) hx hb hown (hg _ gw_719) dL_fails_192 ?_
        refine lv_lrem hx hb dL_fails_195 (by decide +kernel) ?_
        refine lv_aload_n hx hb dL_fails_196 rfl (lv_at hl 0 rfl) ?_
        refine lv_iload hx hb dL_fails_197 (lv_at hl 3 rfl) ?_
        refine lv_iconst (v := 2) hx hb dL_fails_199 (by decide) ?_
        refine lv_iadd hx hb dL_fails_200 ?_
        obtain ⟨z_4, h⟩ := g_guard h
        refine G_iald (j := (x5 + 2).toNatClampNeg) hx hb hK hY (hL 172 (by decide)) gk_172 (by rw [gl_172]; exact z_4) rfl dL_fails_201 ?_
        refine lv_i2l (v := ((σ.1 172 ((x5 + 2).toNatClampNeg)).toInt64)) hx hb dL_fails_202 rfl ?_
        refine W.lcmp hx hb dL_fails_203 ?_
        refine lv_if_ge (tgt := 211) hx hb dL_fails_204 (by decide) (fun z_5 => ?_) (fun z_5 => ?_)
        ·
          rw [if_pos z_5] at h
          refine lv_iconst (v := 0) hx hb dL_fails_211 (by decide) ?_
          exact wL_fails_212 hx hb hr hml hown hg hlocks hK hA hL hY (lv_sub hl [] rfl) h
        ·
          rw [if_neg z_5] at h
          exact wL_fails_207 hx hb hr hml hown hg hlocks hK hA hL hY (lv_sub hl [] rfl) h
    ·
      rw [if_neg z_2] at h
      refine lv_aload_n hx hb dL_fails_96 rfl (lv_at hl 0 rfl) ?_
      refine lv_iload hx hb dL_fails_97 (lv_at hl 3 rfl) ?_
      refine lv_bipush (v := 7) hx hb dL_fails_99 (by decide +kernel) ?_
      refine lv_iadd hx hb dL_fails_101 ?_
      refine lv_iload hx hb dL_fails_102 (lv_at hl 6 rfl) ?_
      refine lv_iadd hx hb dL_fails_104 ?_
      obtain ⟨z_6, h⟩ := g_guard h
      refine G_iald (j := ((x5 + 7) + x8).toNatClampNeg) hx hb hK hY (hL 172 (by decide)) gk_172 (by rw [gl_172]; exact z_6) rfl dL_fails_105 ?_
      refine lv_istore (lv' := [(9, .int (σ.1 172 (((x5 + 7) + x8).toNatClampNeg))), (0, .ref (ad 172)), (2, .long x2), (4, .int x4), (5, .int x5), (6, .int x6), (7, .int x7), (8, .int x8)]) hx hb dL_fails_106 hl (by decide) rfl ?_
      clear hl
      intro ls hl
      refine lv_iload hx hb dL_fails_108 (lv_at hl 5 rfl) ?_
      refine lv_if_ne (tgt := 155) hx hb dL_fails_110 (by decide) (fun z_7 => ?_) (fun z_7 => ?_)
      ·
        rw [if_neg z_7] at h
        exact wL_fails_155 hx hb hr hml hown hg hlocks hK hA hL hrec85 hY (lv_sub hl [1, 2, 3, 4, 6, 7] rfl) h
      ·
        rw [if_pos z_7] at h
        refine lv_lload_n hx hb dL_fails_113 rfl (lv_at hl 2 rfl) ?_
        refine lv_iload hx hb dL_fails_114 (lv_at hl 0 rfl) ?_
        refine lv_bipush (v := 16) hx hb dL_fails_116 (by decide +kernel) ?_
        refine lv_irem hx hb dL_fails_118 (by decide +kernel) ?_
        obtain ⟨r_8, e_9, h⟩ := g_bind h
        refine G_ai hY hA (va_runS (As := [.long x2, .int ((σ.1 172 (((x5 + 7) + x8).toNatClampNeg)) - (σ.1 172 (((x5 + 7) + x8).toNatClampNeg)) / 16 * 16)]) (rest := []) ⟨hx, hb, hml, hown, hg⟩ (kL_at l D y aS H.size L hL ad N σ x2 ((σ.1 172 (((x5 + 7) + x8).toNatClampNeg)) - (σ.1 172 (((x5 + 7) + x8).toNatClampNeg)) / 16 * 16) _ e_9) (va_cwS 2 hg ggS_RL_29_L_at rfl rfl rfl (by decide +kernel) ⟨Nat.le_of_ble_eq_true rfl, Nat.le_of_ble_eq_true rfl⟩) (G_pS hK hY) rfl rfl hl.1 rfl (lv_room (Nat.le_of_ble_eq_true rfl)) dL_fails_119 ⟨Nat.le_of_ble_eq_true rfl, Nat.le_of_ble_eq_true rfl⟩) ?_
        clear hY
        rintro _ H locs rfl hY
        refine lv_iload hx hb dL_fails_122 (lv_at hl 0 rfl) ?_
        refine lv_bipush (v := 16) hx hb dL_fails_124 (by decide +kernel) ?_
        refine lv_idiv hx hb dL_fails_126 (by decide +kernel) ?_
        refine lv_bipush (v := 16) hx hb dL_fails_127 (by decide +kernel) ?_
        refine lv_irem hx hb dL_fails_129 (by decide +kernel) ?_
        refine lv_icmp_ne (tgt := 159) hx hb dL_fails_130 (by decide) (fun z_10 => ?_) (fun z_10 => ?_)
        ·
          rw [if_neg z_10] at h
          exact wL_fails_159 hx hb hr hml hown hg hlocks hK hA hL hrec85 hY (lv_sub hl [1, 2, 3, 4, 6, 7] rfl) h
        ·
          rw [if_pos z_10] at h
          refine lv_lload_n hx hb dL_fails_133 rfl (lv_at hl 2 rfl) ?_
          refine lv_iload hx hb dL_fails_134 (lv_at hl 0 rfl) ?_
          refine lv_sipush (v := 256) hx hb dL_fails_136 (by decide +kernel) ?_
          refine lv_idiv hx hb dL_fails_139 (by decide +kernel) ?_
          refine lv_bipush (v := 16) hx hb dL_fails_140 (by decide +kernel) ?_
          refine lv_irem hx hb dL_fails_142 (by decide +kernel) ?_
          obtain ⟨r_11, e_12, h⟩ := g_bind h
          refine G_ai hY hA (va_runS (As := [.long x2, .int (((σ.1 172 (((x5 + 7) + x8).toNatClampNeg)) / 256) - ((σ.1 172 (((x5 + 7) + x8).toNatClampNeg)) / 256) / 16 * 16)]) (rest := []) ⟨hx, hb, hml, hown, hg⟩ (kL_at l D y aS H.size L hL ad N σ x2 (((σ.1 172 (((x5 + 7) + x8).toNatClampNeg)) / 256) - ((σ.1 172 (((x5 + 7) + x8).toNatClampNeg)) / 256) / 16 * 16) _ e_12) (va_cwS 2 hg ggS_RL_29_L_at rfl rfl rfl (by decide +kernel) ⟨Nat.le_of_ble_eq_true rfl, Nat.le_of_ble_eq_true rfl⟩) (G_pS hK hY) rfl rfl hl.1 rfl (lv_room (Nat.le_of_ble_eq_true rfl)) dL_fails_143 ⟨Nat.le_of_ble_eq_true rfl, Nat.le_of_ble_eq_true rfl⟩) ?_
          clear hY
          rintro _ H locs rfl hY
          refine lv_iload hx hb dL_fails_146 (lv_at hl 0 rfl) ?_
          refine lv_sipush (v := 4096) hx hb dL_fails_148 (by decide +kernel) ?_
          refine lv_idiv hx hb dL_fails_151 (by decide +kernel) ?_
          refine lv_icmp_ne (tgt := 159) hx hb dL_fails_152 (by decide) (fun z_13 => ?_) (fun z_13 => ?_)
          ·
            rw [if_neg z_13] at h
            exact wL_fails_159 hx hb hr hml hown hg hlocks hK hA hL hrec85 hY (lv_sub hl [1, 2, 3, 4, 6, 7] rfl) h
          ·
            rw [if_pos z_13] at h
            exact wL_fails_155 hx hb hr hml hown hg hlocks hK hA hL hrec85 hY (lv_sub hl [1, 2, 3, 4, 6, 7] rfl) h
def fL_fails_74 (N : Nat) (rec31 : (Int32 × Int32) → Option Int32) (σ : gS) (x2 : Int64) (x4 : Int32) (x5 : Int32) (x6 : Int32) (x8 : Int32) (xs0 : Int32) : Option Int32 := rec31 (xs0, (x8 + 1))
set_option maxRecDepth 100000 in
set_option maxHeartbeats 4000000 in
theorem wL_fails_74 {rec31 : (Int32 × Int32) → Option Int32} {σ : gS} {x2 : Int64} {x4 : Int32} {x5 : Int32} {x6 : Int32} {x8 : Int32} {xs0 : Int32} (hx : p.tables.exec = Jvm.exec) (hb : c.code = cL_fails) (hr : meth.sig.returnType = (some .boolean)) (hml : c.maxLocals = 10) (hown : s.vm.findClass RL = some m.cls) (hg : ∀ w ∈ wsL_law, w.before args s = true) (hlocks : meth.locks = false) (hK : gK D y aS s) (hA : ∀ q, s.heap.size ≤ q → A q) (hL : ∀ k, k < 179 → k ∈ L) (hrec31 : ∀ {x7n9 : Int32} {x8n9 : Int32} (H : Heap) (locs : List Loc) (ls : Array Slot), gY D y A s L ad σ H locs → lv_has ls 10 [(0, .ref (ad 172)), (2, .long x2), (4, .int x4), (5, .int x5), (6, .int x6), (7, .int x7n9), (8, .int x8n9)] → rec31 (x7n9, x8n9) = some res → W p l e ({ frames := 1, cells := 0, slots := 0, locals := 22 } : Room) s m args below meth c H locs 0 0 (MQ below (va_Qi (fun (r : Int32) (_ : Unit) => r = res) (fun _ => gO D A (GW L y ad σ)) A) args s 0 0 A) (F0 m 31 ls [])) {H : Heap} {locs : List Loc} {ls : Array Slot} (hY : gY D y A s L ad σ H locs) (hl : lv_has ls 10 [(0, .ref (ad 172)), (2, .long x2), (4, .int x4), (5, .int x5), (6, .int x6), (8, .int x8)]) (h : fL_fails_74 N rec31 σ x2 x4 x5 x6 x8 xs0 = some res) : W p l e ({ frames := 1, cells := 0, slots := 0, locals := 22 } : Room) s m args below meth c H locs 0 0 (MQ below (va_Qi (fun (r : Int32) (_ : Unit) => r = res) (fun _ => gO D A (GW L y ad σ)) A) args s 0 0 A) (F0 m 74 ls [.int xs0]) := by
  unfold fL_fails_74 at h
  refine lv_istore (lv' := [(7, .int xs0), (0, .ref (ad 172)), (2, .long x2), (4, .int x4), (5, .int x5), (6, .int x6), (8, .int x8)]) hx hb dL_fails_74 hl (by decide) rfl ?_
  clear hl
  intro ls hl
  refine lv_iinc (v := (x8 + 1)) (lv' := [(8, .int (x8 + 1)), (7, .int xs0), (0, .ref (ad 172)), (2, .long x2), (4, .int x4), (5, .int x5), (6, .int x6)]) hx hb dL_fails_76 hl (k := 6) rfl rfl (by decide) rfl ?_
  clear hl
  intro ls hl
  refine lv_goto (tgt := 31) hx hb dL_fails_79 (by decide) ?_
  exact hrec31 _ _ _ hY (lv_sub hl [2, 3, 4, 5, 6, 1, 0] rfl) h
def fL_fails_31 (N : Nat) (σ : gS) (x2 : Int64) (x4 : Int32) (x5 : Int32) (x6 : Int32) (rec31 : (Int32 × Int32) → Option Int32) (xx : Int32 × Int32) : Option Int32 := match xx with
  | (x7, x8) => if 12 ≤ x8 then (lp (fL_fails_85 N σ x2 x4 x5 x7) N (x6, 0)) else (if x5 < 0 ∨ 48 ≤ x5.toNatClampNeg then none else (if (((σ.1 172 x5.toNatClampNeg) >>> (x8 &&& 31)) &&& 1) = 1 then ((fL_at N σ x2 x8).bind fun r_4 => fL_fails_74 N rec31 σ x2 x4 x5 x6 x8 ((((x7 * 11) + r_4) + 1) - (((x7 * 11) + r_4) + 1) / 10007 * 10007)) else (fL_fails_74 N rec31 σ x2 x4 x5 x6 x8 x7)))
set_option maxRecDepth 100000 in
set_option maxHeartbeats 4000000 in
theorem wL_fails_31 {σ : gS} {x2 : Int64} {x4 : Int32} {x5 : Int32} {x6 : Int32} (hx : p.tables.exec = Jvm.exec) (hb : c.code = cL_fails) (hr : meth.sig.returnType = (some .boolean)) (hml : c.maxLocals = 10) (hown : s.vm.findClass RL = some m.cls) (hg : ∀ w ∈ wsL_law, w.before args s = true) (hlocks : meth.locks = false) (hK : gK D y aS s) (hA : ∀ q, s.heap.size ≤ q → A q) (hL : ∀ k, k < 179 → k ∈ L) : ∀ (n : Nat) {x7 : Int32} {x8 : Int32} (H : Heap) (locs : List Loc) (ls : Array Slot), gY D y A s L ad σ H locs → lv_has ls 10 [(0, .ref (ad 172)), (2, .long x2), (4, .int x4), (5, .int x5), (6, .int x6), (7, .int x7), (8, .int x8)] → lp (fL_fails_31 N σ x2 x4 x5 x6) n (x7, x8) = some res → W p l e ({ frames := 1, cells := 0, slots := 0, locals := 22 } : Room) s m args below meth c H locs 0 0 (MQ below (va_Qi (fun (r : Int32) (_ : Unit) => r = res) (fun _ => gO D A (GW L y ad σ)) A) args s 0 0 A) (F0 m 31 ls []) := by
  intro n
  induction n with
  | zero => intro x7 x8 H locs ls hY hl h; exact nomatch (show none = some res from h)
  | succ n hrec31 =>
    intro x7 x8 H locs ls hY hl h
    replace h : fL_fails_31 N σ x2 x4 x5 x6 (lp (fL_fails_31 N σ x2 x4 x5 x6) n) (x7, x8) = some res := h
    generalize lp (fL_fails_31 N σ x2 x4 x5 x6) n = rec31 at h hrec31
    unfold fL_fails_31 at h
    try dsimp only at h
    refine lv_iload hx hb dL_fails_31 (lv_at hl 6 rfl) ?_
    refine lv_bipush (v := 12) hx hb dL_fails_33 (by decide +kernel) ?_
    refine lv_icmp_ge (tgt := 82) hx hb dL_fails_35 (by decide) (fun z_1 => ?_) (fun z_1 => ?_)
    ·
      rw [if_pos z_1] at h
      refine lv_iconst (v := 0) hx hb dL_fails_82 (by decide) ?_
      refine lv_istore (lv' := [(8, .int 0), (0, .ref (ad 172)), (2, .long x2), (4, .int x4), (5, .int x5), (6, .int x6), (7, .int x7)]) hx hb dL_fails_83 hl (by decide) rfl ?_
      clear hl
      intro ls hl
      exact wL_fails_85 hx hb hr hml hown hg hlocks hK hA hL N _ _ _ hY (lv_sub hl [1, 2, 3, 4, 5, 6, 0] rfl) h
    ·
      rw [if_neg z_1] at h
      refine lv_aload_n hx hb dL_fails_38 rfl (lv_at hl 0 rfl) ?_
      refine lv_iload hx hb dL_fails_39 (lv_at hl 3 rfl) ?_
      obtain ⟨z_2, h⟩ := g_guard h
      refine G_iald (j := x5.toNatClampNeg) hx hb hK hY (hL 172 (by decide)) gk_172 (by rw [gl_172]; exact z_2) rfl dL_fails_41 ?_
      refine lv_iload hx hb dL_fails_42 (lv_at hl 6 rfl) ?_
      refine lv_ishr hx hb dL_fails_44 ?_
      refine lv_iconst (v := 1) hx hb dL_fails_45 (by decide) ?_
      refine lv_iand hx hb dL_fails_46 ?_
      refine lv_iconst (v := 1) hx hb dL_fails_47 (by decide) ?_
      refine lv_icmp_ne (tgt := 72) hx hb dL_fails_48 (by decide) (fun z_3 => ?_) (fun z_3 => ?_)
      ·
        rw [if_neg z_3] at h
        refine lv_iload hx hb dL_fails_72 (lv_at hl 5 rfl) ?_
        exact wL_fails_74 hx hb hr hml hown hg hlocks hK hA hL hrec31 hY (lv_sub hl [0, 1, 2, 3, 4, 6] rfl) h
      ·
        rw [if_pos z_3] at h
        refine lv_iload hx hb dL_fails_51 (lv_at hl 5 rfl) ?_
        refine lv_bipush (v := 11) hx hb dL_fails_53 (by decide +kernel) ?_
        refine lv_imul hx hb dL_fails_55 ?_
        refine lv_lload_n hx hb dL_fails_56 rfl (lv_at hl 1 rfl) ?_
        refine lv_iload hx hb dL_fails_57 (lv_at hl 6 rfl) ?_
        obtain ⟨r_4, e_5, h⟩ := g_bind h
        refine G_ai hY hA (va_runS (As := [.long x2, .int x8]) (rest := [.int (x7 * 11)]) ⟨hx, hb, hml, hown, hg⟩ (kL_at l D y aS H.size L hL ad N σ x2 x8 _ e_5) (va_cwS 2 hg ggS_RL_29_L_at rfl rfl rfl (by decide +kernel) ⟨Nat.le_of_ble_eq_true rfl, Nat.le_of_ble_eq_true rfl⟩) (G_pS hK hY) rfl rfl hl.1 rfl (lv_room (Nat.le_of_ble_eq_true rfl)) dL_fails_59 ⟨Nat.le_of_ble_eq_true rfl, Nat.le_of_ble_eq_true rfl⟩) ?_
        clear hY
        rintro _ H locs rfl hY
        refine lv_iadd hx hb dL_fails_62 ?_
        refine lv_iconst (v := 1) hx hb dL_fails_63 (by decide) ?_
        refine lv_iadd hx hb dL_fails_64 ?_
        refine lv_sipush (v := 10007) hx hb dL_fails_65 (by decide +kernel) ?_
        refine lv_irem hx hb dL_fails_68 (by decide +kernel) ?_
        refine lv_goto (tgt := 74) hx hb dL_fails_69 (by decide) ?_
        exact wL_fails_74 hx hb hr hml hown hg hlocks hK hA hL hrec31 hY (lv_sub hl [0, 1, 2, 3, 4, 6] rfl) h
def fL_fails_21 (N : Nat) (σ : gS) (x1 : Int32) (x2 : Int64) (x4 : Int32) (x5 : Int32) (xs0 : Int32) : Option Int32 := lp (fL_fails_31 N σ x2 x4 x5 xs0) N ((x1 + 1), 0)
set_option maxRecDepth 100000 in
set_option maxHeartbeats 4000000 in
theorem wL_fails_21 {σ : gS} {x1 : Int32} {x2 : Int64} {x4 : Int32} {x5 : Int32} {xs0 : Int32} (hx : p.tables.exec = Jvm.exec) (hb : c.code = cL_fails) (hr : meth.sig.returnType = (some .boolean)) (hml : c.maxLocals = 10) (hown : s.vm.findClass RL = some m.cls) (hg : ∀ w ∈ wsL_law, w.before args s = true) (hlocks : meth.locks = false) (hK : gK D y aS s) (hA : ∀ q, s.heap.size ≤ q → A q) (hL : ∀ k, k < 179 → k ∈ L) {H : Heap} {locs : List Loc} {ls : Array Slot} (hY : gY D y A s L ad σ H locs) (hl : lv_has ls 10 [(0, .ref (ad 172)), (1, .int x1), (2, .long x2), (4, .int x4), (5, .int x5)]) (h : fL_fails_21 N σ x1 x2 x4 x5 xs0 = some res) : W p l e ({ frames := 1, cells := 0, slots := 0, locals := 22 } : Room) s m args below meth c H locs 0 0 (MQ below (va_Qi (fun (r : Int32) (_ : Unit) => r = res) (fun _ => gO D A (GW L y ad σ)) A) args s 0 0 A) (F0 m 21 ls [.int xs0]) := by
  unfold fL_fails_21 at h
  refine lv_istore (lv' := [(6, .int xs0), (0, .ref (ad 172)), (1, .int x1), (2, .long x2), (4, .int x4), (5, .int x5)]) hx hb dL_fails_21 hl (by decide) rfl ?_
  clear hl
  intro ls hl
  refine lv_iload_n hx hb dL_fails_23 rfl (lv_at hl 2 rfl) ?_
  refine lv_iconst (v := 1) hx hb dL_fails_24 (by decide) ?_
  refine lv_iadd hx hb dL_fails_25 ?_
  refine lv_istore (lv' := [(7, .int (x1 + 1)), (6, .int xs0), (0, .ref (ad 172)), (1, .int x1), (2, .long x2), (4, .int x4), (5, .int x5)]) hx hb dL_fails_26 hl (by decide) rfl ?_
  clear hl
  intro ls hl
  refine lv_iconst (v := 0) hx hb dL_fails_28 (by decide) ?_
  refine lv_istore (lv' := [(8, .int 0), (7, .int (x1 + 1)), (6, .int xs0), (0, .ref (ad 172)), (1, .int x1), (2, .long x2), (4, .int x4), (5, .int x5)]) hx hb dL_fails_29 hl (by decide) rfl ?_
  clear hl
  intro ls hl
  exact wL_fails_31 hx hb hr hml hown hg hlocks hK hA hL N _ _ _ hY (lv_sub hl [3, 5, 6, 7, 2, 1, 0] rfl) h
end
def fL_fails (N : Nat) (σ : gS) (x1 : Int32) (x2 : Int64) (x4 : Int32) : Option Int32 := if ((12 * x1) + 3) < 0 ∨ 48 ≤ ((12 * x1) + 3).toNatClampNeg then none else (if (σ.1 172 (((12 * x1) + 3).toNatClampNeg)) = 1 then (fL_fails_21 N σ x1 x2 x4 (12 * x1) 1) else (fL_fails_21 N σ x1 x2 x4 (12 * x1) 0))
set_option maxRecDepth 100000 in
set_option maxHeartbeats 4000000 in
theorem kL_fails (l : Launch) (D : va_G) (y : Nat → ClassId) (aS : Nat → Nat) (sz : Nat) (L : List Nat) (hL : ∀ k, k < 179 → k ∈ L) (ad : Nat → Nat) (N : Nat) (σ : gS) (x1 : Int32) (x2 : Int64) (x4 : Int32) (res : Int32) (h : fL_fails N σ x1 x2 x4 = some res) : Met l yL_fails (Cond.code yL_fails cL_fails 10 (some .boolean) :: wsL_law) ({ frames := 1, cells := 0, slots := 0, locals := 22 } : Room) (va_Pc [.ref (ad 172), .int x1, .long x2, .int x4] (gI D y aS (GW L y ad σ) sz)) (va_Qi (fun (r : Int32) (_ : Unit) => r = res) (fun _ => gO D (va_A (GW L y ad σ) sz) (GW L y ad σ)) (va_A (GW L y ad σ) sz)) 0 0 (va_A (GW L y ad σ) sz) := by
  refine g_of (by decide) (Nat.le_of_ble_eq_true rfl) ?_
  intro p e s m below meth c ls A hx hb hr hml hown hg hlocks hin hsz hK hP hD hS hA hAe hl
  rw [← hAe]
  replace hown : s.vm.findClass RL = some m.cls := hown
  have hY : gY D y A s L ad σ s.heap [] := ⟨hP, hD, hS⟩
  clear hP hD hS
  replace hl : lv_has ls 10 [(0, .ref (ad 172)), (1, .int x1), (2, .long x2), (4, .int x4)] := hl
  unfold fL_fails at h
  refine lv_bipush (v := 12) hx hb dL_fails_0 (by decide +kernel) ?_
  refine lv_iload_n hx hb dL_fails_2 rfl (lv_at hl 1 rfl) ?_
  refine lv_imul hx hb dL_fails_3 ?_
  refine lv_istore (lv' := [(5, .int (12 * x1)), (0, .ref (ad 172)), (1, .int x1), (2, .long x2), (4, .int x4)]) hx hb dL_fails_4 hl (by decide) rfl ?_
  clear hl
  intro ls hl
  refine lv_aload_n hx hb dL_fails_6 rfl (lv_at hl 1 rfl) ?_
  refine lv_iload hx hb dL_fails_7 (lv_at hl 0 rfl) ?_
  refine lv_iconst (v := 3) hx hb dL_fails_9 (by decide) ?_
  refine lv_iadd hx hb dL_fails_10 ?_
  obtain ⟨z_1, h⟩ := g_guard h
  refine G_iald (j := ((12 * x1) + 3).toNatClampNeg) hx hb hK hY (hL 172 (by decide)) gk_172 (by rw [gl_172]; exact z_1) rfl dL_fails_11 ?_
  refine lv_iconst (v := 1) hx hb dL_fails_12 (by decide) ?_
  refine lv_icmp_ne (tgt := 20) hx hb dL_fails_13 (by decide) (fun z_2 => ?_) (fun z_2 => ?_)
  ·
    rw [if_neg z_2] at h
    refine lv_iconst (v := 0) hx hb dL_fails_20 (by decide) ?_
    exact wL_fails_21 hx hb hr hml hown hg hlocks hK hA hL hY (lv_sub hl [1, 2, 3, 4, 0] rfl) h
  ·
    rw [if_pos z_2] at h
    refine lv_iconst (v := 1) hx hb dL_fails_16 (by decide) ?_
    refine lv_goto (tgt := 21) hx hb dL_fails_17 (by decide) ?_
    exact wL_fails_21 hx hb hr hml hown hg hlocks hK hA hL hY (lv_sub hl [1, 2, 3, 4, 0] rfl) h
section
variable {p : Program} {l : Launch} {e : Env} {s : State} {m : MethodId} {args : Array Value} {below : List Frame} {meth : Method} {c : Code} {D : va_G} {y : Nat → ClassId} {aS : Nat → Nat} {A : Nat → Prop} {L : List Nat} {ad : Nat → Nat} {N : Nat} {res : Int32}
def fL_next_144 (N : Nat) (rec6 : (Int32 × Int32) → Option Int32) (σ : gS) (x5 : Int32) (x7 : Int32) (xs0 : Int32) : Option Int32 := rec6 (xs0, (x7 + 1))
set_option maxRecDepth 100000 in
set_option maxHeartbeats 4000000 in
theorem wL_next_144 {rec6 : (Int32 × Int32) → Option Int32} {σ : gS} {x5 : Int32} {x7 : Int32} {xs0 : Int32} (hx : p.tables.exec = Jvm.exec) (hb : c.code = cL_next) (hr : meth.sig.returnType = (some .int)) (hml : c.maxLocals = 11) (hown : s.vm.findClass RL = some m.cls) (hg : ∀ w ∈ wsL_law, w.before args s = true) (hlocks : meth.locks = false) (hK : gK D y aS s) (hA : ∀ q, s.heap.size ≤ q → A q) (hL : ∀ k, k < 179 → k ∈ L) (hrec6 : ∀ {x6n9 : Int32} {x7n9 : Int32} (H : Heap) (locs : List Loc) (ls : Array Slot), gY D y A s L ad σ H locs → lv_has ls 11 [(0, .ref (ad 161)), (1, .ref (ad 163)), (2, .ref (ad 164)), (3, .ref (ad 165)), (4, .ref (ad 166)), (5, .int x5), (6, .int x6n9), (7, .int x7n9)] → rec6 (x6n9, x7n9) = some res → W p l e ({ frames := 0, cells := 0, slots := 0, locals := 0 } : Room) s m args below meth c H locs 0 0 (MQ below (va_Qi (fun (r : Int32) (_ : Unit) => r = res) (fun _ => gO D A (GW L y ad σ)) A) args s 0 0 A) (F0 m 6 ls [])) {H : Heap} {locs : List Loc} {ls : Array Slot} (hY : gY D y A s L ad σ H locs) (hl : lv_has ls 11 [(0, .ref (ad 161)), (1, .ref (ad 163)), (2, .ref (ad 164)), (3, .ref (ad 165)), (4, .ref (ad 166)), (5, .int x5), (7, .int x7)]) (h : fL_next_144 N rec6 σ x5 x7 xs0 = some res) : W p l e ({ frames := 0, cells := 0, slots := 0, locals := 0 } : Room) s m args below meth c H locs 0 0 (MQ below (va_Qi (fun (r : Int32) (_ : Unit) => r = res) (fun _ => gO D A (GW L y ad σ)) A) args s 0 0 A) (F0 m 144 ls [.int xs0]) := by
  unfold fL_next_144 at h
  refine lv_istore (lv' := [(6, .int xs0), (0, .ref (ad 161)), (1, .ref (ad 163)), (2, .ref (ad 164)), (3, .ref (ad 165)), (4, .ref (ad 166)), (5, .int x5), (7, .int x7)]) hx hb dL_next_144 hl (by decide) rfl ?_
  clear hl
  intro ls hl
  refine lv_iinc (v := (x7 + 1)) (lv' := [(7, .int (x7 + 1)), (6, .int xs0), (0, .ref (ad 161)), (1, .ref (ad 163)), (2, .ref (ad 164)), (3, .ref (ad 165)), (4, .ref (ad 166)), (5, .int x5)]) hx hb dL_next_146 hl (k := 7) rfl rfl (by decide) rfl ?_
  clear hl
  intro ls hl
  refine lv_goto (tgt := 6) hx hb dL_next_149 (by decide) ?_
  exact hrec6 _ _ _ hY (lv_sub hl [2, 3, 4, 5, 6, 7, 1, 0] rfl) h
def fL_next_142 (N : Nat) (rec6 : (Int32 × Int32) → Option Int32) (σ : gS) (x5 : Int32) (x6 : Int32) (x7 : Int32) : Option Int32 := fL_next_144 N rec6 σ x5 x7 x6
set_option maxRecDepth 100000 in
set_option maxHeartbeats 4000000 in
theorem wL_next_142 {rec6 : (Int32 × Int32) → Option Int32} {σ : gS} {x5 : Int32} {x6 : Int32} {x7 : Int32} (hx : p.tables.exec = Jvm.exec) (hb : c.code = cL_next) (hr : meth.sig.returnType = (some .int)) (hml : c.maxLocals = 11) (hown : s.vm.findClass RL = some m.cls) (hg : ∀ w ∈ wsL_law, w.before args s = true) (hlocks : meth.locks = false) (hK : gK D y aS s) (hA : ∀ q, s.heap.size ≤ q → A q) (hL : ∀ k, k < 179 → k ∈ L) (hrec6 : ∀ {x6n9 : Int32} {x7n9 : Int32} (H : Heap) (locs : List Loc) (ls : Array Slot), gY D y A s L ad σ H locs → lv_has ls 11 [(0, .ref (ad 161)), (1, .ref (ad 163)), (2, .ref (ad 164)), (3, .ref (ad 165)), (4, .ref (ad 166)), (5, .int x5), (6, .int x6n9), (7, .int x7n9)] → rec6 (x6n9, x7n9) = some res → W p l e ({ frames := 0, cells := 0, slots := 0, locals := 0 } : Room) s m args below meth c H locs 0 0 (MQ below (va_Qi (fun (r : Int32) (_ : Unit) => r = res) (fun _ => gO D A (GW L y ad σ)) A) args s 0 0 A) (F0 m 6 ls [])) {H : Heap} {locs : List Loc} {ls : Array Slot} (hY : gY D y A s L ad σ H locs) (hl : lv_has ls 11 [(0, .ref (ad 161)), (1, .ref (ad 163)), (2, .ref (ad 164)), (3, .ref (ad 165)), (4, .ref (ad 166)), (5, .int x5), (6, .int x6), (7, .int x7)]) (h : fL_next_142 N rec6 σ x5 x6 x7 = some res) : W p l e ({ frames := 0, cells := 0, slots := 0, locals := 0 } : Room) s m args below meth c H locs 0 0 (MQ below (va_Qi (fun (r : Int32) (_ : Unit) => r = res) (fun _ => gO D A (GW L y ad σ)) A) args s 0 0 A) (F0 m 142 ls []) := by
  unfold fL_next_142 at h
  refine lv_iload hx hb dL_next_142 (lv_at hl 6 rfl) ?_
  exact wL_next_144 hx hb hr hml hown hg hlocks hK hA hL hrec6 hY (lv_sub hl [0, 1, 2, 3, 4, 5, 7] rfl) h
def fL_next_120 (N : Nat) (rec6 : (Int32 × Int32) → Option Int32) (σ : gS) (x5 : Int32) (x6 : Int32) (x7 : Int32) (x8 : Int32) (x9 : Int32) (xs0 : Int32) : Option Int32 := if x8 = 0 then (fL_next_142 N rec6 σ x5 x6 x7) else (if x9 = 0 then (if xs0 = 0 then (fL_next_142 N rec6 σ x5 x6 x7) else (fL_next_144 N rec6 σ x5 x7 x7)) else (fL_next_142 N rec6 σ x5 x6 x7))
set_option maxRecDepth 100000 in
set_option maxHeartbeats 4000000 in
theorem wL_next_120 {rec6 : (Int32 × Int32) → Option Int32} {σ : gS} {x5 : Int32} {x6 : Int32} {x7 : Int32} {x8 : Int32} {x9 : Int32} {xs0 : Int32} (hx : p.tables.exec = Jvm.exec) (hb : c.code = cL_next) (hr : meth.sig.returnType = (some .int)) (hml : c.maxLocals = 11) (hown : s.vm.findClass RL = some m.cls) (hg : ∀ w ∈ wsL_law, w.before args s = true) (hlocks : meth.locks = false) (hK : gK D y aS s) (hA : ∀ q, s.heap.size ≤ q → A q) (hL : ∀ k, k < 179 → k ∈ L) (hrec6 : ∀ {x6n9 : Int32} {x7n9 : Int32} (H : Heap) (locs : List Loc) (ls : Array Slot), gY D y A s L ad σ H locs → lv_has ls 11 [(0, .ref (ad 161)), (1, .ref (ad 163)), (2, .ref (ad 164)), (3, .ref (ad 165)), (4, .ref (ad 166)), (5, .int x5), (6, .int x6n9), (7, .int x7n9)] → rec6 (x6n9, x7n9) = some res → W p l e ({ frames := 0, cells := 0, slots := 0, locals := 0 } : Room) s m args below meth c H locs 0 0 (MQ below (va_Qi (fun (r : Int32) (_ : Unit) => r = res) (fun _ => gO D A (GW L y ad σ)) A) args s 0 0 A) (F0 m 6 ls [])) {H : Heap} {locs : List Loc} {ls : Array Slot} (hY : gY D y A s L ad σ H locs) (hl : lv_has ls 11 [(0, .ref (ad 161)), (1, .ref (ad 163)), (2, .ref (ad 164)), (3, .ref (ad 165)), (4, .ref (ad 166)), (5, .int x5), (6, .int x6), (7, .int x7), (8, .int x8), (9, .int x9)]) (h : fL_next_120 N rec6 σ x5 x6 x7 x8 x9 xs0 = some res) : W p l e ({ frames := 0, cells := 0, slots := 0, locals := 0 } : Room) s m args below meth c H locs 0 0 (MQ below (va_Qi (fun (r : Int32) (_ : Unit) => r = res) (fun _ => gO D A (GW L y ad σ)) A) args s 0 0 A) (F0 m 120 ls [.int xs0]) := by
  unfold fL_next_120 at h
  refine lv_istore (lv' := [(10, .int xs0), (0, .ref (ad 161)), (1, .ref (ad 163)), (2, .ref (ad 164)), (3, .ref (ad 165)), (4, .ref (ad 166)), (5, .int x5), (6, .int x6), (7, .int x7), (8, .int x8), (9, .int x9)]) hx hb dL_next_120 hl (by decide) rfl ?_
  clear hl
  intro ls hl
  refine lv_iload hx hb dL_next_122 (lv_at hl 9 rfl) ?_
  refine lv_if_eq (tgt := 142) hx hb dL_next_124 (by decide) (fun z_1 => ?_) (fun z_1 => ?_)
  ·
    rw [if_pos z_1] at h
    exact wL_next_142 hx hb hr hml hown hg hlocks hK hA hL hrec6 hY (lv_sub hl [1, 2, 3, 4, 5, 6, 7, 8] rfl) h
  ·
    rw [if_neg z_1] at h
    refine lv_iload hx hb dL_next_127 (lv_at hl 10 rfl) ?_
    refine lv_if_ne (tgt := 142) hx hb dL_next_129 (by decide) (fun z_2 => ?_) (fun z_2 => ?_)
    ·
      rw [if_neg z_2] at h
      exact wL_next_142 hx hb hr hml hown hg hlocks hK hA hL hrec6 hY (lv_sub hl [1, 2, 3, 4, 5, 6, 7, 8] rfl) h
    ·
      rw [if_pos z_2] at h
      refine lv_iload hx hb dL_next_132 (lv_at hl 0 rfl) ?_
      refine lv_if_eq (tgt := 142) hx hb dL_next_134 (by decide) (fun z_3 => ?_) (fun z_3 => ?_)
      ·
        rw [if_pos z_3] at h
        exact wL_next_142 hx hb hr hml hown hg hlocks hK hA hL hrec6 hY (lv_sub hl [1, 2, 3, 4, 5, 6, 7, 8] rfl) h
      ·
        rw [if_neg z_3] at h
        refine lv_iload hx hb dL_next_137 (lv_at hl 8 rfl) ?_
        refine lv_goto (tgt := 144) hx hb dL_next_139 (by decide) ?_
        exact wL_next_144 hx hb hr hml hown hg hlocks hK hA hL hrec6 hY (lv_sub hl [1, 2, 3, 4, 5, 6, 8] rfl) h
def fL_next_115 (N : Nat) (rec6 : (Int32 × Int32) → Option Int32) (σ : gS) (x5 : Int32) (x6 : Int32) (x7 : Int32) (x8 : Int32) (x9 : Int32) : Option Int32 := fL_next_120 N rec6 σ x5 x6 x7 x8 x9 1
set_option maxRecDepth 100000 in
set_option maxHeartbeats 4000000 in
theorem wL_next_115 {rec6 : (Int32 × Int32) → Option Int32} {σ : gS} {x5 : Int32} {x6 : Int32} {x7 : Int32} {x8 : Int32} {x9 : Int32} (hx : p.tables.exec = Jvm.exec) (hb : c.code = cL_next) (hr : meth.sig.returnType = (some .int)) (hml : c.maxLocals = 11) (hown : s.vm.findClass RL = some m.cls) (hg : ∀ w ∈ wsL_law, w.before args s = true) (hlocks : meth.locks = false) (hK : gK D y aS s) (hA : ∀ q, s.heap.size ≤ q → A q) (hL : ∀ k, k < 179 → k ∈ L) (hrec6 : ∀ {x6n9 : Int32} {x7n9 : Int32} (H : Heap) (locs : List Loc) (ls : Array Slot), gY D y A s L ad σ H locs → lv_has ls 11 [(0, .ref (ad 161)), (1, .ref (ad 163)), (2, .ref (ad 164)), (3, .ref (ad 165)), (4, .ref (ad 166)), (5, .int x5), (6, .int x6n9), (7, .int x7n9)] → rec6 (x6n9, x7n9) = some res → W p l e ({ frames := 0, cells := 0, slots := 0, locals := 0 } : Room) s m args below meth c H locs 0 0 (MQ below (va_Qi (fun (r : Int32) (_ : Unit) => r = res) (fun _ => gO D A (GW L y ad σ)) A) args s 0 0 A) (F0 m 6 ls [])) {H : Heap} {locs : List Loc} {ls : Array Slot} (hY : gY D y A s L ad σ H locs) (hl : lv_has ls 11 [(0, .ref (ad 161)), (1, .ref (ad 163)), (2, .ref (ad 164)), (3, .ref (ad 165)), (4, .ref (ad 166)), (5, .int x5), (6, .int x6), (7, .int x7), (8, .int x8), (9, .int x9)]) (h : fL_next_115 N rec6 σ x5 x6 x7 x8 x9 = some res) : W p l e ({ frames := 0, cells := 0, slots := 0, locals := 0 } : Room) s m args below meth c H locs 0 0 (MQ below (va_Qi (fun (r : Int32) (_ : Unit) => r = res) (fun _ => gO D A (GW L y ad σ)) A) args s 0 0 A) (F0 m 115 ls []) := by
  unfold fL_next_115 at h
  refine lv_iconst (v := 1) hx hb dL_next_115 (by decide) ?_
  refine lv_goto (tgt := 120) hx hb dL_next_116 (by decide) ?_
  exact wL_next_120 hx hb hr hml hown hg hlocks hK hA hL hrec6 hY (lv_sub hl [0, 1, 2, 3, 4, 5, 6, 7, 8, 9] rfl) h
def fL_next_119 (N : Nat) (rec6 : (Int32 × Int32) → Option Int32) (σ : gS) (x5 : Int32) (x6 : Int32) (x7 : Int32) (x8 : Int32) (x9 : Int32) : Option Int32 := fL_next_120 N rec6 σ x5 x6 x7 x8 x9 0
set_option maxRecDepth 100000 in
set_option maxHeartbeats 4000000 in
theorem wL_next_119 {rec6 : (Int32 × Int32) → Option Int32} {σ : gS} {x5 : Int32} {x6 : Int32} {x7 : Int32} {x8 : Int32} {x9 : Int32} (hx : p.tables.exec = Jvm.exec) (hb : c.code = cL_next) (hr : meth.sig.returnType = (some .int)) (hml : c.maxLocals = 11) (hown : s.vm.findClass RL = some m.cls) (hg : ∀ w ∈ wsL_law, w.before args s = true) (hlocks : meth.locks = false) (hK : gK D y aS s) (hA : ∀ q, s.heap.size ≤ q → A q) (hL : ∀ k, k < 179 → k ∈ L) (hrec6 : ∀ {x6n9 : Int32} {x7n9 : Int32} (H : Heap) (locs : List Loc) (ls : Array Slot), gY D y A s L ad σ H locs → lv_has ls 11 [(0, .ref (ad 161)), (1, .ref (ad 163)), (2, .ref (ad 164)), (3, .ref (ad 165)), (4, .ref (ad 166)), (5, .int x5), (6, .int x6n9), (7, .int x7n9)] → rec6 (x6n9, x7n9) = some res → W p l e ({ frames := 0, cells := 0, slots := 0, locals := 0 } : Room) s m args below meth c H locs 0 0 (MQ below (va_Qi (fun (r : Int32) (_ : Unit) => r = res) (fun _ => gO D A (GW L y ad σ)) A) args s 0 0 A) (F0 m 6 ls [])) {H : Heap} {locs : List Loc} {ls : Array Slot} (hY : gY D y A s L ad σ H locs) (hl : lv_has ls 11 [(0, .ref (ad 161)), (1, .ref (ad 163)), (2, .ref (ad 164)), (3, .ref (ad 165)), (4, .ref (ad 166)), (5, .int x5), (6, .int x6), (7, .int x7), (8, .int x8), (9, .int x9)]) (h : fL_next_119 N rec6 σ x5 x6 x7 x8 x9 = some res) : W p l e ({ frames := 0, cells := 0, slots := 0, locals := 0 } : Room) s m args below meth c H locs 0 0 (MQ below (va_Qi (fun (r : Int32) (_ : Unit) => r = res) (fun _ => gO D A (GW L y ad σ)) A) args s 0 0 A) (F0 m 119 ls []) := by
  unfold fL_next_119 at h
  refine lv_iconst (v := 0) hx hb dL_next_119 (by decide) ?_
  exact wL_next_120 hx hb hr hml hown hg hlocks hK hA hL hrec6 hY (lv_sub hl [0, 1, 2, 3, 4, 5, 6, 7, 8, 9] rfl) h
def fL_next_73 (N : Nat) (rec6 : (Int32 × Int32) → Option Int32) (σ : gS) (x5 : Int32) (x6 : Int32) (x7 : Int32) (x8 : Int32) (xs0 : Int32) : Option Int32 := if x6 < 0 then (fL_next_115 N rec6 σ x5 x6 x7 x8 xs0) else (if x7 < 0 ∨ 24 ≤ x7.toNatClampNeg then none else (if x6 < 0 ∨ 24 ≤ x6.toNatClampNeg then none else (if (σ.1 165 x6.toNatClampNeg) < (σ.1 165 x7.toNatClampNeg) then (fL_next_115 N rec6 σ x5 x6 x7 x8 xs0) else (if x7 < 0 ∨ 24 ≤ x7.toNatClampNeg then none else (if x6 < 0 ∨ 24 ≤ x6.toNatClampNeg then none else (if (σ.1 165 x7.toNatClampNeg) = (σ.1 165 x6.toNatClampNeg) then (if x7 < 0 ∨ 24 ≤ x7.toNatClampNeg then none else (if x6 < 0 ∨ 24 ≤ x6.toNatClampNeg then none else (if (σ.1 166 x6.toNatClampNeg) ≤ (σ.1 166 x7.toNatClampNeg) then (fL_next_119 N rec6 σ x5 x6 x7 x8 xs0) else (fL_next_115 N rec6 σ x5 x6 x7 x8 xs0)))) else (fL_next_119 N rec6 σ x5 x6 x7 x8 xs0)))))))
set_option maxRecDepth 100000 in
set_option maxHeartbeats 4000000 in
theorem wL_next_73 {rec6 : (Int32 × Int32) → Option Int32} {σ : gS} {x5 : Int32} {x6 : Int32} {x7 : Int32} {x8 : Int32} {xs0 : Int32} (hx : p.tables.exec = Jvm.exec) (hb : c.code = cL_next) (hr : meth.sig.returnType = (some .int)) (hml : c.maxLocals = 11) (hown : s.vm.findClass RL = some m.cls) (hg : ∀ w ∈ wsL_law, w.before args s = true) (hlocks : meth.locks = false) (hK : gK D y aS s) (hA : ∀ q, s.heap.size ≤ q → A q) (hL : ∀ k, k < 179 → k ∈ L) (hrec6 : ∀ {x6n9 : Int32} {x7n9 : Int32} (H : Heap) (locs : List Loc) (ls : Array Slot), gY D y A s L ad σ H locs → lv_has ls 11 [(0, .ref (ad 161)), (1, .ref (ad 163)), (2, .ref (ad 164)), (3, .ref (ad 165)), (4, .ref (ad 166)), (5, .int x5), (6, .int x6n9), (7, .int x7n9)] → rec6 (x6n9, x7n9) = some res → W p l e ({ frames := 0, cells := 0, slots := 0, locals := 0 } : Room) s m args below meth c H locs 0 0 (MQ below (va_Qi (fun (r : Int32) (_ : Unit) => r = res) (fun _ => gO D A (GW L y ad σ)) A) args s 0 0 A) (F0 m 6 ls [])) {H : Heap} {locs : List Loc} {ls : Array Slot} (hY : gY D y A s L ad σ H locs) (hl : lv_has ls 11 [(0, .ref (ad 161)), (1, .ref (ad 163)), (2, .ref (ad 164)), (3, .ref (ad 165)), (4, .ref (ad 166)), (5, .int x5), (6, .int x6), (7, .int x7), (8, .int x8)]) (h : fL_next_73 N rec6 σ x5 x6 x7 x8 xs0 = some res) : W p l e ({ frames := 0, cells := 0, slots := 0, locals := 0 } : Room) s m args below meth c H locs 0 0 (MQ below (va_Qi (fun (r : Int32) (_ : Unit) => r = res) (fun _ => gO D A (GW L y ad σ)) A) args s 0 0 A) (F0 m 73 ls [.int xs0]) := by
  unfold fL_next_73 at h
  refine lv_istore (lv' := [(9, .int xs0), (0, .ref (ad 161)), (1, .ref (ad 163)), (2, .ref (ad 164)), (3, .ref (ad 165)), (4, .ref (ad 166)), (5, .int x5), (6, .int x6), (7, .int x7), (8, .int x8)]) hx hb dL_next_73 hl (by decide) rfl ?_
  clear hl
  intro ls hl
  refine lv_iload hx hb dL_next_75 (lv_at hl 7 rfl) ?_
  refine lv_if_lt (tgt := 115) hx hb dL_next_77 (by decide) (fun z_1 => ?_) (fun z_1 => ?_)
  ·
    rw [if_pos z_1] at h
    exact wL_next_115 hx hb hr hml hown hg hlocks hK hA hL hrec6 hY (lv_sub hl [1, 2, 3, 4, 5, 6, 7, 8, 9, 0] rfl) h
  ·
    rw [if_neg z_1] at h
    refine lv_aload_n hx hb dL_next_80 rfl (lv_at hl 4 rfl) ?_
    refine lv_iload hx hb dL_next_81 (lv_at hl 8 rfl) ?_
    obtain ⟨z_2, h⟩ := g_guard h
    refine G_iald (j := x7.toNatClampNeg) hx hb hK hY (hL 165 (by decide)) gk_165 (by rw [gl_165]; exact z_2) rfl dL_next_83 ?_
    refine lv_aload_n hx hb dL_next_84 rfl (lv_at hl 4 rfl) ?_
    refine lv_iload hx hb dL_next_85 (lv_at hl 7 rfl) ?_
    obtain ⟨z_3, h⟩ := g_guard h
    refine G_iald (j := x6.toNatClampNeg) hx hb hK hY (hL 165 (by decide)) gk_165 (by rw [gl_165]; exact z_3) rfl dL_next_87 ?_
    refine lv_icmp_gt (tgt := 115) hx hb dL_next_88 (by decide) (fun z_4 => ?_) (fun z_4 => ?_)
    ·
      rw [if_pos z_4] at h
      exact wL_next_115 hx hb hr hml hown hg hlocks hK hA hL hrec6 hY (lv_sub hl [1, 2, 3, 4, 5, 6, 7, 8, 9, 0] rfl) h
    ·
      rw [if_neg z_4] at h
      refine lv_aload_n hx hb dL_next_91 rfl (lv_at hl 4 rfl) ?_
      refine lv_iload hx hb dL_next_92 (lv_at hl 8 rfl) ?_
      obtain ⟨z_5, h⟩ := g_guard h
      refine G_iald (j := x7.toNatClampNeg) hx hb hK hY (hL 165 (by decide)) gk_165 (by rw [gl_165]; exact z_5) rfl dL_next_94 ?_
      refine lv_aload_n hx hb dL_next_95 rfl (lv_at hl 4 rfl) ?_
      refine lv_iload hx hb dL_next_96 (lv_at hl 7 rfl) ?_
      obtain ⟨z_6, h⟩ := g_guard h
      refine G_iald (j := x6.toNatClampNeg) hx hb hK hY (hL 165 (by decide)) gk_165 (by rw [gl_165]; exact z_6) rfl dL_next_98 ?_
      refine lv_icmp_ne (tgt := 119) hx hb dL_next_99 (by decide) (fun z_7 => ?_) (fun z_7 => ?_)
      ·
        rw [if_neg z_7] at h
        exact wL_next_119 hx hb hr hml hown hg hlocks hK hA hL hrec6 hY (lv_sub hl [1, 2, 3, 4, 5, 6, 7, 8, 9, 0] rfl) h
      ·
        rw [if_pos z_7] at h
        refine lv_aload hx hb dL_next_102 (lv_at hl 5 rfl) ?_
        refine lv_iload hx hb dL_next_104 (lv_at hl 8 rfl) ?_
        obtain ⟨z_8, h⟩ := g_guard h
        refine G_iald (j := x7.toNatClampNeg) hx hb hK hY (hL 166 (by decide)) gk_166 (by rw [gl_166]; exact z_8) rfl dL_next_106 ?_
        refine lv_aload hx hb dL_next_107 (lv_at hl 5 rfl) ?_
        refine lv_iload hx hb dL_next_109 (lv_at hl 7 rfl) ?_
        obtain ⟨z_9, h⟩ := g_guard h
        refine G_iald (j := x6.toNatClampNeg) hx hb hK hY (hL 166 (by decide)) gk_166 (by rw [gl_166]; exact z_9) rfl dL_next_111 ?_
        refine lv_icmp_ge (tgt := 119) hx hb dL_next_112 (by decide) (fun z_10 => ?_) (fun z_10 => ?_)
        ·
          rw [if_pos z_10] at h
          exact wL_next_119 hx hb hr hml hown hg hlocks hK hA hL hrec6 hY (lv_sub hl [1, 2, 3, 4, 5, 6, 7, 8, 9, 0] rfl) h
        ·
          rw [if_neg z_10] at h
          exact wL_next_115 hx hb hr hml hown hg hlocks hK hA hL hrec6 hY (lv_sub hl [1, 2, 3, 4, 5, 6, 7, 8, 9, 0] rfl) h
def fL_next_72 (N : Nat) (rec6 : (Int32 × Int32) → Option Int32) (σ : gS) (x5 : Int32) (x6 : Int32) (x7 : Int32) (x8 : Int32) : Option Int32 := fL_next_73 N rec6 σ x5 x6 x7 x8 0
set_option maxRecDepth 100000 in
set_option maxHeartbeats 4000000 in
theorem wL_next_72 {rec6 : (Int32 × Int32) → Option Int32} {σ : gS} {x5 : Int32} {x6 : Int32} {x7 : Int32} {x8 : Int32} (hx : p.tables.exec = Jvm.exec) (hb : c.code = cL_next) (hr : meth.sig.returnType = (some .int)) (hml : c.maxLocals = 11) (hown : s.vm.findClass RL = some m.cls) (hg : ∀ w ∈ wsL_law, w.before args s = true) (hlocks : meth.locks = false) (hK : gK D y aS s) (hA : ∀ q, s.heap.size ≤ q → A q) (hL : ∀ k, k < 179 → k ∈ L) (hrec6 : ∀ {x6n9 : Int32} {x7n9 : Int32} (H : Heap) (locs : List Loc) (ls : Array Slot), gY D y A s L ad σ H locs → lv_has ls 11 [(0, .ref (ad 161)), (1, .ref (ad 163)), (2, .ref (ad 164)), (3, .ref (ad 165)), (4, .ref (ad 166)), (5, .int x5), (6, .int x6n9), (7, .int x7n9)] → rec6 (x6n9, x7n9) = some res → W p l e ({ frames := 0, cells := 0, slots := 0, locals := 0 } : Room) s m args below meth c H locs 0 0 (MQ below (va_Qi (fun (r : Int32) (_ : Unit) => r = res) (fun _ => gO D A (GW L y ad σ)) A) args s 0 0 A) (F0 m 6 ls [])) {H : Heap} {locs : List Loc} {ls : Array Slot} (hY : gY D y A s L ad σ H locs) (hl : lv_has ls 11 [(0, .ref (ad 161)), (1, .ref (ad 163)), (2, .ref (ad 164)), (3, .ref (ad 165)), (4, .ref (ad 166)), (5, .int x5), (6, .int x6), (7, .int x7), (8, .int x8)]) (h : fL_next_72 N rec6 σ x5 x6 x7 x8 = some res) : W p l e ({ frames := 0, cells := 0, slots := 0, locals := 0 } : Room) s m args below meth c H locs 0 0 (MQ below (va_Qi (fun (r : Int32) (_ : Unit) => r = res) (fun _ => gO D A (GW L y ad σ)) A) args s 0 0 A) (F0 m 72 ls []) := by
  unfold fL_next_72 at h
  refine lv_iconst (v := 0) hx hb dL_next_72 (by decide) ?_
  exact wL_next_73 hx hb hr hml hown hg hlocks hK hA hL hrec6 hY (lv_sub hl [0, 1, 2, 3, 4, 5, 6, 7, 8] rfl) h
def fL_next_37 (N : Nat) (rec6 : (Int32 × Int32) → Option Int32) (σ : gS) (x5 : Int32) (x6 : Int32) (x7 : Int32) (xs0 : Int32) : Option Int32 := if x7 < 0 ∨ 24 ≤ x7.toNatClampNeg then none else (if (σ.1 163 x7.toNatClampNeg) < 0 then (fL_next_72 N rec6 σ x5 x6 x7 xs0) else (if x7 < 0 ∨ 24 ≤ x7.toNatClampNeg then none else (if (σ.1 163 x7.toNatClampNeg) < 0 ∨ 24 ≤ (σ.1 163 x7.toNatClampNeg).toNatClampNeg then none else (if (σ.1 164 ((σ.1 163 x7.toNatClampNeg).toNatClampNeg)) = 1 then (if x7 < 0 ∨ 24 ≤ x7.toNatClampNeg then none else (if ((x5 >>> ((σ.1 163 x7.toNatClampNeg) &&& 31)) &&& 1) = 0 then (fL_next_73 N rec6 σ x5 x6 x7 xs0 1) else (fL_next_72 N rec6 σ x5 x6 x7 xs0))) else (fL_next_72 N rec6 σ x5 x6 x7 xs0)))))
set_option maxRecDepth 100000 in
set_option maxHeartbeats 4000000 in
theorem wL_next_37 {rec6 : (Int32 × Int32) → Option Int32} {σ : gS} {x5 : Int32} {x6 : Int32} {x7 : Int32} {xs0 : Int32} (hx : p.tables.exec = Jvm.exec) (hb : c.code = cL_next) (hr : meth.sig.returnType = (some .int)) (hml : c.maxLocals = 11) (hown : s.vm.findClass RL = some m.cls) (hg : ∀ w ∈ wsL_law, w.before args s = true) (hlocks : meth.locks = false) (hK : gK D y aS s) (hA : ∀ q, s.heap.size ≤ q → A q) (hL : ∀ k, k < 179 → k ∈ L) (hrec6 : ∀ {x6n9 : Int32} {x7n9 : Int32} (H : Heap) (locs : List Loc) (ls : Array Slot), gY D y A s L ad σ H locs → lv_has ls 11 [(0, .ref (ad 161)), (1, .ref (ad 163)), (2, .ref (ad 164)), (3, .ref (ad 165)), (4, .ref (ad 166)), (5, .int x5), (6, .int x6n9), (7, .int x7n9)] → rec6 (x6n9, x7n9) = some res → W p l e ({ frames := 0, cells := 0, slots := 0, locals := 0 } : Room) s m args below meth c H locs 0 0 (MQ below (va_Qi (fun (r : Int32) (_ : Unit) => r = res) (fun _ => gO D A (GW L y ad σ)) A) args s 0 0 A) (F0 m 6 ls [])) {H : Heap} {locs : List Loc} {ls : Array Slot} (hY : gY D y A s L ad σ H locs) (hl : lv_has ls 11 [(0, .ref (ad 161)), (1, .ref (ad 163)), (2, .ref (ad 164)), (3, .ref (ad 165)), (4, .ref (ad 166)), (5, .int x5), (6, .int x6), (7, .int x7)]) (h : fL_next_37 N rec6 σ x5 x6 x7 xs0 = some res) : W p l e ({ frames := 0, cells := 0, slots := 0, locals := 0 } : Room) s m args below meth c H locs 0 0 (MQ below (va_Qi (fun (r : Int32) (_ : Unit) => r = res) (fun _ => gO D A (GW L y ad σ)) A) args s 0 0 A) (F0 m 37 ls [.int xs0]) := by
  unfold fL_next_37 at h
  refine lv_istore (lv' := [(8, .int xs0), (0, .ref (ad 161)), (1, .ref (ad 163)), (2, .ref (ad 164)), (3, .ref (ad 165)), (4, .ref (ad 166)), (5, .int x5), (6, .int x6), (7, .int x7)]) hx hb dL_next_37 hl (by decide) rfl ?_
  clear hl
  intro ls hl
  refine lv_aload_n hx hb dL_next_39 rfl (lv_at hl 2 rfl) ?_
  refine lv_iload hx hb dL_next_40 (lv_at hl 8 rfl) ?_
  obtain ⟨z_1, h⟩ := g_guard h
  refine G_iald (j := x7.toNatClampNeg) hx hb hK hY (hL 163 (by decide)) gk_163 (by rw [gl_163]; exact z_1) rfl dL_next_42 ?_
  refine lv_if_lt (tgt := 72) hx hb dL_next_43 (by decide) (fun z_2 => ?_) (fun z_2 => ?_)
  ·
    rw [if_pos z_2] at h
    exact wL_next_72 hx hb hr hml hown hg hlocks hK hA hL hrec6 hY (lv_sub hl [1, 2, 3, 4, 5, 6, 7, 8, 0] rfl) h
  ·
    rw [if_neg z_2] at h
    refine lv_aload_n hx hb dL_next_46 rfl (lv_at hl 3 rfl) ?_
    refine lv_aload_n hx hb dL_next_47 rfl (lv_at hl 2 rfl) ?_
    refine lv_iload hx hb dL_next_48 (lv_at hl 8 rfl) ?_
    obtain ⟨z_3, h⟩ := g_guard h
    refine G_iald (j := x7.toNatClampNeg) hx hb hK hY (hL 163 (by decide)) gk_163 (by rw [gl_163]; exact z_3) rfl dL_next_50 ?_
    obtain ⟨z_4, h⟩ := g_guard h
    refine G_iald (j := (σ.1 163 x7.toNatClampNeg).toNatClampNeg) hx hb hK hY (hL 164 (by decide)) gk_164 (by rw [gl_164]; exact z_4) rfl dL_next_51 ?_
    refine lv_iconst (v := 1) hx hb dL_next_52 (by decide) ?_
    refine lv_icmp_ne (tgt := 72) hx hb dL_next_53 (by decide) (fun z_5 => ?_) (fun z_5 => ?_)
    ·
      rw [if_neg z_5] at h
      exact wL_next_72 hx hb hr hml hown hg hlocks hK hA hL hrec6 hY (lv_sub hl [1, 2, 3, 4, 5, 6, 7, 8, 0] rfl) h
    ·
      rw [if_pos z_5] at h
      refine lv_iload hx hb dL_next_56 (lv_at hl 6 rfl) ?_
      refine lv_aload_n hx hb dL_next_58 rfl (lv_at hl 2 rfl) ?_
      refine lv_iload hx hb dL_next_59 (lv_at hl 8 rfl) ?_
      obtain ⟨z_6, h⟩ := g_guard h
      refine G_iald (j := x7.toNatClampNeg) hx hb hK hY (hL 163 (by decide)) gk_163 (by rw [gl_163]; exact z_6) rfl dL_next_61 ?_
      refine lv_ishr hx hb dL_next_62 ?_
      refine lv_iconst (v := 1) hx hb dL_next_63 (by decide) ?_
      refine lv_iand hx hb dL_next_64 ?_
      refine lv_if_ne (tgt := 72) hx hb dL_next_65 (by decide) (fun z_7 => ?_) (fun z_7 => ?_)
      ·
        rw [if_neg z_7] at h
        exact wL_next_72 hx hb hr hml hown hg hlocks hK hA hL hrec6 hY (lv_sub hl [1, 2, 3, 4, 5, 6, 7, 8, 0] rfl) h
      ·
        rw [if_pos z_7] at h
        refine lv_iconst (v := 1) hx hb dL_next_68 (by decide) ?_
        refine lv_goto (tgt := 73) hx hb dL_next_69 (by decide) ?_
        exact wL_next_73 hx hb hr hml hown hg hlocks hK hA hL hrec6 hY (lv_sub hl [1, 2, 3, 4, 5, 6, 7, 8, 0] rfl) h
def fL_next_36 (N : Nat) (rec6 : (Int32 × Int32) → Option Int32) (σ : gS) (x5 : Int32) (x6 : Int32) (x7 : Int32) : Option Int32 := fL_next_37 N rec6 σ x5 x6 x7 0
set_option maxRecDepth 100000 in
set_option maxHeartbeats 4000000 in
theorem wL_next_36 {rec6 : (Int32 × Int32) → Option Int32} {σ : gS} {x5 : Int32} {x6 : Int32} {x7 : Int32} (hx : p.tables.exec = Jvm.exec) (hb : c.code = cL_next) (hr : meth.sig.returnType = (some .int)) (hml : c.maxLocals = 11) (hown : s.vm.findClass RL = some m.cls) (hg : ∀ w ∈ wsL_law, w.before args s = true) (hlocks : meth.locks = false) (hK : gK D y aS s) (hA : ∀ q, s.heap.size ≤ q → A q) (hL : ∀ k, k < 179 → k ∈ L) (hrec6 : ∀ {x6n9 : Int32} {x7n9 : Int32} (H : Heap) (locs : List Loc) (ls : Array Slot), gY D y A s L ad σ H locs → lv_has ls 11 [(0, .ref (ad 161)), (1, .ref (ad 163)), (2, .ref (ad 164)), (3, .ref (ad 165)), (4, .ref (ad 166)), (5, .int x5), (6, .int x6n9), (7, .int x7n9)] → rec6 (x6n9, x7n9) = some res → W p l e ({ frames := 0, cells := 0, slots := 0, locals := 0 } : Room) s m args below meth c H locs 0 0 (MQ below (va_Qi (fun (r : Int32) (_ : Unit) => r = res) (fun _ => gO D A (GW L y ad σ)) A) args s 0 0 A) (F0 m 6 ls [])) {H : Heap} {locs : List Loc} {ls : Array Slot} (hY : gY D y A s L ad σ H locs) (hl : lv_has ls 11 [(0, .ref (ad 161)), (1, .ref (ad 163)), (2, .ref (ad 164)), (3, .ref (ad 165)), (4, .ref (ad 166)), (5, .int x5), (6, .int x6), (7, .int x7)]) (h : fL_next_36 N rec6 σ x5 x6 x7 = some res) : W p l e ({ frames := 0, cells := 0, slots := 0, locals := 0 } : Room) s m args below meth c H locs 0 0 (MQ below (va_Qi (fun (r : Int32) (_ : Unit) => r = res) (fun _ => gO D A (GW L y ad σ)) A) args s 0 0 A) (F0 m 36 ls []) := by
  unfold fL_next_36 at h
  refine lv_iconst (v := 0) hx hb dL_next_36 (by decide) ?_
  exact wL_next_37 hx hb hr hml hown hg hlocks hK hA hL hrec6 hY (lv_sub hl [0, 1, 2, 3, 4, 5, 6, 7] rfl) h
def fL_next_6 (N : Nat) (σ : gS) (x5 : Int32) (rec6 : (Int32 × Int32) → Option Int32) (xx : Int32 × Int32) : Option Int32 := match xx with
  | (x6, x7) => if (σ.1 161 0) ≤ x7 then (some x6) else (if x7 < 0 ∨ 24 ≤ x7.toNatClampNeg then none else (if (σ.1 164 x7.toNatClampNeg) = 1 then (if ((x5 >>> (x7 &&& 31)) &&& 1) = 0 then (fL_next_37 N rec6 σ x5 x6 x7 1) else (fL_next_36 N rec6 σ x5 x6 x7)) else (fL_next_36 N rec6 σ x5 x6 x7)))
set_option maxRecDepth 100000 in
set_option maxHeartbeats 4000000 in
theorem wL_next_6 {σ : gS} {x5 : Int32} (hx : p.tables.exec = Jvm.exec) (hb : c.code = cL_next) (hr : meth.sig.returnType = (some .int)) (hml : c.maxLocals = 11) (hown : s.vm.findClass RL = some m.cls) (hg : ∀ w ∈ wsL_law, w.before args s = true) (hlocks : meth.locks = false) (hK : gK D y aS s) (hA : ∀ q, s.heap.size ≤ q → A q) (hL : ∀ k, k < 179 → k ∈ L) : ∀ (n : Nat) {x6 : Int32} {x7 : Int32} (H : Heap) (locs : List Loc) (ls : Array Slot), gY D y A s L ad σ H locs → lv_has ls 11 [(0, .ref (ad 161)), (1, .ref (ad 163)), (2, .ref (ad 164)), (3, .ref (ad 165)), (4, .ref (ad 166)), (5, .int x5), (6, .int x6), (7, .int x7)] → lp (fL_next_6 N σ x5) n (x6, x7) = some res → W p l e ({ frames := 0, cells := 0, slots := 0, locals := 0 } : Room) s m args below meth c H locs 0 0 (MQ below (va_Qi (fun (r : Int32) (_ : Unit) => r = res) (fun _ => gO D A (GW L y ad σ)) A) args s 0 0 A) (F0 m 6 ls []) := by
  intro n
  induction n with
  | zero => intro x6 x7 H locs ls hY hl h; exact nomatch (show none = some res from h)
  | succ n hrec6 =>
    intro x6 x7 H locs ls hY hl h
    replace h : fL_next_6 N σ x5 (lp (fL_next_6 N σ x5) n) (x6, x7) = some res := h
    generalize lp (fL_next_6 N σ x5) n = rec6 at h hrec6
    unfold fL_next_6 at h
    try dsimp only at h
    refine lv_iload hx hb dL_next_6 (lv_at hl 7 rfl) ?_
    refine lv_aload_n hx hb dL_next_8 rfl (lv_at hl 0 rfl) ?_
    refine lv_iconst (v := 0) hx hb dL_next_9 (by decide) ?_
    refine G_iald (j := 0) hx hb hK hY (hL 161 (by decide)) gk_161 (by rw [gl_161]; decide +kernel) (by decide +kernel) dL_next_10 ?_
    refine lv_icmp_ge (tgt := 152) hx hb dL_next_11 (by decide) (fun z_1 => ?_) (fun z_1 => ?_)
    ·
      rw [if_pos z_1] at h
      refine lv_iload hx hb dL_next_152 (lv_at hl 6 rfl) ?_
      cases h
      exact g_iret hx hb hr hlocks () hY.1 hY.2.1 hY.2.2 rfl rfl (Nat.le_of_ble_eq_true rfl) (Nat.le_of_ble_eq_true rfl) dL_next_154
    ·
      rw [if_neg z_1] at h
      refine lv_aload_n hx hb dL_next_14 rfl (lv_at hl 2 rfl) ?_
      refine lv_iload hx hb dL_next_15 (lv_at hl 7 rfl) ?_
      obtain ⟨z_2, h⟩ := g_guard h
      refine G_iald (j := x7.toNatClampNeg) hx hb hK hY (hL 164 (by decide)) gk_164 (by rw [gl_164]; exact z_2) rfl dL_next_17 ?_
      refine lv_iconst (v := 1) hx hb dL_next_18 (by decide) ?_
      refine lv_icmp_ne (tgt := 36) hx hb dL_next_19 (by decide) (fun z_3 => ?_) (fun z_3 => ?_)
      ·
        rw [if_neg z_3] at h
        exact wL_next_36 hx hb hr hml hown hg hlocks hK hA hL hrec6 hY (lv_sub hl [0, 1, 2, 3, 4, 5, 6, 7] rfl) h
      ·
        rw [if_pos z_3] at h
        refine lv_iload hx hb dL_next_22 (lv_at hl 5 rfl) ?_
        refine lv_iload hx hb dL_next_24 (lv_at hl 7 rfl) ?_
        refine lv_ishr hx hb dL_next_26 ?_
        refine lv_iconst (v := 1) hx hb dL_next_27 (by decide) ?_
        refine lv_iand hx hb dL_next_28 ?_
        refine lv_if_ne (tgt := 36) hx hb dL_next_29 (by decide) (fun z_4 => ?_) (fun z_4 => ?_)
        ·
          rw [if_neg z_4] at h
          exact wL_next_36 hx hb hr hml hown hg hlocks hK hA hL hrec6 hY (lv_sub hl [0, 1, 2, 3, 4, 5, 6, 7] rfl) h
        ·
          rw [if_pos z_4] at h
          refine lv_iconst (v := 1) hx hb dL_next_32 (by decide) ?_
          refine lv_goto (tgt := 37) hx hb dL_next_33 (by decide) ?_
          exact wL_next_37 hx hb hr hml hown hg hlocks hK hA hL hrec6 hY (lv_sub hl [0, 1, 2, 3, 4, 5, 6, 7] rfl) h
end
def fL_next (N : Nat) (σ : gS) (x5 : Int32) : Option Int32 := lp (fL_next_6 N σ x5) N ((-1), 0)
set_option maxRecDepth 100000 in
set_option maxHeartbeats 4000000 in
theorem kL_next (l : Launch) (D : va_G) (y : Nat → ClassId) (aS : Nat → Nat) (sz : Nat) (L : List Nat) (hL : ∀ k, k < 179 → k ∈ L) (ad : Nat → Nat) (N : Nat) (σ : gS) (x5 : Int32) (res : Int32) (h : fL_next N σ x5 = some res) : Met l yL_next (Cond.code yL_next cL_next 11 (some .int) :: wsL_law) ({ frames := 0, cells := 0, slots := 0, locals := 0 } : Room) (va_Pc [.ref (ad 161), .ref (ad 163), .ref (ad 164), .ref (ad 165), .ref (ad 166), .int x5] (gI D y aS (GW L y ad σ) sz)) (va_Qi (fun (r : Int32) (_ : Unit) => r = res) (fun _ => gO D (va_A (GW L y ad σ) sz) (GW L y ad σ)) (va_A (GW L y ad σ) sz)) 0 0 (va_A (GW L y ad σ) sz) := by
  refine g_of (by decide) (Nat.le_of_ble_eq_true rfl) ?_
  intro p e s m below meth c ls A hx hb hr hml hown hg hlocks hin hsz hK hP hD hS hA hAe hl
  rw [← hAe]
  replace hown : s.vm.findClass RL = some m.cls := hown
  have hY : gY D y A s L ad σ s.heap [] := ⟨hP, hD, hS⟩
  clear hP hD hS
  replace hl : lv_has ls 11 [(0, .ref (ad 161)), (1, .ref (ad 163)), (2, .ref (ad 164)), (3, .ref (ad 165)), (4, .ref (ad 166)), (5, .int x5)] := hl
  unfold fL_next at h
  refine lv_iconst (v := (-1)) hx hb dL_next_0 (by decide) ?_
  refine lv_istore (lv' := [(6, .int (-1)), (0, .ref (ad 161)), (1, .ref (ad 163)), (2, .ref (ad 164)), (3, .ref (ad 165)), (4, .ref (ad 166)), (5, .int x5)]) hx hb dL_next_1 hl (by decide) rfl ?_
  clear hl
  intro ls hl
  refine lv_iconst (v := 0) hx hb dL_next_3 (by decide) ?_
  refine lv_istore (lv' := [(7, .int 0), (6, .int (-1)), (0, .ref (ad 161)), (1, .ref (ad 163)), (2, .ref (ad 164)), (3, .ref (ad 165)), (4, .ref (ad 166)), (5, .int x5)]) hx hb dL_next_4 hl (by decide) rfl ?_
  clear hl
  intro ls hl
  exact wL_next_6 hx hb hr hml hown hg hlocks hK hA hL N _ _ _ hY (lv_sub hl [2, 3, 4, 5, 6, 7, 1, 0] rfl) h
theorem ggS_RL_41_L_next : GoodIn wsL_law (va_wsS RL 41 yL_next (Cond.code yL_next cL_next 11 (some .int) :: wsL_law)) := g_gi (fun _ h => h) gW_good (List.forall_mem_cons.mpr ⟨⟨gw_183, rfl⟩, List.forall_mem_cons.mpr ⟨⟨gw_184, rfl⟩, List.forall_mem_cons.mpr ⟨⟨gw_162, rfl⟩, fun _ h => nomatch h⟩⟩⟩) ⟨gw_185, rfl⟩
theorem ggS_RL_45_L_fits : GoodIn wsL_law (va_wsS RL 45 yL_fits (Cond.code yL_fits cL_fits 5 (some .boolean) :: wsL_law)) := g_gi (fun _ h => h) gW_good (List.forall_mem_cons.mpr ⟨⟨gw_448, rfl⟩, List.forall_mem_cons.mpr ⟨⟨gw_449, rfl⟩, List.forall_mem_cons.mpr ⟨⟨gw_162, rfl⟩, fun _ h => nomatch h⟩⟩⟩) ⟨gw_450, rfl⟩
theorem ggS_RL_49_L_onto : GoodIn wsL_law (va_wsS RL 49 yL_onto (Cond.code yL_onto cL_onto 5 (some .long) :: wsL_law)) := g_gi (fun _ h => h) gW_good (List.forall_mem_cons.mpr ⟨⟨gw_455, rfl⟩, List.forall_mem_cons.mpr ⟨⟨gw_456, rfl⟩, List.forall_mem_cons.mpr ⟨⟨gw_162, rfl⟩, fun _ h => nomatch h⟩⟩⟩) ⟨gw_457, rfl⟩
section
variable {p : Program} {l : Launch} {e : Env} {s : State} {m : MethodId} {args : Array Value} {below : List Frame} {meth : Method} {c : Code} {D : va_G} {y : Nat → ClassId} {aS : Nat → Nat} {A : Nat → Prop} {L : List Nat} {ad : Nat → Nat} {N : Nat} {res : (Int32 × gS)}
def fL_batches_186 (N : Nat) (rec13 : (gS × Int32 × Int32 × Int64 × Int32) → Option (Int32 × gS)) (σ : gS) (x12 : Int32) (x13 : Int32) (x14 : Int64) (x16 : Int32) (x17 : Int32) : Option (Int32 × gS) := if x16 < 0 ∨ 5 ≤ x16.toNatClampNeg then none else (if x12 = x17 then (some (x12, (sJ σ 180 x16.toNatClampNeg x14))) else (rec13 ((sJ σ 180 x16.toNatClampNeg x14), x12, x13, x14, (x16 + 1))))
set_option maxRecDepth 100000 in
set_option maxHeartbeats 4000000 in
theorem wL_batches_186 {rec13 : (gS × Int32 × Int32 × Int64 × Int32) → Option (Int32 × gS)} {σ : gS} {x12 : Int32} {x13 : Int32} {x14 : Int64} {x16 : Int32} {x17 : Int32} (hx : p.tables.exec = Jvm.exec) (hb : c.code = cL_batches) (hr : meth.sig.returnType = (some .int)) (hml : c.maxLocals = 21) (hown : s.vm.findClass RL = some m.cls) (hg : ∀ w ∈ wsL_law, w.before args s = true) (hlocks : meth.locks = false) (hK : gK D y aS s) (hA : ∀ q, s.heap.size ≤ q → A q) (hL : ∀ k, k < 179 → k ∈ L) (hT : 179 ∈ L ∧ 180 ∈ L ∧ 181 ∈ L) (hrec13 : ∀ {σ9 : gS} {x12n9 : Int32} {x13n9 : Int32} {x14n9 : Int64} {x16n9 : Int32} (H : Heap) (locs : List Loc) (ls : Array Slot), gY D y A s L ad σ9 H locs → lv_has ls 21 [(0, .ref (ad 161)), (1, .ref (ad 163)), (2, .ref (ad 164)), (3, .ref (ad 165)), (4, .ref (ad 166)), (5, .ref (ad 168)), (6, .ref (ad 169)), (7, .ref (ad 170)), (10, .ref (ad 179)), (11, .ref (ad 180)), (12, .int x12n9), (13, .int x13n9), (14, .long x14n9), (16, .int x16n9)] → rec13 (σ9, x12n9, x13n9, x14n9, x16n9) = some res → W p l e ({ frames := 2, cells := 0, slots := 0, locals := 47 } : Room) s m args below meth c H locs 0 0 (MQ below (va_Qi (fun (r : Int32) (_ : Unit) => r = res.1) (fun _ => gO D A (GW L y ad res.2)) A) args s 0 0 A) (F0 m 13 ls [])) {H : Heap} {locs : List Loc} {ls : Array Slot} (hY : gY D y A s L ad σ H locs) (hl : lv_has ls 21 [(0, .ref (ad 161)), (1, .ref (ad 163)), (2, .ref (ad 164)), (3, .ref (ad 165)), (4, .ref (ad 166)), (5, .ref (ad 168)), (6, .ref (ad 169)), (7, .ref (ad 170)), (10, .ref (ad 179)), (11, .ref (ad 180)), (12, .int x12), (13, .int x13), (14, .long x14), (16, .int x16), (17, .int x17)]) (h : fL_batches_186 N rec13 σ x12 x13 x14 x16 x17 = some res) : W p l e ({ frames := 2, cells := 0, slots := 0, locals := 47 } : Room) s m args below meth c H locs 0 0 (MQ below (va_Qi (fun (r : Int32) (_ : Unit) => r = res.1) (fun _ => gO D A (GW L y ad res.2)) A) args s 0 0 A) (F0 m 186 ls []) := by
  unfold fL_batches_186 at h
  refine lv_aload hx hb dL_batches_186 (lv_at hl 9 rfl) ?_
  refine lv_iload hx hb dL_batches_188 (lv_at hl 13 rfl) ?_
  refine lv_lload hx hb dL_batches_190 (lv_at hl 12 rfl) ?_
  obtain ⟨z_1, h⟩ := g_guard h
  refine G_last (j := x16.toNatClampNeg) hx hb hK hY hT.2.1 gk_180 (by rw [gl_180]; exact z_1) rfl dL_batches_192 ?_
  clear hY
  intro H locs hY
  refine lv_iload hx hb dL_batches_193 (lv_at hl 10 rfl) ?_
  refine lv_iload hx hb dL_batches_195 (lv_at hl 14 rfl) ?_
  refine lv_icmp_ne (tgt := 203) hx hb dL_batches_197 (by decide) (fun z_2 => ?_) (fun z_2 => ?_)
  ·
    rw [if_neg z_2] at h
    refine lv_iinc (v := (x16 + 1)) (lv' := [(16, .int (x16 + 1)), (0, .ref (ad 161)), (1, .ref (ad 163)), (2, .ref (ad 164)), (3, .ref (ad 165)), (4, .ref (ad 166)), (5, .ref (ad 168)), (6, .ref (ad 169)), (7, .ref (ad 170)), (10, .ref (ad 179)), (11, .ref (ad 180)), (12, .int x12), (13, .int x13), (14, .long x14), (17, .int x17)]) hx hb dL_batches_203 hl (k := 13) rfl rfl (by decide) rfl ?_
    clear hl
    intro ls hl
    refine lv_goto (tgt := 13) hx hb dL_batches_206 (by decide) ?_
    exact hrec13 _ _ _ hY (lv_sub hl [1, 2, 3, 4, 5, 6, 7, 8, 9, 10, 11, 12, 13, 0] rfl) h
  ·
    rw [if_pos z_2] at h
    refine lv_iload hx hb dL_batches_200 (lv_at hl 10 rfl) ?_
    cases h
    exact g_iret hx hb hr hlocks () hY.1 hY.2.1 hY.2.2 rfl rfl (Nat.le_of_ble_eq_true rfl) (Nat.le_of_ble_eq_true rfl) dL_batches_202
def fL_batches_170 (N : Nat) (rec13 : (gS × Int32 × Int32 × Int64 × Int32) → Option (Int32 × gS)) (rec41 : (gS × Int32 × Int32 × Int64 × Int32 × Int32) → Option (Int32 × gS)) (σ : gS) (x12 : Int32) (x13 : Int32) (x14 : Int64) (x16 : Int32) (x17 : Int32) (x18 : Int32) : Option (Int32 × gS) := (fL_next N σ x18).bind fun r_1 => rec41 (σ, x12, x13, x14, x18, r_1)
set_option maxRecDepth 100000 in
set_option maxHeartbeats 4000000 in
theorem wL_batches_170 {rec13 : (gS × Int32 × Int32 × Int64 × Int32) → Option (Int32 × gS)} {rec41 : (gS × Int32 × Int32 × Int64 × Int32 × Int32) → Option (Int32 × gS)} {σ : gS} {x12 : Int32} {x13 : Int32} {x14 : Int64} {x16 : Int32} {x17 : Int32} {x18 : Int32} (hx : p.tables.exec = Jvm.exec) (hb : c.code = cL_batches) (hr : meth.sig.returnType = (some .int)) (hml : c.maxLocals = 21) (hown : s.vm.findClass RL = some m.cls) (hg : ∀ w ∈ wsL_law, w.before args s = true) (hlocks : meth.locks = false) (hK : gK D y aS s) (hA : ∀ q, s.heap.size ≤ q → A q) (hL : ∀ k, k < 179 → k ∈ L) (hT : 179 ∈ L ∧ 180 ∈ L ∧ 181 ∈ L) (hrec13 : ∀ {σ9 : gS} {x12n9 : Int32} {x13n9 : Int32} {x14n9 : Int64} {x16n9 : Int32} (H : Heap) (locs : List Loc) (ls : Array Slot), gY D y A s L ad σ9 H locs → lv_has ls 21 [(0, .ref (ad 161)), (1, .ref (ad 163)), (2, .ref (ad 164)), (3, .ref (ad 165)), (4, .ref (ad 166)), (5, .ref (ad 168)), (6, .ref (ad 169)), (7, .ref (ad 170)), (10, .ref (ad 179)), (11, .ref (ad 180)), (12, .int x12n9), (13, .int x13n9), (14, .long x14n9), (16, .int x16n9)] → rec13 (σ9, x12n9, x13n9, x14n9, x16n9) = some res → W p l e ({ frames := 2, cells := 0, slots := 0, locals := 47 } : Room) s m args below meth c H locs 0 0 (MQ below (va_Qi (fun (r : Int32) (_ : Unit) => r = res.1) (fun _ => gO D A (GW L y ad res.2)) A) args s 0 0 A) (F0 m 13 ls [])) (hrec41 : ∀ {σ9 : gS} {x12n9 : Int32} {x13n9 : Int32} {x14n9 : Int64} {x18n9 : Int32} {x19n9 : Int32} (H : Heap) (locs : List Loc) (ls : Array Slot), gY D y A s L ad σ9 H locs → lv_has ls 21 [(0, .ref (ad 161)), (1, .ref (ad 163)), (2, .ref (ad 164)), (3, .ref (ad 165)), (4, .ref (ad 166)), (5, .ref (ad 168)), (6, .ref (ad 169)), (7, .ref (ad 170)), (10, .ref (ad 179)), (11, .ref (ad 180)), (12, .int x12n9), (13, .int x13n9), (14, .long x14n9), (16, .int x16), (17, .int x17), (18, .int x18n9), (19, .int x19n9)] → rec41 (σ9, x12n9, x13n9, x14n9, x18n9, x19n9) = some res → W p l e ({ frames := 2, cells := 0, slots := 0, locals := 47 } : Room) s m args below meth c H locs 0 0 (MQ below (va_Qi (fun (r : Int32) (_ : Unit) => r = res.1) (fun _ => gO D A (GW L y ad res.2)) A) args s 0 0 A) (F0 m 41 ls [])) {H : Heap} {locs : List Loc} {ls : Array Slot} (hY : gY D y A s L ad σ H locs) (hl : lv_has ls 21 [(0, .ref (ad 161)), (1, .ref (ad 163)), (2, .ref (ad 164)), (3, .ref (ad 165)), (4, .ref (ad 166)), (5, .ref (ad 168)), (6, .ref (ad 169)), (7, .ref (ad 170)), (10, .ref (ad 179)), (11, .ref (ad 180)), (12, .int x12), (13, .int x13), (14, .long x14), (16, .int x16), (17, .int x17), (18, .int x18)]) (h : fL_batches_170 N rec13 rec41 σ x12 x13 x14 x16 x17 x18 = some res) : W p l e ({ frames := 2, cells := 0, slots := 0, locals := 47 } : Room) s m args below meth c H locs 0 0 (MQ below (va_Qi (fun (r : Int32) (_ : Unit) => r = res.1) (fun _ => gO D A (GW L y ad res.2)) A) args s 0 0 A) (F0 m 170 ls []) := by
  unfold fL_batches_170 at h
  refine lv_aload_n hx hb dL_batches_170 rfl (lv_at hl 0 rfl) ?_
  refine lv_aload_n hx hb dL_batches_171 rfl (lv_at hl 1 rfl) ?_
  refine lv_aload_n hx hb dL_batches_172 rfl (lv_at hl 2 rfl) ?_
  refine lv_aload_n hx hb dL_batches_173 rfl (lv_at hl 3 rfl) ?_
  refine lv_aload hx hb dL_batches_174 (lv_at hl 4 rfl) ?_
  refine lv_iload hx hb dL_batches_176 (lv_at hl 15 rfl) ?_
  obtain ⟨r_1, e_2, h⟩ := g_bind h
  refine G_ai hY hA (va_runS (As := [.ref (ad 161), .ref (ad 163), .ref (ad 164), .ref (ad 165), .ref (ad 166), .int x18]) (rest := []) ⟨hx, hb, hml, hown, hg⟩ (kL_next l D y aS H.size L hL ad N σ x18 _ e_2) (va_cwS 6 hg ggS_RL_41_L_next rfl rfl rfl (by decide +kernel) ⟨Nat.le_of_ble_eq_true rfl, Nat.le_of_ble_eq_true rfl⟩) (G_pS hK hY) rfl rfl hl.1 rfl (lv_room (Nat.le_of_ble_eq_true rfl)) dL_batches_178 ⟨Nat.le_of_ble_eq_true rfl, Nat.le_of_ble_eq_true rfl⟩) ?_
  clear hY
  rintro _ H locs rfl hY
  refine lv_istore (lv' := [(19, .int r_1), (0, .ref (ad 161)), (1, .ref (ad 163)), (2, .ref (ad 164)), (3, .ref (ad 165)), (4, .ref (ad 166)), (5, .ref (ad 168)), (6, .ref (ad 169)), (7, .ref (ad 170)), (10, .ref (ad 179)), (11, .ref (ad 180)), (12, .int x12), (13, .int x13), (14, .long x14), (16, .int x16), (17, .int x17), (18, .int x18)]) hx hb dL_batches_181 hl (by decide) rfl ?_
  clear hl
  intro ls hl
  refine lv_goto (tgt := 41) hx hb dL_batches_183 (by decide) ?_
  exact hrec41 _ _ _ hY (lv_sub hl [1, 2, 3, 4, 5, 6, 7, 8, 9, 10, 11, 12, 13, 14, 15, 16, 0] rfl) h
def fL_batches_101 (N : Nat) (rec13 : (gS × Int32 × Int32 × Int64 × Int32) → Option (Int32 × gS)) (rec41 : (gS × Int32 × Int32 × Int64 × Int32 × Int32) → Option (Int32 × gS)) (σ : gS) (x12 : Int32) (x13 : Int32) (x14 : Int64) (x16 : Int32) (x17 : Int32) (x18 : Int32) (x19 : Int32) (xs0 : Int32) : Option (Int32 × gS) := if ((x13 >>> (x19 &&& 31)) &&& 1) = 0 then ((fL_fits N σ x19 x14).bind fun r_2 => if r_2 = 0 then (fL_batches_170 N rec13 rec41 σ x12 x13 x14 x16 x17 x18) else (if xs0 = 0 then (fL_batches_170 N rec13 rec41 σ x12 x13 x14 x16 x17 x18) else ((fL_onto N σ x19 x14).bind fun r_6 => if x12 < 0 ∨ 32 ≤ x12.toNatClampNeg then none else (fL_batches_170 N rec13 rec41 (sI σ 179 x12.toNatClampNeg (x19 + (100 * x16))) (x12 + 1) (x13 ||| ((1 : Int32) <<< (x19 &&& 31))) r_6 x16 x17 x18)))) else (fL_batches_170 N rec13 rec41 σ x12 x13 x14 x16 x17 x18)
set_option maxRecDepth 100000 in
set_option maxHeartbeats 4000000 in
theorem wL_batches_101 {rec13 : (gS × Int32 × Int32 × Int64 × Int32) → Option (Int32 × gS)} {rec41 : (gS × Int32 × Int32 × Int64 × Int32 × Int32) → Option (Int32 × gS)} {σ : gS} {x12 : Int32} {x13 : Int32} {x14 : Int64} {x16 : Int32} {x17 : Int32} {x18 : Int32} {x19 : Int32} {xs0 : Int32} (hx : p.tables.exec = Jvm.exec) (hb : c.code = cL_batches) (hr : meth.sig.returnType = (some .int)) (hml : c.maxLocals = 21) (hown : s.vm.findClass RL = some m.cls) (hg : ∀ w ∈ wsL_law, w.before args s = true) (hlocks : meth.locks = false) (hK : gK D y aS s) (hA : ∀ q, s.heap.size ≤ q → A q) (hL : ∀ k, k < 179 → k ∈ L) (hT : 179 ∈ L ∧ 180 ∈ L ∧ 181 ∈ L) (hrec13 : ∀ {σ9 : gS} {x12n9 : Int32} {x13n9 : Int32} {x14n9 : Int64} {x16n9 : Int32} (H : Heap) (locs : List Loc) (ls : Array Slot), gY D y A s L ad σ9 H locs → lv_has ls 21 [(0, .ref (ad 161)), (1, .ref (ad 163)), (2, .ref (ad 164)), (3, .ref (ad 165)), (4, .ref (ad 166)), (5, .ref (ad 168)), (6, .ref (ad 169)), (7, .ref (ad 170)), (10, .ref (ad 179)), (11, .ref (ad 180)), (12, .int x12n9), (13, .int x13n9), (14, .long x14n9), (16, .int x16n9)] → rec13 (σ9, x12n9, x13n9, x14n9, x16n9) = some res → W p l e ({ frames := 2, cells := 0, slots := 0, locals := 47 } : Room) s m args below meth c H locs 0 0 (MQ below (va_Qi (fun (r : Int32) (_ : Unit) => r = res.1) (fun _ => gO D A (GW L y ad res.2)) A) args s 0 0 A) (F0 m 13 ls [])) (hrec41 : ∀ {σ9 : gS} {x12n9 : Int32} {x13n9 : Int32} {x14n9 : Int64} {x18n9 : Int32} {x19n9 : Int32} (H : Heap) (locs : List Loc) (ls : Array Slot), gY D y A s L ad σ9 H locs → lv_has ls 21 [(0, .ref (ad 161)), (1, .ref (ad 163)), (2, .ref (ad 164)), (3, .ref (ad 165)), (4, .ref (ad 166)), (5, .ref (ad 168)), (6, .ref (ad 169)), (7, .ref (ad 170)), (10, .ref (ad 179)), (11, .ref (ad 180)), (12, .int x12n9), (13, .int x13n9), (14, .long x14n9), (16, .int x16), (17, .int x17), (18, .int x18n9), (19, .int x19n9)] → rec41 (σ9, x12n9, x13n9, x14n9, x18n9, x19n9) = some res → W p l e ({ frames := 2, cells := 0, slots := 0, locals := 47 } : Room) s m args below meth c H locs 0 0 (MQ below (va_Qi (fun (r : Int32) (_ : Unit) => r = res.1) (fun _ => gO D A (GW L y ad res.2)) A) args s 0 0 A) (F0 m 41 ls [])) {H : Heap} {locs : List Loc} {ls : Array Slot} (hY : gY D y A s L ad σ H locs) (hl : lv_has ls 21 [(0, .ref (ad 161)), (1, .ref (ad 163)), (2, .ref (ad 164)), (3, .ref (ad 165)), (4, .ref (ad 166)), (5, .ref (ad 168)), (6, .ref (ad 169)), (7, .ref (ad 170)), (10, .ref (ad 179)), (11, .ref (ad 180)), (12, .int x12), (13, .int x13), (14, .long x14), (16, .int x16), (17, .int x17), (18, .int x18), (19, .int x19)]) (h : fL_batches_101 N rec13 rec41 σ x12 x13 x14 x16 x17 x18 x19 xs0 = some res) : W p l e ({ frames := 2, cells := 0, slots := 0, locals := 47 } : Room) s m args below meth c H locs 0 0 (MQ below (va_Qi (fun (r : Int32) (_ : Unit) => r = res.1) (fun _ => gO D A (GW L y ad res.2)) A) args s 0 0 A) (F0 m 101 ls [.int xs0]) := by
  unfold fL_batches_101 at h
  refine lv_istore (lv' := [(20, .int xs0), (0, .ref (ad 161)), (1, .ref (ad 163)), (2, .ref (ad 164)), (3, .ref (ad 165)), (4, .ref (ad 166)), (5, .ref (ad 168)), (6, .ref (ad 169)), (7, .ref (ad 170)), (10, .ref (ad 179)), (11, .ref (ad 180)), (12, .int x12), (13, .int x13), (14, .long x14), (16, .int x16), (17, .int x17), (18, .int x18), (19, .int x19)]) hx hb dL_batches_101 hl (by decide) rfl ?_
  clear hl
  intro ls hl
  refine lv_iload hx hb dL_batches_103 (lv_at hl 12 rfl) ?_
  refine lv_iload hx hb dL_batches_105 (lv_at hl 17 rfl) ?_
  refine lv_ishr hx hb dL_batches_107 ?_
  refine lv_iconst (v := 1) hx hb dL_batches_108 (by decide) ?_
  refine lv_iand hx hb dL_batches_109 ?_
  refine lv_if_ne (tgt := 170) hx hb dL_batches_110 (by decide) (fun z_1 => ?_) (fun z_1 => ?_)
  ·
    rw [if_neg z_1] at h
    exact wL_batches_170 hx hb hr hml hown hg hlocks hK hA hL hT hrec13 hrec41 hY (lv_sub hl [1, 2, 3, 4, 5, 6, 7, 8, 9, 10, 11, 12, 13, 14, 15, 16] rfl) h
  ·
    rw [if_pos z_1] at h
    refine lv_aload hx hb dL_batches_113 (lv_at hl 6 rfl) ?_
    refine lv_aload hx hb dL_batches_115 (lv_at hl 7 rfl) ?_
    refine lv_iload hx hb dL_batches_117 (lv_at hl 17 rfl) ?_
    refine lv_lload hx hb dL_batches_119 (lv_at hl 13 rfl) ?_
    obtain ⟨r_2, e_3, h⟩ := g_bind h
    refine G_ai hY hA (va_runS (As := [.ref (ad 168), .ref (ad 169), .int x19, .long x14]) (rest := []) ⟨hx, hb, hml, hown, hg⟩ (kL_fits l D y aS H.size L hL ad N σ x19 x14 _ e_3) (va_cwS 4 hg ggS_RL_45_L_fits rfl rfl rfl (by decide +kernel) ⟨Nat.le_of_ble_eq_true rfl, Nat.le_of_ble_eq_true rfl⟩) (G_pS hK hY) rfl rfl hl.1 rfl (lv_room (Nat.le_of_ble_eq_true rfl)) dL_batches_121 ⟨Nat.le_of_ble_eq_true rfl, Nat.le_of_ble_eq_true rfl⟩) ?_
    clear hY
    rintro _ H locs rfl hY
    refine lv_if_eq (tgt := 170) hx hb dL_batches_124 (by decide) (fun z_4 => ?_) (fun z_4 => ?_)
    ·
      rw [if_pos z_4] at h
      exact wL_batches_170 hx hb hr hml hown hg hlocks hK hA hL hT hrec13 hrec41 hY (lv_sub hl [1, 2, 3, 4, 5, 6, 7, 8, 9, 10, 11, 12, 13, 14, 15, 16] rfl) h
    ·
      rw [if_neg z_4] at h
      refine lv_iload hx hb dL_batches_127 (lv_at hl 0 rfl) ?_
      refine lv_if_eq (tgt := 170) hx hb dL_batches_129 (by decide) (fun z_5 => ?_) (fun z_5 => ?_)
      ·
        rw [if_pos z_5] at h
        exact wL_batches_170 hx hb hr hml hown hg hlocks hK hA hL hT hrec13 hrec41 hY (lv_sub hl [1, 2, 3, 4, 5, 6, 7, 8, 9, 10, 11, 12, 13, 14, 15, 16] rfl) h
      ·
        rw [if_neg z_5] at h
        refine lv_iload hx hb dL_batches_132 (lv_at hl 12 rfl) ?_
        refine lv_iconst (v := 1) hx hb dL_batches_134 (by decide) ?_
        refine lv_iload hx hb dL_batches_135 (lv_at hl 17 rfl) ?_
        refine lv_ishl hx hb dL_batches_137 ?_
        refine lv_ior hx hb dL_batches_138 ?_
        refine lv_istore (lv' := [(13, .int (x13 ||| ((1 : Int32) <<< (x19 &&& 31)))), (20, .int xs0), (0, .ref (ad 161)), (1, .ref (ad 163)), (2, .ref (ad 164)), (3, .ref (ad 165)), (4, .ref (ad 166)), (5, .ref (ad 168)), (6, .ref (ad 169)), (7, .ref (ad 170)), (10, .ref (ad 179)), (11, .ref (ad 180)), (12, .int x12), (14, .long x14), (16, .int x16), (17, .int x17), (18, .int x18), (19, .int x19)]) hx hb dL_batches_139 hl (by decide) rfl ?_
        clear hl
        intro ls hl
        refine lv_aload hx hb dL_batches_141 (lv_at hl 7 rfl) ?_
        refine lv_aload hx hb dL_batches_143 (lv_at hl 9 rfl) ?_
        refine lv_iload hx hb dL_batches_145 (lv_at hl 17 rfl) ?_
        refine lv_lload hx hb dL_batches_147 (lv_at hl 13 rfl) ?_
        obtain ⟨r_6, e_7, h⟩ := g_bind h
        refine G_al hY hA (va_runS (As := [.ref (ad 168), .ref (ad 170), .int x19, .long x14]) (rest := []) ⟨hx, hb, hml, hown, hg⟩ (kL_onto l D y aS H.size L hL ad N σ x19 x14 _ e_7) (va_cwS 4 hg ggS_RL_49_L_onto rfl rfl rfl (by decide +kernel) ⟨Nat.le_of_ble_eq_true rfl, Nat.le_of_ble_eq_true rfl⟩) (G_pS hK hY) rfl rfl hl.1 rfl (lv_room (Nat.le_of_ble_eq_true rfl)) dL_batches_149 ⟨Nat.le_of_ble_eq_true rfl, Nat.le_of_ble_eq_true rfl⟩) ?_
        clear hY
        rintro _ H locs rfl hY
        refine lv_lstore (lv' := [(14, .long r_6), (13, .int (x13 ||| ((1 : Int32) <<< (x19 &&& 31)))), (20, .int xs0), (0, .ref (ad 161)), (1, .ref (ad 163)), (2, .ref (ad 164)), (3, .ref (ad 165)), (4, .ref (ad 166)), (5, .ref (ad 168)), (6, .ref (ad 169)), (7, .ref (ad 170)), (10, .ref (ad 179)), (11, .ref (ad 180)), (12, .int x12), (16, .int x16), (17, .int x17), (18, .int x18), (19, .int x19)]) hx hb dL_batches_152 hl (by decide) rfl ?_
        clear hl
        intro ls hl
        refine lv_aload hx hb dL_batches_154 (lv_at hl 11 rfl) ?_
        refine lv_iload hx hb dL_batches_156 (lv_at hl 13 rfl) ?_
        refine lv_iload hx hb dL_batches_158 (lv_at hl 17 rfl) ?_
        refine lv_bipush (v := 100) hx hb dL_batches_160 (by decide +kernel) ?_
        refine lv_iload hx hb dL_batches_162 (lv_at hl 14 rfl) ?_
        refine lv_imul hx hb dL_batches_164 ?_
        refine lv_iadd hx hb dL_batches_165 ?_
        obtain ⟨z_8, h⟩ := g_guard h
        refine G_iast (j := x12.toNatClampNeg) hx hb hK hY hT.1 gk_179 (by rw [gl_179]; exact z_8) rfl dL_batches_166 ?_
        clear hY
        intro H locs hY
        refine lv_iinc (v := (x12 + 1)) (lv' := [(12, .int (x12 + 1)), (14, .long r_6), (13, .int (x13 ||| ((1 : Int32) <<< (x19 &&& 31)))), (20, .int xs0), (0, .ref (ad 161)), (1, .ref (ad 163)), (2, .ref (ad 164)), (3, .ref (ad 165)), (4, .ref (ad 166)), (5, .ref (ad 168)), (6, .ref (ad 169)), (7, .ref (ad 170)), (10, .ref (ad 179)), (11, .ref (ad 180)), (16, .int x16), (17, .int x17), (18, .int x18), (19, .int x19)]) hx hb dL_batches_167 hl (k := 13) rfl rfl (by decide) rfl ?_
        clear hl
        intro ls hl
        exact wL_batches_170 hx hb hr hml hown hg hlocks hK hA hL hT hrec13 hrec41 hY (lv_sub hl [4, 5, 6, 7, 8, 9, 10, 11, 12, 13, 0, 2, 1, 14, 15, 16] rfl) h
def fL_batches_96 (N : Nat) (rec13 : (gS × Int32 × Int32 × Int64 × Int32) → Option (Int32 × gS)) (rec41 : (gS × Int32 × Int32 × Int64 × Int32 × Int32) → Option (Int32 × gS)) (σ : gS) (x12 : Int32) (x13 : Int32) (x14 : Int64) (x16 : Int32) (x17 : Int32) (x18 : Int32) (x19 : Int32) : Option (Int32 × gS) := fL_batches_101 N rec13 rec41 σ x12 x13 x14 x16 x17 x18 x19 1
set_option maxRecDepth 100000 in
set_option maxHeartbeats 4000000 in
theorem wL_batches_96 {rec13 : (gS × Int32 × Int32 × Int64 × Int32) → Option (Int32 × gS)} {rec41 : (gS × Int32 × Int32 × Int64 × Int32 × Int32) → Option (Int32 × gS)} {σ : gS} {x12 : Int32} {x13 : Int32} {x14 : Int64} {x16 : Int32} {x17 : Int32} {x18 : Int32} {x19 : Int32} (hx : p.tables.exec = Jvm.exec) (hb : c.code = cL_batches) (hr : meth.sig.returnType = (some .int)) (hml : c.maxLocals = 21) (hown : s.vm.findClass RL = some m.cls) (hg : ∀ w ∈ wsL_law, w.before args s = true) (hlocks : meth.locks = false) (hK : gK D y aS s) (hA : ∀ q, s.heap.size ≤ q → A q) (hL : ∀ k, k < 179 → k ∈ L) (hT : 179 ∈ L ∧ 180 ∈ L ∧ 181 ∈ L) (hrec13 : ∀ {σ9 : gS} {x12n9 : Int32} {x13n9 : Int32} {x14n9 : Int64} {x16n9 : Int32} (H : Heap) (locs : List Loc) (ls : Array Slot), gY D y A s L ad σ9 H locs → lv_has ls 21 [(0, .ref (ad 161)), (1, .ref (ad 163)), (2, .ref (ad 164)), (3, .ref (ad 165)), (4, .ref (ad 166)), (5, .ref (ad 168)), (6, .ref (ad 169)), (7, .ref (ad 170)), (10, .ref (ad 179)), (11, .ref (ad 180)), (12, .int x12n9), (13, .int x13n9), (14, .long x14n9), (16, .int x16n9)] → rec13 (σ9, x12n9, x13n9, x14n9, x16n9) = some res → W p l e ({ frames := 2, cells := 0, slots := 0, locals := 47 } : Room) s m args below meth c H locs 0 0 (MQ below (va_Qi (fun (r : Int32) (_ : Unit) => r = res.1) (fun _ => gO D A (GW L y ad res.2)) A) args s 0 0 A) (F0 m 13 ls [])) (hrec41 : ∀ {σ9 : gS} {x12n9 : Int32} {x13n9 : Int32} {x14n9 : Int64} {x18n9 : Int32} {x19n9 : Int32} (H : Heap) (locs : List Loc) (ls : Array Slot), gY D y A s L ad σ9 H locs → lv_has ls 21 [(0, .ref (ad 161)), (1, .ref (ad 163)), (2, .ref (ad 164)), (3, .ref (ad 165)), (4, .ref (ad 166)), (5, .ref (ad 168)), (6, .ref (ad 169)), (7, .ref (ad 170)), (10, .ref (ad 179)), (11, .ref (ad 180)), (12, .int x12n9), (13, .int x13n9), (14, .long x14n9), (16, .int x16), (17, .int x17), (18, .int x18n9), (19, .int x19n9)] → rec41 (σ9, x12n9, x13n9, x14n9, x18n9, x19n9) = some res → W p l e ({ frames := 2, cells := 0, slots := 0, locals := 47 } : Room) s m args below meth c H locs 0 0 (MQ below (va_Qi (fun (r : Int32) (_ : Unit) => r = res.1) (fun _ => gO D A (GW L y ad res.2)) A) args s 0 0 A) (F0 m 41 ls [])) {H : Heap} {locs : List Loc} {ls : Array Slot} (hY : gY D y A s L ad σ H locs) (hl : lv_has ls 21 [(0, .ref (ad 161)), (1, .ref (ad 163)), (2, .ref (ad 164)), (3, .ref (ad 165)), (4, .ref (ad 166)), (5, .ref (ad 168)), (6, .ref (ad 169)), (7, .ref (ad 170)), (10, .ref (ad 179)), (11, .ref (ad 180)), (12, .int x12), (13, .int x13), (14, .long x14), (16, .int x16), (17, .int x17), (18, .int x18), (19, .int x19)]) (h : fL_batches_96 N rec13 rec41 σ x12 x13 x14 x16 x17 x18 x19 = some res) : W p l e ({ frames := 2, cells := 0, slots := 0, locals := 47 } : Room) s m args below meth c H locs 0 0 (MQ below (va_Qi (fun (r : Int32) (_ : Unit) => r = res.1) (fun _ => gO D A (GW L y ad res.2)) A) args s 0 0 A) (F0 m 96 ls []) := by
  unfold fL_batches_96 at h
  refine lv_iconst (v := 1) hx hb dL_batches_96 (by decide) ?_
  refine lv_goto (tgt := 101) hx hb dL_batches_97 (by decide) ?_
  exact wL_batches_101 hx hb hr hml hown hg hlocks hK hA hL hT hrec13 hrec41 hY (lv_sub hl [0, 1, 2, 3, 4, 5, 6, 7, 8, 9, 10, 11, 12, 13, 14, 15, 16] rfl) h
def fL_batches_41 (N : Nat) (rec13 : (gS × Int32 × Int32 × Int64 × Int32) → Option (Int32 × gS)) (x16 : Int32) (x17 : Int32) (rec41 : (gS × Int32 × Int32 × Int64 × Int32 × Int32) → Option (Int32 × gS)) (xx : gS × Int32 × Int32 × Int64 × Int32 × Int32) : Option (Int32 × gS) := match xx with
  | (σ, x12, x13, x14, x18, x19) => if x19 < 0 then (fL_batches_186 N rec13 σ x12 x13 x14 x16 x17) else (if (x17 + (σ.1 161 5)) ≤ x12 then (fL_batches_186 N rec13 σ x12 x13 x14 x16 x17) else (if x19 < 0 ∨ 24 ≤ x19.toNatClampNeg then none else (if (σ.1 163 x19.toNatClampNeg) < 0 then (fL_batches_96 N rec13 rec41 σ x12 x13 x14 x16 x17 (x18 ||| ((1 : Int32) <<< (x19 &&& 31))) x19) else (if x19 < 0 ∨ 24 ≤ x19.toNatClampNeg then none else (if (σ.1 163 x19.toNatClampNeg) < 0 ∨ 24 ≤ (σ.1 163 x19.toNatClampNeg).toNatClampNeg then none else (if (σ.1 164 ((σ.1 163 x19.toNatClampNeg).toNatClampNeg)) = 2 then (fL_batches_96 N rec13 rec41 σ x12 x13 x14 x16 x17 (x18 ||| ((1 : Int32) <<< (x19 &&& 31))) x19) else (if x19 < 0 ∨ 24 ≤ x19.toNatClampNeg then none else (if ((x13 >>> ((σ.1 163 x19.toNatClampNeg) &&& 31)) &&& 1) = 1 then (fL_batches_96 N rec13 rec41 σ x12 x13 x14 x16 x17 (x18 ||| ((1 : Int32) <<< (x19 &&& 31))) x19) else (fL_batches_101 N rec13 rec41 σ x12 x13 x14 x16 x17 (x18 ||| ((1 : Int32) <<< (x19 &&& 31))) x19 0)))))))))
set_option maxRecDepth 100000 in
set_option maxHeartbeats 4000000 in
theorem wL_batches_41 {rec13 : (gS × Int32 × Int32 × Int64 × Int32) → Option (Int32 × gS)} {x16 : Int32} {x17 : Int32} (hx : p.tables.exec = Jvm.exec) (hb : c.code = cL_batches) (hr : meth.sig.returnType = (some .int)) (hml : c.maxLocals = 21) (hown : s.vm.findClass RL = some m.cls) (hg : ∀ w ∈ wsL_law, w.before args s = true) (hlocks : meth.locks = false) (hK : gK D y aS s) (hA : ∀ q, s.heap.size ≤ q → A q) (hL : ∀ k, k < 179 → k ∈ L) (hT : 179 ∈ L ∧ 180 ∈ L ∧ 181 ∈ L) (hrec13 : ∀ {σ9 : gS} {x12n9 : Int32} {x13n9 : Int32} {x14n9 : Int64} {x16n9 : Int32} (H : Heap) (locs : List Loc) (ls : Array Slot), gY D y A s L ad σ9 H locs → lv_has ls 21 [(0, .ref (ad 161)), (1, .ref (ad 163)), (2, .ref (ad 164)), (3, .ref (ad 165)), (4, .ref (ad 166)), (5, .ref (ad 168)), (6, .ref (ad 169)), (7, .ref (ad 170)), (10, .ref (ad 179)), (11, .ref (ad 180)), (12, .int x12n9), (13, .int x13n9), (14, .long x14n9), (16, .int x16n9)] → rec13 (σ9, x12n9, x13n9, x14n9, x16n9) = some res → W p l e ({ frames := 2, cells := 0, slots := 0, locals := 47 } : Room) s m args below meth c H locs 0 0 (MQ below (va_Qi (fun (r : Int32) (_ : Unit) => r = res.1) (fun _ => gO D A (GW L y ad res.2)) A) args s 0 0 A) (F0 m 13 ls [])) : ∀ (n : Nat) {σ : gS} {x12 : Int32} {x13 : Int32} {x14 : Int64} {x18 : Int32} {x19 : Int32} (H : Heap) (locs : List Loc) (ls : Array Slot), gY D y A s L ad σ H locs → lv_has ls 21 [(0, .ref (ad 161)), (1, .ref (ad 163)), (2, .ref (ad 164)), (3, .ref (ad 165)), (4, .ref (ad 166)), (5, .ref (ad 168)), (6, .ref (ad 169)), (7, .ref (ad 170)), (10, .ref (ad 179)), (11, .ref (ad 180)), (12, .int x12), (13, .int x13), (14, .long x14), (16, .int x16), (17, .int x17), (18, .int x18), (19, .int x19)] → lp (fL_batches_41 N rec13 x16 x17) n (σ, x12, x13, x14, x18, x19) = some res → W p l e ({ frames := 2, cells := 0, slots := 0, locals := 47 } : Room) s m args below meth c H locs 0 0 (MQ below (va_Qi (fun (r : Int32) (_ : Unit) => r = res.1) (fun _ => gO D A (GW L y ad res.2)) A) args s 0 0 A) (F0 m 41 ls []) := by
  intro n
  induction n with
  | zero => intro σ x12 x13 x14 x18 x19 H locs ls hY hl h; exact nomatch (show none = some res from h)
  | succ n hrec41 =>
    intro σ x12 x13 x14 x18 x19 H locs ls hY hl h
    replace h : fL_batches_41 N rec13 x16 x17 (lp (fL_batches_41 N rec13 x16 x17) n) (σ, x12, x13, x14, x18, x19) = some res := h
    generalize lp (fL_batches_41 N rec13 x16 x17) n = rec41 at h hrec41
    unfold fL_batches_41 at h
    try dsimp only at h
    refine lv_iload hx hb dL_batches_41 (lv_at hl 16 rfl) ?_
    refine lv_if_lt (tgt := 186) hx hb dL_batches_43 (by decide) (fun z_1 => ?_) (fun z_1 => ?_)
    ·
      rw [if_pos z_1] at h
      exact wL_batches_186 hx hb hr hml hown hg hlocks hK hA hL hT hrec13 hY (lv_sub hl [0, 1, 2, 3, 4, 5, 6, 7, 8, 9, 10, 11, 12, 13, 14] rfl) h
    ·
      rw [if_neg z_1] at h
      refine lv_iload hx hb dL_batches_46 (lv_at hl 10 rfl) ?_
      refine lv_iload hx hb dL_batches_48 (lv_at hl 14 rfl) ?_
      refine lv_aload_n hx hb dL_batches_50 rfl (lv_at hl 0 rfl) ?_
      refine lv_iconst (v := 5) hx hb dL_batches_51 (by decide) ?_
      refine G_iald (j := 5) hx hb hK hY (hL 161 (by decide)) gk_161 (by rw [gl_161]; decide +kernel) (by decide +kernel) dL_batches_52 ?_
      refine lv_iadd hx hb dL_batches_53 ?_
      refine lv_icmp_ge (tgt := 186) hx hb dL_batches_54 (by decide) (fun z_2 => ?_) (fun z_2 => ?_)
      ·
        rw [if_pos z_2] at h
        exact wL_batches_186 hx hb hr hml hown hg hlocks hK hA hL hT hrec13 hY (lv_sub hl [0, 1, 2, 3, 4, 5, 6, 7, 8, 9, 10, 11, 12, 13, 14] rfl) h
      ·
        rw [if_neg z_2] at h
        refine lv_iload hx hb dL_batches_57 (lv_at hl 15 rfl) ?_
        refine lv_iconst (v := 1) hx hb dL_batches_59 (by decide) ?_
        refine lv_iload hx hb dL_batches_60 (lv_at hl 16 rfl) ?_
        refine lv_ishl hx hb dL_batches_62 ?_
        refine lv_ior hx hb dL_batches_63 ?_
        refine lv_istore (lv' := [(18, .int (x18 ||| ((1 : Int32) <<< (x19 &&& 31)))), (0, .ref (ad 161)), (1, .ref (ad 163)), (2, .ref (ad 164)), (3, .ref (ad 165)), (4, .ref (ad 166)), (5, .ref (ad 168)), (6, .ref (ad 169)), (7, .ref (ad 170)), (10, .ref (ad 179)), (11, .ref (ad 180)), (12, .int x12), (13, .int x13), (14, .long x14), (16, .int x16), (17, .int x17), (19, .int x19)]) hx hb dL_batches_64 hl (by decide) rfl ?_
        clear hl
        intro ls hl
        refine lv_aload_n hx hb dL_batches_66 rfl (lv_at hl 2 rfl) ?_
        refine lv_iload hx hb dL_batches_67 (lv_at hl 16 rfl) ?_
        obtain ⟨z_3, h⟩ := g_guard h
        refine G_iald (j := x19.toNatClampNeg) hx hb hK hY (hL 163 (by decide)) gk_163 (by rw [gl_163]; exact z_3) rfl dL_batches_69 ?_
        refine lv_if_lt (tgt := 96) hx hb dL_batches_70 (by decide) (fun z_4 => ?_) (fun z_4 => ?_)
        ·
          rw [if_pos z_4] at h
          exact wL_batches_96 hx hb hr hml hown hg hlocks hK hA hL hT hrec13 hrec41 hY (lv_sub hl [1, 2, 3, 4, 5, 6, 7, 8, 9, 10, 11, 12, 13, 14, 15, 0, 16] rfl) h
        ·
          rw [if_neg z_4] at h
          refine lv_aload_n hx hb dL_batches_73 rfl (lv_at hl 3 rfl) ?_
          refine lv_aload_n hx hb dL_batches_74 rfl (lv_at hl 2 rfl) ?_
          refine lv_iload hx hb dL_batches_75 (lv_at hl 16 rfl) ?_
          obtain ⟨z_5, h⟩ := g_guard h
          refine G_iald (j := x19.toNatClampNeg) hx hb hK hY (hL 163 (by decide)) gk_163 (by rw [gl_163]; exact z_5) rfl dL_batches_77 ?_
          obtain ⟨z_6, h⟩ := g_guard h
          refine G_iald (j := (σ.1 163 x19.toNatClampNeg).toNatClampNeg) hx hb hK hY (hL 164 (by decide)) gk_164 (by rw [gl_164]; exact z_6) rfl dL_batches_78 ?_
          refine lv_iconst (v := 2) hx hb dL_batches_79 (by decide) ?_
          refine lv_icmp_eq (tgt := 96) hx hb dL_batches_80 (by decide) (fun z_7 => ?_) (fun z_7 => ?_)
          ·
            rw [if_pos z_7] at h
            exact wL_batches_96 hx hb hr hml hown hg hlocks hK hA hL hT hrec13 hrec41 hY (lv_sub hl [1, 2, 3, 4, 5, 6, 7, 8, 9, 10, 11, 12, 13, 14, 15, 0, 16] rfl) h
          ·
            rw [if_neg z_7] at h
            refine lv_iload hx hb dL_batches_83 (lv_at hl 12 rfl) ?_
            refine lv_aload_n hx hb dL_batches_85 rfl (lv_at hl 2 rfl) ?_
            refine lv_iload hx hb dL_batches_86 (lv_at hl 16 rfl) ?_
            obtain ⟨z_8, h⟩ := g_guard h
            refine G_iald (j := x19.toNatClampNeg) hx hb hK hY (hL 163 (by decide)) gk_163 (by rw [gl_163]; exact z_8) rfl dL_batches_88 ?_
            refine lv_ishr hx hb dL_batches_89 ?_
            refine lv_iconst (v := 1) hx hb dL_batches_90 (by decide) ?_
            refine lv_iand hx hb dL_batches_91 ?_
            refine lv_iconst (v := 1) hx hb dL_batches_92 (by decide) ?_
            refine lv_icmp_ne (tgt := 100) hx hb dL_batches_93 (by decide) (fun z_9 => ?_) (fun z_9 => ?_)
            ·
              rw [if_neg z_9] at h
              refine lv_iconst (v := 0) hx hb dL_batches_100 (by decide) ?_
              exact wL_batches_101 hx hb hr hml hown hg hlocks hK hA hL hT hrec13 hrec41 hY (lv_sub hl [1, 2, 3, 4, 5, 6, 7, 8, 9, 10, 11, 12, 13, 14, 15, 0, 16] rfl) h
            ·
              rw [if_pos z_9] at h
              exact wL_batches_96 hx hb hr hml hown hg hlocks hK hA hL hT hrec13 hrec41 hY (lv_sub hl [1, 2, 3, 4, 5, 6, 7, 8, 9, 10, 11, 12, 13, 14, 15, 0, 16] rfl) h
def fL_batches_13 (N : Nat) (rec13 : (gS × Int32 × Int32 × Int64 × Int32) → Option (Int32 × gS)) (xx : gS × Int32 × Int32 × Int64 × Int32) : Option (Int32 × gS) := match xx with
  | (σ, x12, x13, x14, x16) => if (σ.1 161 6) ≤ x16 then (some (x12, σ)) else ((fL_next N σ (0 : Int32)).bind fun r_2 => lp (fL_batches_41 N rec13 x16 x12) N (σ, x12, x13, x14, 0, r_2))
set_option maxRecDepth 100000 in
set_option maxHeartbeats 4000000 in
theorem wL_batches_13 (hx : p.tables.exec = Jvm.exec) (hb : c.code = cL_batches) (hr : meth.sig.returnType = (some .int)) (hml : c.maxLocals = 21) (hown : s.vm.findClass RL = some m.cls) (hg : ∀ w ∈ wsL_law, w.before args s = true) (hlocks : meth.locks = false) (hK : gK D y aS s) (hA : ∀ q, s.heap.size ≤ q → A q) (hL : ∀ k, k < 179 → k ∈ L) (hT : 179 ∈ L ∧ 180 ∈ L ∧ 181 ∈ L) : ∀ (n : Nat) {σ : gS} {x12 : Int32} {x13 : Int32} {x14 : Int64} {x16 : Int32} (H : Heap) (locs : List Loc) (ls : Array Slot), gY D y A s L ad σ H locs → lv_has ls 21 [(0, .ref (ad 161)), (1, .ref (ad 163)), (2, .ref (ad 164)), (3, .ref (ad 165)), (4, .ref (ad 166)), (5, .ref (ad 168)), (6, .ref (ad 169)), (7, .ref (ad 170)), (10, .ref (ad 179)), (11, .ref (ad 180)), (12, .int x12), (13, .int x13), (14, .long x14), (16, .int x16)] → lp (fL_batches_13 N) n (σ, x12, x13, x14, x16) = some res → W p l e ({ frames := 2, cells := 0, slots := 0, locals := 47 } : Room) s m args below meth c H locs 0 0 (MQ below (va_Qi (fun (r : Int32) (_ : Unit) => r = res.1) (fun _ => gO D A (GW L y ad res.2)) A) args s 0 0 A) (F0 m 13 ls []) := by
  intro n
  induction n with
  | zero => intro σ x12 x13 x14 x16 H locs ls hY hl h; exact nomatch (show none = some res from h)
  | succ n hrec13 =>
    intro σ x12 x13 x14 x16 H locs ls hY hl h
    replace h : fL_batches_13 N (lp (fL_batches_13 N) n) (σ, x12, x13, x14, x16) = some res := h
    generalize lp (fL_batches_13 N) n = rec13 at h hrec13
    unfold fL_batches_13 at h
    try dsimp only at h
    refine lv_iload hx hb dL_batches_13 (lv_at hl 13 rfl) ?_
    refine lv_aload_n hx hb dL_batches_15 rfl (lv_at hl 0 rfl) ?_
    refine lv_bipush (v := 6) hx hb dL_batches_16 (by decide +kernel) ?_
    refine G_iald (j := 6) hx hb hK hY (hL 161 (by decide)) gk_161 (by rw [gl_161]; decide +kernel) (by decide +kernel) dL_batches_18 ?_
    refine lv_icmp_ge (tgt := 209) hx hb dL_batches_19 (by decide) (fun z_1 => ?_) (fun z_1 => ?_)
    ·
      rw [if_pos z_1] at h
      refine lv_iload hx hb dL_batches_209 (lv_at hl 10 rfl) ?_
      cases h
      exact g_iret hx hb hr hlocks () hY.1 hY.2.1 hY.2.2 rfl rfl (Nat.le_of_ble_eq_true rfl) (Nat.le_of_ble_eq_true rfl) dL_batches_211
    ·
      rw [if_neg z_1] at h
      refine lv_iload hx hb dL_batches_22 (lv_at hl 10 rfl) ?_
      refine lv_istore (lv' := [(17, .int x12), (0, .ref (ad 161)), (1, .ref (ad 163)), (2, .ref (ad 164)), (3, .ref (ad 165)), (4, .ref (ad 166)), (5, .ref (ad 168)), (6, .ref (ad 169)), (7, .ref (ad 170)), (10, .ref (ad 179)), (11, .ref (ad 180)), (12, .int x12), (13, .int x13), (14, .long x14), (16, .int x16)]) hx hb dL_batches_24 hl (by decide) rfl ?_
      clear hl
      intro ls hl
      refine lv_iconst (v := 0) hx hb dL_batches_26 (by decide) ?_
      refine lv_istore (lv' := [(18, .int 0), (17, .int x12), (0, .ref (ad 161)), (1, .ref (ad 163)), (2, .ref (ad 164)), (3, .ref (ad 165)), (4, .ref (ad 166)), (5, .ref (ad 168)), (6, .ref (ad 169)), (7, .ref (ad 170)), (10, .ref (ad 179)), (11, .ref (ad 180)), (12, .int x12), (13, .int x13), (14, .long x14), (16, .int x16)]) hx hb dL_batches_27 hl (by decide) rfl ?_
      clear hl
      intro ls hl
      refine lv_aload_n hx hb dL_batches_29 rfl (lv_at hl 2 rfl) ?_
      refine lv_aload_n hx hb dL_batches_30 rfl (lv_at hl 3 rfl) ?_
      refine lv_aload_n hx hb dL_batches_31 rfl (lv_at hl 4 rfl) ?_
      refine lv_aload_n hx hb dL_batches_32 rfl (lv_at hl 5 rfl) ?_
      refine lv_aload hx hb dL_batches_33 (lv_at hl 6 rfl) ?_
      refine lv_iconst (v := 0) hx hb dL_batches_35 (by decide) ?_
      obtain ⟨r_2, e_3, h⟩ := g_bind h
      refine G_ai hY hA (va_runS (As := [.ref (ad 161), .ref (ad 163), .ref (ad 164), .ref (ad 165), .ref (ad 166), .int 0]) (rest := []) ⟨hx, hb, hml, hown, hg⟩ (kL_next l D y aS H.size L hL ad N σ (0 : Int32) _ e_3) (va_cwS 6 hg ggS_RL_41_L_next rfl rfl rfl (by decide +kernel) ⟨Nat.le_of_ble_eq_true rfl, Nat.le_of_ble_eq_true rfl⟩) (G_pS hK hY) rfl rfl hl.1 rfl (lv_room (Nat.le_of_ble_eq_true rfl)) dL_batches_36 ⟨Nat.le_of_ble_eq_true rfl, Nat.le_of_ble_eq_true rfl⟩) ?_
      clear hY
      rintro _ H locs rfl hY
      refine lv_istore (lv' := [(19, .int r_2), (18, .int 0), (17, .int x12), (0, .ref (ad 161)), (1, .ref (ad 163)), (2, .ref (ad 164)), (3, .ref (ad 165)), (4, .ref (ad 166)), (5, .ref (ad 168)), (6, .ref (ad 169)), (7, .ref (ad 170)), (10, .ref (ad 179)), (11, .ref (ad 180)), (12, .int x12), (13, .int x13), (14, .long x14), (16, .int x16)]) hx hb dL_batches_39 hl (by decide) rfl ?_
      clear hl
      intro ls hl
      exact wL_batches_41 hx hb hr hml hown hg hlocks hK hA hL hT hrec13 N _ _ _ hY (lv_sub hl [3, 4, 5, 6, 7, 8, 9, 10, 11, 12, 13, 14, 15, 16, 2, 1, 0] rfl) h
end
def fL_batches (N : Nat) (σ : gS) (x8 : Int64) : Option (Int32 × gS) := lp (fL_batches_13 N) N (σ, 0, 0, x8, 0)
set_option maxRecDepth 100000 in
set_option maxHeartbeats 4000000 in
theorem kL_batches (l : Launch) (D : va_G) (y : Nat → ClassId) (aS : Nat → Nat) (sz : Nat) (L : List Nat) (hL : ∀ k, k < 179 → k ∈ L) (hT : 179 ∈ L ∧ 180 ∈ L ∧ 181 ∈ L) (ad : Nat → Nat) (N : Nat) (σ : gS) (x8 : Int64) (res : (Int32 × gS)) (h : fL_batches N σ x8 = some res) : Met l yL_batches (Cond.code yL_batches cL_batches 21 (some .int) :: wsL_law) ({ frames := 2, cells := 0, slots := 0, locals := 47 } : Room) (va_Pc [.ref (ad 161), .ref (ad 163), .ref (ad 164), .ref (ad 165), .ref (ad 166), .ref (ad 168), .ref (ad 169), .ref (ad 170), .long x8, .ref (ad 179), .ref (ad 180)] (gI D y aS (GW L y ad σ) sz)) (va_Qi (fun (r : Int32) (_ : Unit) => r = res.1) (fun _ => gO D (va_A (GW L y ad σ) sz) (GW L y ad res.2)) (va_A (GW L y ad σ) sz)) 0 0 (va_A (GW L y ad σ) sz) := by
  refine g_of (by decide) (Nat.le_of_ble_eq_true rfl) ?_
  intro p e s m below meth c ls A hx hb hr hml hown hg hlocks hin hsz hK hP hD hS hA hAe hl
  rw [← hAe]
  replace hown : s.vm.findClass RL = some m.cls := hown
  have hY : gY D y A s L ad σ s.heap [] := ⟨hP, hD, hS⟩
  clear hP hD hS
  replace hl : lv_has ls 21 [(0, .ref (ad 161)), (1, .ref (ad 163)), (2, .ref (ad 164)), (3, .ref (ad 165)), (4, .ref (ad 166)), (5, .ref (ad 168)), (6, .ref (ad 169)), (7, .ref (ad 170)), (8, .long x8), (10, .ref (ad 179)), (11, .ref (ad 180))] := hl
  unfold fL_batches at h
  refine lv_iconst (v := 0) hx hb dL_batches_0 (by decide) ?_
  refine lv_istore (lv' := [(12, .int 0), (0, .ref (ad 161)), (1, .ref (ad 163)), (2, .ref (ad 164)), (3, .ref (ad 165)), (4, .ref (ad 166)), (5, .ref (ad 168)), (6, .ref (ad 169)), (7, .ref (ad 170)), (8, .long x8), (10, .ref (ad 179)), (11, .ref (ad 180))]) hx hb dL_batches_1 hl (by decide) rfl ?_
  clear hl
  intro ls hl
  refine lv_iconst (v := 0) hx hb dL_batches_3 (by decide) ?_
  refine lv_istore (lv' := [(13, .int 0), (12, .int 0), (0, .ref (ad 161)), (1, .ref (ad 163)), (2, .ref (ad 164)), (3, .ref (ad 165)), (4, .ref (ad 166)), (5, .ref (ad 168)), (6, .ref (ad 169)), (7, .ref (ad 170)), (8, .long x8), (10, .ref (ad 179)), (11, .ref (ad 180))]) hx hb dL_batches_4 hl (by decide) rfl ?_
  clear hl
  intro ls hl
  refine lv_lload hx hb dL_batches_6 (lv_at hl 10 rfl) ?_
  refine lv_lstore (lv' := [(14, .long x8), (13, .int 0), (12, .int 0), (0, .ref (ad 161)), (1, .ref (ad 163)), (2, .ref (ad 164)), (3, .ref (ad 165)), (4, .ref (ad 166)), (5, .ref (ad 168)), (6, .ref (ad 169)), (7, .ref (ad 170)), (8, .long x8), (10, .ref (ad 179)), (11, .ref (ad 180))]) hx hb dL_batches_8 hl (by decide) rfl ?_
  clear hl
  intro ls hl
  refine lv_iconst (v := 0) hx hb dL_batches_10 (by decide) ?_
  refine lv_istore (lv' := [(16, .int 0), (14, .long x8), (13, .int 0), (12, .int 0), (0, .ref (ad 161)), (1, .ref (ad 163)), (2, .ref (ad 164)), (3, .ref (ad 165)), (4, .ref (ad 166)), (5, .ref (ad 168)), (6, .ref (ad 169)), (7, .ref (ad 170)), (8, .long x8), (10, .ref (ad 179)), (11, .ref (ad 180))]) hx hb dL_batches_11 hl (by decide) rfl ?_
  clear hl
  intro ls hl
  exact wL_batches_13 hx hb hr hml hown hg hlocks hK hA hL hT N _ _ _ hY (lv_sub hl [4, 5, 6, 7, 8, 9, 10, 11, 13, 14, 3, 2, 1, 0] rfl) h
section
variable {p : Program} {l : Launch} {e : Env} {s : State} {m : MethodId} {args : Array Value} {below : List Frame} {meth : Method} {c : Code} {D : va_G} {y : Nat → ClassId} {aS : Nat → Nat} {A : Nat → Prop} {L : List Nat} {ad : Nat → Nat} {N : Nat} {res : Int32}
def fL_many_28 (N : Nat) (rec5 : (Int32 × Int32) → Option Int32) (σ : gS) (x1 : Int32) (x2 : Int32) (x4 : Int32) (xs0 : Int32) (xs1 : Int32) : Option Int32 := rec5 ((xs1 + xs0), (x4 + 1))
set_option maxRecDepth 100000 in
set_option maxHeartbeats 4000000 in
theorem wL_many_28 {rec5 : (Int32 × Int32) → Option Int32} {σ : gS} {x1 : Int32} {x2 : Int32} {x4 : Int32} {xs0 : Int32} {xs1 : Int32} (hx : p.tables.exec = Jvm.exec) (hb : c.code = cL_many) (hr : meth.sig.returnType = (some .int)) (hml : c.maxLocals = 5) (hown : s.vm.findClass RL = some m.cls) (hg : ∀ w ∈ wsL_law, w.before args s = true) (hlocks : meth.locks = false) (hK : gK D y aS s) (hA : ∀ q, s.heap.size ≤ q → A q) (hL : ∀ k, k < 179 → k ∈ L) (hT : 179 ∈ L ∧ 180 ∈ L ∧ 181 ∈ L) (hrec5 : ∀ {x3n9 : Int32} {x4n9 : Int32} (H : Heap) (locs : List Loc) (ls : Array Slot), gY D y A s L ad σ H locs → lv_has ls 5 [(0, .ref (ad 179)), (1, .int x1), (2, .int x2), (3, .int x3n9), (4, .int x4n9)] → rec5 (x3n9, x4n9) = some res → W p l e ({ frames := 0, cells := 0, slots := 0, locals := 0 } : Room) s m args below meth c H locs 0 0 (MQ below (va_Qi (fun (r : Int32) (_ : Unit) => r = res) (fun _ => gO D A (GW L y ad σ)) A) args s 0 0 A) (F0 m 5 ls [])) {H : Heap} {locs : List Loc} {ls : Array Slot} (hY : gY D y A s L ad σ H locs) (hl : lv_has ls 5 [(0, .ref (ad 179)), (1, .int x1), (2, .int x2), (4, .int x4)]) (h : fL_many_28 N rec5 σ x1 x2 x4 xs0 xs1 = some res) : W p l e ({ frames := 0, cells := 0, slots := 0, locals := 0 } : Room) s m args below meth c H locs 0 0 (MQ below (va_Qi (fun (r : Int32) (_ : Unit) => r = res) (fun _ => gO D A (GW L y ad σ)) A) args s 0 0 A) (F0 m 28 ls [.int xs0, .int xs1]) := by
  unfold fL_many_28 at h
  refine lv_iadd hx hb dL_many_28 ?_
  refine lv_istore_n (lv' := [(3, .int (xs1 + xs0)), (0, .ref (ad 179)), (1, .int x1), (2, .int x2), (4, .int x4)]) hx hb dL_many_29 rfl hl (by decide) rfl ?_
  clear hl
  intro ls hl
  refine lv_iinc (v := (x4 + 1)) (lv' := [(4, .int (x4 + 1)), (3, .int (xs1 + xs0)), (0, .ref (ad 179)), (1, .int x1), (2, .int x2)]) hx hb dL_many_30 hl (k := 4) rfl rfl (by decide) rfl ?_
  clear hl
  intro ls hl
  refine lv_goto (tgt := 5) hx hb dL_many_33 (by decide) ?_
  exact hrec5 _ _ _ hY (lv_sub hl [2, 3, 4, 1, 0] rfl) h
def fL_many_5 (N : Nat) (σ : gS) (x1 : Int32) (x2 : Int32) (rec5 : (Int32 × Int32) → Option Int32) (xx : Int32 × Int32) : Option Int32 := match xx with
  | (x3, x4) => if x1 ≤ x4 then (some x3) else (if x4 < 0 ∨ 32 ≤ x4.toNatClampNeg then none else (if ((σ.1 179 x4.toNatClampNeg) / 100) = x2 then (fL_many_28 N rec5 σ x1 x2 x4 1 x3) else (fL_many_28 N rec5 σ x1 x2 x4 0 x3)))
set_option maxRecDepth 100000 in
set_option maxHeartbeats 4000000 in
theorem wL_many_5 {σ : gS} {x1 : Int32} {x2 : Int32} (hx : p.tables.exec = Jvm.exec) (hb : c.code = cL_many) (hr : meth.sig.returnType = (some .int)) (hml : c.maxLocals = 5) (hown : s.vm.findClass RL = some m.cls) (hg : ∀ w ∈ wsL_law, w.before args s = true) (hlocks : meth.locks = false) (hK : gK D y aS s) (hA : ∀ q, s.heap.size ≤ q → A q) (hL : ∀ k, k < 179 → k ∈ L) (hT : 179 ∈ L ∧ 180 ∈ L ∧ 181 ∈ L) : ∀ (n : Nat) {x3 : Int32} {x4 : Int32} (H : Heap) (locs : List Loc) (ls : Array Slot), gY D y A s L ad σ H locs → lv_has ls 5 [(0, .ref (ad 179)), (1, .int x1), (2, .int x2), (3, .int x3), (4, .int x4)] → lp (fL_many_5 N σ x1 x2) n (x3, x4) = some res → W p l e ({ frames := 0, cells := 0, slots := 0, locals := 0 } : Room) s m args below meth c H locs 0 0 (MQ below (va_Qi (fun (r : Int32) (_ : Unit) => r = res) (fun _ => gO D A (GW L y ad σ)) A) args s 0 0 A) (F0 m 5 ls []) := by
  intro n
  induction n with
  | zero => intro x3 x4 H locs ls hY hl h; exact nomatch (show none = some res from h)
  | succ n hrec5 =>
    intro x3 x4 H locs ls hY hl h
    replace h : fL_many_5 N σ x1 x2 (lp (fL_many_5 N σ x1 x2) n) (x3, x4) = some res := h
    generalize lp (fL_many_5 N σ x1 x2) n = rec5 at h hrec5
    unfold fL_many_5 at h
    try dsimp only at h
    refine lv_iload hx hb dL_many_5 (lv_at hl 4 rfl) ?_
    refine lv_iload_n hx hb dL_many_7 rfl (lv_at hl 1 rfl) ?_
    refine lv_icmp_ge (tgt := 36) hx hb dL_many_8 (by decide) (fun z_1 => ?_) (fun z_1 => ?_)
    ·
      rw [if_pos z_1] at h
      refine lv_iload_n hx hb dL_many_36 rfl (lv_at hl 3 rfl) ?_
      cases h
      exact g_iret hx hb hr hlocks () hY.1 hY.2.1 hY.2.2 rfl rfl (Nat.le_of_ble_eq_true rfl) (Nat.le_of_ble_eq_true rfl) dL_many_37
    ·
      rw [if_neg z_1] at h
      refine lv_iload_n hx hb dL_many_11 rfl (lv_at hl 3 rfl) ?_
      refine lv_aload_n hx hb dL_many_12 rfl (lv_at hl 0 rfl) ?_
      refine lv_iload hx hb dL_many_13 (lv_at hl 4 rfl) ?_
      obtain ⟨z_2, h⟩ := g_guard h
      refine G_iald (j := x4.toNatClampNeg) hx hb hK hY hT.1 gk_179 (by rw [gl_179]; exact z_2) rfl dL_many_15 ?_
      refine lv_bipush (v := 100) hx hb dL_many_16 (by decide +kernel) ?_
      refine lv_idiv hx hb dL_many_18 (by decide +kernel) ?_
      refine lv_iload_n hx hb dL_many_19 rfl (lv_at hl 2 rfl) ?_
      refine lv_icmp_ne (tgt := 27) hx hb dL_many_20 (by decide) (fun z_3 => ?_) (fun z_3 => ?_)
      ·
        rw [if_neg z_3] at h
        refine lv_iconst (v := 0) hx hb dL_many_27 (by decide) ?_
        exact wL_many_28 hx hb hr hml hown hg hlocks hK hA hL hT hrec5 hY (lv_sub hl [0, 1, 2, 4] rfl) h
      ·
        rw [if_pos z_3] at h
        refine lv_iconst (v := 1) hx hb dL_many_23 (by decide) ?_
        refine lv_goto (tgt := 28) hx hb dL_many_24 (by decide) ?_
        exact wL_many_28 hx hb hr hml hown hg hlocks hK hA hL hT hrec5 hY (lv_sub hl [0, 1, 2, 4] rfl) h
end
def fL_many (N : Nat) (σ : gS) (x1 : Int32) (x2 : Int32) : Option Int32 := lp (fL_many_5 N σ x1 x2) N (0, 0)
set_option maxRecDepth 100000 in
set_option maxHeartbeats 4000000 in
theorem kL_many (l : Launch) (D : va_G) (y : Nat → ClassId) (aS : Nat → Nat) (sz : Nat) (L : List Nat) (hL : ∀ k, k < 179 → k ∈ L) (hT : 179 ∈ L ∧ 180 ∈ L ∧ 181 ∈ L) (ad : Nat → Nat) (N : Nat) (σ : gS) (x1 : Int32) (x2 : Int32) (res : Int32) (h : fL_many N σ x1 x2 = some res) : Met l yL_many (Cond.code yL_many cL_many 5 (some .int) :: wsL_law) ({ frames := 0, cells := 0, slots := 0, locals := 0 } : Room) (va_Pc [.ref (ad 179), .int x1, .int x2] (gI D y aS (GW L y ad σ) sz)) (va_Qi (fun (r : Int32) (_ : Unit) => r = res) (fun _ => gO D (va_A (GW L y ad σ) sz) (GW L y ad σ)) (va_A (GW L y ad σ) sz)) 0 0 (va_A (GW L y ad σ) sz) := by
  refine g_of (by decide) (Nat.le_of_ble_eq_true rfl) ?_
  intro p e s m below meth c ls A hx hb hr hml hown hg hlocks hin hsz hK hP hD hS hA hAe hl
  rw [← hAe]
  replace hown : s.vm.findClass RL = some m.cls := hown
  have hY : gY D y A s L ad σ s.heap [] := ⟨hP, hD, hS⟩
  clear hP hD hS
  replace hl : lv_has ls 5 [(0, .ref (ad 179)), (1, .int x1), (2, .int x2)] := hl
  unfold fL_many at h
  refine lv_iconst (v := 0) hx hb dL_many_0 (by decide) ?_
  refine lv_istore_n (lv' := [(3, .int 0), (0, .ref (ad 179)), (1, .int x1), (2, .int x2)]) hx hb dL_many_1 rfl hl (by decide) rfl ?_
  clear hl
  intro ls hl
  refine lv_iconst (v := 0) hx hb dL_many_2 (by decide) ?_
  refine lv_istore (lv' := [(4, .int 0), (3, .int 0), (0, .ref (ad 179)), (1, .int x1), (2, .int x2)]) hx hb dL_many_3 hl (by decide) rfl ?_
  clear hl
  intro ls hl
  exact wL_many_5 hx hb hr hml hown hg hlocks hK hA hL hT N _ _ _ hY (lv_sub hl [2, 3, 4, 1, 0] rfl) h
section
variable {p : Program} {l : Launch} {e : Env} {s : State} {m : MethodId} {args : Array Value} {below : List Frame} {meth : Method} {c : Code} {D : va_G} {y : Nat → ClassId} {aS : Nat → Nat} {A : Nat → Prop} {L : List Nat} {ad : Nat → Nat} {N : Nat} {res : Int64}
def fL_beginning_7 (N : Nat) (σ : gS) (x3 : Int32) (rec7 : (Int64 × Int32) → Option Int64) (xx : Int64 × Int32) : Option Int64 := match xx with
  | (x6, x8) => if x3 ≤ x8 then (some x6) else (if x8 < 0 ∨ 32 ≤ x8.toNatClampNeg then none else ((fL_onto N σ (σ.1 179 x8.toNatClampNeg) x6).bind fun r_3 => rec7 (r_3, (x8 + 1))))
set_option maxRecDepth 100000 in
set_option maxHeartbeats 4000000 in
theorem wL_beginning_7 {σ : gS} {x3 : Int32} (hx : p.tables.exec = Jvm.exec) (hb : c.code = cL_beginning) (hr : meth.sig.returnType = (some .long)) (hml : c.maxLocals = 9) (hown : s.vm.findClass RL = some m.cls) (hg : ∀ w ∈ wsL_law, w.before args s = true) (hlocks : meth.locks = false) (hK : gK D y aS s) (hA : ∀ q, s.heap.size ≤ q → A q) (hL : ∀ k, k < 179 → k ∈ L) (hT : 179 ∈ L ∧ 180 ∈ L ∧ 181 ∈ L) : ∀ (n : Nat) {x6 : Int64} {x8 : Int32} (H : Heap) (locs : List Loc) (ls : Array Slot), gY D y A s L ad σ H locs → lv_has ls 9 [(0, .ref (ad 168)), (1, .ref (ad 170)), (2, .ref (ad 179)), (3, .int x3), (6, .long x6), (8, .int x8)] → lp (fL_beginning_7 N σ x3) n (x6, x8) = some res → W p l e ({ frames := 2, cells := 0, slots := 0, locals := 47 } : Room) s m args below meth c H locs 0 0 (MQ below (va_Ql (fun (r : Int64) (_ : Unit) => r = res) (fun _ => gO D A (GW L y ad σ)) A) args s 0 0 A) (F0 m 7 ls []) := by
  intro n
  induction n with
  | zero => intro x6 x8 H locs ls hY hl h; exact nomatch (show none = some res from h)
  | succ n hrec7 =>
    intro x6 x8 H locs ls hY hl h
    replace h : fL_beginning_7 N σ x3 (lp (fL_beginning_7 N σ x3) n) (x6, x8) = some res := h
    generalize lp (fL_beginning_7 N σ x3) n = rec7 at h hrec7
    unfold fL_beginning_7 at h
    try dsimp only at h
    refine lv_iload hx hb dL_beginning_7 (lv_at hl 5 rfl) ?_
    refine lv_iload_n hx hb dL_beginning_9 rfl (lv_at hl 3 rfl) ?_
    refine lv_icmp_ge (tgt := 32) hx hb dL_beginning_10 (by decide) (fun z_1 => ?_) (fun z_1 => ?_)
    ·
      rw [if_pos z_1] at h
      refine lv_lload hx hb dL_beginning_32 (lv_at hl 4 rfl) ?_
      cases h
      exact g_lret hx hb hr hlocks () hY.1 hY.2.1 hY.2.2 rfl (Nat.le_of_ble_eq_true rfl) (Nat.le_of_ble_eq_true rfl) dL_beginning_34
    ·
      rw [if_neg z_1] at h
      refine lv_aload_n hx hb dL_beginning_13 rfl (lv_at hl 0 rfl) ?_
      refine lv_aload_n hx hb dL_beginning_14 rfl (lv_at hl 1 rfl) ?_
      refine lv_aload_n hx hb dL_beginning_15 rfl (lv_at hl 2 rfl) ?_
      refine lv_iload hx hb dL_beginning_16 (lv_at hl 5 rfl) ?_
      obtain ⟨z_2, h⟩ := g_guard h
      refine G_iald (j := x8.toNatClampNeg) hx hb hK hY hT.1 gk_179 (by rw [gl_179]; exact z_2) rfl dL_beginning_18 ?_
      refine lv_lload hx hb dL_beginning_19 (lv_at hl 4 rfl) ?_
      obtain ⟨r_3, e_4, h⟩ := g_bind h
      refine G_al hY hA (va_runS (As := [.ref (ad 168), .ref (ad 170), .int (σ.1 179 x8.toNatClampNeg), .long x6]) (rest := []) ⟨hx, hb, hml, hown, hg⟩ (kL_onto l D y aS H.size L hL ad N σ (σ.1 179 x8.toNatClampNeg) x6 _ e_4) (va_cwS 4 hg ggS_RL_49_L_onto rfl rfl rfl (by decide +kernel) ⟨Nat.le_of_ble_eq_true rfl, Nat.le_of_ble_eq_true rfl⟩) (G_pS hK hY) rfl rfl hl.1 rfl (lv_room (Nat.le_of_ble_eq_true rfl)) dL_beginning_21 ⟨Nat.le_of_ble_eq_true rfl, Nat.le_of_ble_eq_true rfl⟩) ?_
      clear hY
      rintro _ H locs rfl hY
      refine lv_lstore (lv' := [(6, .long r_3), (0, .ref (ad 168)), (1, .ref (ad 170)), (2, .ref (ad 179)), (3, .int x3), (8, .int x8)]) hx hb dL_beginning_24 hl (by decide) rfl ?_
      clear hl
      intro ls hl
      refine lv_iinc (v := (x8 + 1)) (lv' := [(8, .int (x8 + 1)), (6, .long r_3), (0, .ref (ad 168)), (1, .ref (ad 170)), (2, .ref (ad 179)), (3, .int x3)]) hx hb dL_beginning_26 hl (k := 5) rfl rfl (by decide) rfl ?_
      clear hl
      intro ls hl
      refine lv_goto (tgt := 7) hx hb dL_beginning_29 (by decide) ?_
      exact hrec7 _ _ _ hY (lv_sub hl [2, 3, 4, 5, 1, 0] rfl) h
end
def fL_beginning (N : Nat) (σ : gS) (x3 : Int32) (x4 : Int64) : Option Int64 := lp (fL_beginning_7 N σ x3) N (x4, 0)
set_option maxRecDepth 100000 in
set_option maxHeartbeats 4000000 in
theorem kL_beginning (l : Launch) (D : va_G) (y : Nat → ClassId) (aS : Nat → Nat) (sz : Nat) (L : List Nat) (hL : ∀ k, k < 179 → k ∈ L) (hT : 179 ∈ L ∧ 180 ∈ L ∧ 181 ∈ L) (ad : Nat → Nat) (N : Nat) (σ : gS) (x3 : Int32) (x4 : Int64) (res : Int64) (h : fL_beginning N σ x3 x4 = some res) : Met l yL_beginning (Cond.code yL_beginning cL_beginning 9 (some .long) :: wsL_law) ({ frames := 2, cells := 0, slots := 0, locals := 47 } : Room) (va_Pc [.ref (ad 168), .ref (ad 170), .ref (ad 179), .int x3, .long x4] (gI D y aS (GW L y ad σ) sz)) (va_Ql (fun (r : Int64) (_ : Unit) => r = res) (fun _ => gO D (va_A (GW L y ad σ) sz) (GW L y ad σ)) (va_A (GW L y ad σ) sz)) 0 0 (va_A (GW L y ad σ) sz) := by
  refine g_of (by decide) (Nat.le_of_ble_eq_true rfl) ?_
  intro p e s m below meth c ls A hx hb hr hml hown hg hlocks hin hsz hK hP hD hS hA hAe hl
  rw [← hAe]
  replace hown : s.vm.findClass RL = some m.cls := hown
  have hY : gY D y A s L ad σ s.heap [] := ⟨hP, hD, hS⟩
  clear hP hD hS
  replace hl : lv_has ls 9 [(0, .ref (ad 168)), (1, .ref (ad 170)), (2, .ref (ad 179)), (3, .int x3), (4, .long x4)] := hl
  unfold fL_beginning at h
  refine lv_lload hx hb dL_beginning_0 (lv_at hl 4 rfl) ?_
  refine lv_lstore (lv' := [(6, .long x4), (0, .ref (ad 168)), (1, .ref (ad 170)), (2, .ref (ad 179)), (3, .int x3), (4, .long x4)]) hx hb dL_beginning_2 hl (by decide) rfl ?_
  clear hl
  intro ls hl
  refine lv_iconst (v := 0) hx hb dL_beginning_4 (by decide) ?_
  refine lv_istore (lv' := [(8, .int 0), (6, .long x4), (0, .ref (ad 168)), (1, .ref (ad 170)), (2, .ref (ad 179)), (3, .int x3), (4, .long x4)]) hx hb dL_beginning_5 hl (by decide) rfl ?_
  clear hl
  intro ls hl
  exact wL_beginning_7 hx hb hr hml hown hg hlocks hK hA hL hT N _ _ _ hY (lv_sub hl [2, 3, 4, 5, 1, 0] rfl) h
theorem ggS_RL_53_L_required : GoodIn wsL_law (va_wsS RL 53 yL_required (Cond.code yL_required cL_required 10 (some .int) :: wsL_law)) := g_gi (fun _ h => h) gW_good (List.forall_mem_cons.mpr ⟨⟨gw_467, rfl⟩, List.forall_mem_cons.mpr ⟨⟨gw_468, rfl⟩, List.forall_mem_cons.mpr ⟨⟨gw_162, rfl⟩, fun _ h => nomatch h⟩⟩⟩) ⟨gw_469, rfl⟩
section
variable {p : Program} {l : Launch} {e : Env} {s : State} {m : MethodId} {args : Array Value} {below : List Frame} {meth : Method} {c : Code} {D : va_G} {y : Nat → ClassId} {aS : Nat → Nat} {A : Nat → Prop} {L : List Nat} {ad : Nat → Nat} {N : Nat} {res : Int32}
def fL_requiredOf_7 (N : Nat) (σ : gS) (x7 : Int32) (rec7 : (Int32 × Int32) → Option Int32) (xx : Int32 × Int32) : Option Int32 := match xx with
  | (x8, x9) => if x7 ≤ x9 then (some x8) else (if x9 < 0 ∨ 32 ≤ x9.toNatClampNeg then none else ((fL_required N σ ((σ.1 179 x9.toNatClampNeg) - (σ.1 179 x9.toNatClampNeg) / 100 * 100)).bind fun r_3 => rec7 ((x8 ||| r_3), (x9 + 1))))
set_option maxRecDepth 100000 in
set_option maxHeartbeats 4000000 in
theorem wL_requiredOf_7 {σ : gS} {x7 : Int32} (hx : p.tables.exec = Jvm.exec) (hb : c.code = cL_requiredOf) (hr : meth.sig.returnType = (some .int)) (hml : c.maxLocals = 10) (hown : s.vm.findClass RL = some m.cls) (hg : ∀ w ∈ wsL_law, w.before args s = true) (hlocks : meth.locks = false) (hK : gK D y aS s) (hA : ∀ q, s.heap.size ≤ q → A q) (hL : ∀ k, k < 179 → k ∈ L) (hT : 179 ∈ L ∧ 180 ∈ L ∧ 181 ∈ L) : ∀ (n : Nat) {x8 : Int32} {x9 : Int32} (H : Heap) (locs : List Loc) (ls : Array Slot), gY D y A s L ad σ H locs → lv_has ls 10 [(0, .ref (ad 161)), (1, .ref (ad 162)), (2, .ref (ad 168)), (3, .ref (ad 172)), (4, .ref (ad 173)), (5, .ref (ad 179)), (7, .int x7), (8, .int x8), (9, .int x9)] → lp (fL_requiredOf_7 N σ x7) n (x8, x9) = some res → W p l e ({ frames := 1, cells := 0, slots := 0, locals := 29 } : Room) s m args below meth c H locs 0 0 (MQ below (va_Qi (fun (r : Int32) (_ : Unit) => r = res) (fun _ => gO D A (GW L y ad σ)) A) args s 0 0 A) (F0 m 7 ls []) := by
  intro n
  induction n with
  | zero => intro x8 x9 H locs ls hY hl h; exact nomatch (show none = some res from h)
  | succ n hrec7 =>
    intro x8 x9 H locs ls hY hl h
    replace h : fL_requiredOf_7 N σ x7 (lp (fL_requiredOf_7 N σ x7) n) (x8, x9) = some res := h
    generalize lp (fL_requiredOf_7 N σ x7) n = rec7 at h hrec7
    unfold fL_requiredOf_7 at h
    try dsimp only at h
    refine lv_iload hx hb dL_requiredOf_7 (lv_at hl 8 rfl) ?_
    refine lv_iload hx hb dL_requiredOf_9 (lv_at hl 6 rfl) ?_
    refine lv_icmp_ge (tgt := 42) hx hb dL_requiredOf_11 (by decide) (fun z_1 => ?_) (fun z_1 => ?_)
    ·
      rw [if_pos z_1] at h
      refine lv_iload hx hb dL_requiredOf_42 (lv_at hl 7 rfl) ?_
      cases h
      exact g_iret hx hb hr hlocks () hY.1 hY.2.1 hY.2.2 rfl rfl (Nat.le_of_ble_eq_true rfl) (Nat.le_of_ble_eq_true rfl) dL_requiredOf_44
    ·
      rw [if_neg z_1] at h
      refine lv_iload hx hb dL_requiredOf_14 (lv_at hl 7 rfl) ?_
      refine lv_aload_n hx hb dL_requiredOf_16 rfl (lv_at hl 0 rfl) ?_
      refine lv_aload_n hx hb dL_requiredOf_17 rfl (lv_at hl 1 rfl) ?_
      refine lv_aload_n hx hb dL_requiredOf_18 rfl (lv_at hl 2 rfl) ?_
      refine lv_aload_n hx hb dL_requiredOf_19 rfl (lv_at hl 3 rfl) ?_
      refine lv_aload hx hb dL_requiredOf_20 (lv_at hl 4 rfl) ?_
      refine lv_aload hx hb dL_requiredOf_22 (lv_at hl 5 rfl) ?_
      refine lv_iload hx hb dL_requiredOf_24 (lv_at hl 8 rfl) ?_
      obtain ⟨z_2, h⟩ := g_guard h
      refine G_iald (j := x9.toNatClampNeg) hx hb hK hY hT.1 gk_179 (by rw [gl_179]; exact z_2) rfl dL_requiredOf_26 ?_
      refine lv_bipush (v := 100) hx hb dL_requiredOf_27 (by decide +kernel) ?_
      refine lv_irem hx hb dL_requiredOf_29 (by decide +kernel) ?_
      obtain ⟨r_3, e_4, h⟩ := g_bind h
      refine G_ai hY hA (va_runS (As := [.ref (ad 161), .ref (ad 162), .ref (ad 168), .ref (ad 172), .ref (ad 173), .int ((σ.1 179 x9.toNatClampNeg) - (σ.1 179 x9.toNatClampNeg) / 100 * 100)]) (rest := [.int x8]) ⟨hx, hb, hml, hown, hg⟩ (kL_required l D y aS H.size L hL ad N σ ((σ.1 179 x9.toNatClampNeg) - (σ.1 179 x9.toNatClampNeg) / 100 * 100) _ e_4) (va_cwS 6 hg ggS_RL_53_L_required rfl rfl rfl (by decide +kernel) ⟨Nat.le_of_ble_eq_true rfl, Nat.le_of_ble_eq_true rfl⟩) (G_pS hK hY) rfl rfl hl.1 rfl (lv_room (Nat.le_of_ble_eq_true rfl)) dL_requiredOf_30 ⟨Nat.le_of_ble_eq_true rfl, Nat.le_of_ble_eq_true rfl⟩) ?_
      clear hY
      rintro _ H locs rfl hY
      refine lv_ior hx hb dL_requiredOf_33 ?_
      refine lv_istore (lv' := [(8, .int (x8 ||| r_3)), (0, .ref (ad 161)), (1, .ref (ad 162)), (2, .ref (ad 168)), (3, .ref (ad 172)), (4, .ref (ad 173)), (5, .ref (ad 179)), (7, .int x7), (9, .int x9)]) hx hb dL_requiredOf_34 hl (by decide) rfl ?_
      clear hl
      intro ls hl
      refine lv_iinc (v := (x9 + 1)) (lv' := [(9, .int (x9 + 1)), (8, .int (x8 ||| r_3)), (0, .ref (ad 161)), (1, .ref (ad 162)), (2, .ref (ad 168)), (3, .ref (ad 172)), (4, .ref (ad 173)), (5, .ref (ad 179)), (7, .int x7)]) hx hb dL_requiredOf_36 hl (k := 8) rfl rfl (by decide) rfl ?_
      clear hl
      intro ls hl
      refine lv_goto (tgt := 7) hx hb dL_requiredOf_39 (by decide) ?_
      exact hrec7 _ _ _ hY (lv_sub hl [2, 3, 4, 5, 6, 7, 8, 1, 0] rfl) h
end
def fL_requiredOf (N : Nat) (σ : gS) (x6 : Int32) (x7 : Int32) : Option Int32 := lp (fL_requiredOf_7 N σ x7) N (0, x6)
set_option maxRecDepth 100000 in
set_option maxHeartbeats 4000000 in
theorem kL_requiredOf (l : Launch) (D : va_G) (y : Nat → ClassId) (aS : Nat → Nat) (sz : Nat) (L : List Nat) (hL : ∀ k, k < 179 → k ∈ L) (hT : 179 ∈ L ∧ 180 ∈ L ∧ 181 ∈ L) (ad : Nat → Nat) (N : Nat) (σ : gS) (x6 : Int32) (x7 : Int32) (res : Int32) (h : fL_requiredOf N σ x6 x7 = some res) : Met l yL_requiredOf (Cond.code yL_requiredOf cL_requiredOf 10 (some .int) :: wsL_law) ({ frames := 1, cells := 0, slots := 0, locals := 29 } : Room) (va_Pc [.ref (ad 161), .ref (ad 162), .ref (ad 168), .ref (ad 172), .ref (ad 173), .ref (ad 179), .int x6, .int x7] (gI D y aS (GW L y ad σ) sz)) (va_Qi (fun (r : Int32) (_ : Unit) => r = res) (fun _ => gO D (va_A (GW L y ad σ) sz) (GW L y ad σ)) (va_A (GW L y ad σ) sz)) 0 0 (va_A (GW L y ad σ) sz) := by
  refine g_of (by decide) (Nat.le_of_ble_eq_true rfl) ?_
  intro p e s m below meth c ls A hx hb hr hml hown hg hlocks hin hsz hK hP hD hS hA hAe hl
  rw [← hAe]
  replace hown : s.vm.findClass RL = some m.cls := hown
  have hY : gY D y A s L ad σ s.heap [] := ⟨hP, hD, hS⟩
  clear hP hD hS
  replace hl : lv_has ls 10 [(0, .ref (ad 161)), (1, .ref (ad 162)), (2, .ref (ad 168)), (3, .ref (ad 172)), (4, .ref (ad 173)), (5, .ref (ad 179)), (6, .int x6), (7, .int x7)] := hl
  unfold fL_requiredOf at h
  refine lv_iconst (v := 0) hx hb dL_requiredOf_0 (by decide) ?_
  refine lv_istore (lv' := [(8, .int 0), (0, .ref (ad 161)), (1, .ref (ad 162)), (2, .ref (ad 168)), (3, .ref (ad 172)), (4, .ref (ad 173)), (5, .ref (ad 179)), (6, .int x6), (7, .int x7)]) hx hb dL_requiredOf_1 hl (by decide) rfl ?_
  clear hl
  intro ls hl
  refine lv_iload hx hb dL_requiredOf_3 (lv_at hl 7 rfl) ?_
  refine lv_istore (lv' := [(9, .int x6), (8, .int 0), (0, .ref (ad 161)), (1, .ref (ad 162)), (2, .ref (ad 168)), (3, .ref (ad 172)), (4, .ref (ad 173)), (5, .ref (ad 179)), (6, .int x6), (7, .int x7)]) hx hb dL_requiredOf_5 hl (by decide) rfl ?_
  clear hl
  intro ls hl
  exact wL_requiredOf_7 hx hb hr hml hown hg hlocks hK hA hL hT N _ _ _ hY (lv_sub hl [2, 3, 4, 5, 6, 7, 9, 1, 0] rfl) h
theorem ggS_RL_56_L_requiredOf : GoodIn wsL_law (va_wsS RL 56 yL_requiredOf (Cond.code yL_requiredOf cL_requiredOf 10 (some .int) :: wsL_law)) := g_gi (fun _ h => h) gW_good (List.forall_mem_cons.mpr ⟨⟨gw_554, rfl⟩, List.forall_mem_cons.mpr ⟨⟨gw_555, rfl⟩, List.forall_mem_cons.mpr ⟨⟨gw_162, rfl⟩, fun _ h => nomatch h⟩⟩⟩) ⟨gw_556, rfl⟩
theorem ggS_RL_60_L_beginning : GoodIn wsL_law (va_wsS RL 60 yL_beginning (Cond.code yL_beginning cL_beginning 9 (some .long) :: wsL_law)) := g_gi (fun _ h => h) gW_good (List.forall_mem_cons.mpr ⟨⟨gw_563, rfl⟩, List.forall_mem_cons.mpr ⟨⟨gw_564, rfl⟩, List.forall_mem_cons.mpr ⟨⟨gw_162, rfl⟩, fun _ h => nomatch h⟩⟩⟩) ⟨gw_565, rfl⟩
theorem ggS_RL_64_L_verdicts : GoodIn wsL_law (va_wsS RL 64 yL_verdicts (Cond.code yL_verdicts cL_verdicts 11 (some .int) :: wsL_law)) := g_gi (fun _ h => h) gW_good (List.forall_mem_cons.mpr ⟨⟨gw_557, rfl⟩, List.forall_mem_cons.mpr ⟨⟨gw_558, rfl⟩, List.forall_mem_cons.mpr ⟨⟨gw_162, rfl⟩, fun _ h => nomatch h⟩⟩⟩) ⟨gw_559, rfl⟩
section
variable {p : Program} {l : Launch} {e : Env} {s : State} {m : MethodId} {args : Array Value} {below : List Frame} {meth : Method} {c : Code} {D : va_G} {y : Nat → ClassId} {aS : Nat → Nat} {A : Nat → Prop} {L : List Nat} {ad : Nat → Nat} {N : Nat} {res : gS}
def fL_bisects_238 (N : Nat) (σ : gS) : Option gS := some σ
set_option maxRecDepth 100000 in
set_option maxHeartbeats 4000000 in
theorem wL_bisects_238 {σ : gS} (hx : p.tables.exec = Jvm.exec) (hb : c.code = cL_bisects) (hr : meth.sig.returnType = none) (hml : c.maxLocals = 18) (hown : s.vm.findClass RL = some m.cls) (hg : ∀ w ∈ wsL_law, w.before args s = true) (hlocks : meth.locks = false) (hK : gK D y aS s) (hA : ∀ q, s.heap.size ≤ q → A q) (hL : ∀ k, k < 179 → k ∈ L) (hT : 179 ∈ L ∧ 180 ∈ L ∧ 181 ∈ L) {H : Heap} {locs : List Loc} {ls : Array Slot} (hY : gY D y A s L ad σ H locs) (hl : lv_has ls 18 []) (h : fL_bisects_238 N σ = some res) : W p l e ({ frames := 4, cells := 0, slots := 0, locals := 103 } : Room) s m args below meth c H locs 0 0 (MQ below (va_Qv (fun (_ : Unit) => True) (fun _ => gO D A (GW L y ad res)) A) args s 0 0 A) (F0 m 238 ls []) := by
  unfold fL_bisects_238 at h
  cases h
  exact g_vret hx hb hr hlocks () hY.1 hY.2.1 hY.2.2 trivial (Nat.le_of_ble_eq_true rfl) (Nat.le_of_ble_eq_true rfl) dL_bisects_238
def fL_bisects_118 (N : Nat) (rec16 : gS → Option gS) (rec89 : (gS × Int32 × Int32) → Option gS) (σ : gS) (x11 : Int64) (x14 : Int32) (x15 : Int32) (x16 : Int32) : Option gS := if x15 < 0 ∨ 32 ≤ x15.toNatClampNeg then none else (if (σ.1 179 x15.toNatClampNeg) < 0 ∨ 24 ≤ (σ.1 179 x15.toNatClampNeg).toNatClampNeg then none else (if (6 + (σ.1 162 ((σ.1 179 x15.toNatClampNeg).toNatClampNeg))) < 0 ∨ 14 ≤ (6 + (σ.1 162 ((σ.1 179 x15.toNatClampNeg).toNatClampNeg))).toNatClampNeg then none else (rec89 (σ, (x15 + 1), (x16 + (1 + (σ.1 178 ((6 + (σ.1 162 ((σ.1 179 x15.toNatClampNeg).toNatClampNeg))).toNatClampNeg))))))))
set_option maxRecDepth 100000 in
set_option maxHeartbeats 4000000 in
theorem wL_bisects_118 {rec16 : gS → Option gS} {rec89 : (gS × Int32 × Int32) → Option gS} {σ : gS} {x11 : Int64} {x14 : Int32} {x15 : Int32} {x16 : Int32} (hx : p.tables.exec = Jvm.exec) (hb : c.code = cL_bisects) (hr : meth.sig.returnType = none) (hml : c.maxLocals = 18) (hown : s.vm.findClass RL = some m.cls) (hg : ∀ w ∈ wsL_law, w.before args s = true) (hlocks : meth.locks = false) (hK : gK D y aS s) (hA : ∀ q, s.heap.size ≤ q → A q) (hL : ∀ k, k < 179 → k ∈ L) (hT : 179 ∈ L ∧ 180 ∈ L ∧ 181 ∈ L) (hrec16 : ∀ {σ9 : gS} (H : Heap) (locs : List Loc) (ls : Array Slot), gY D y A s L ad σ9 H locs → lv_has ls 18 [(0, .ref (ad 161)), (1, .ref (ad 162)), (2, .ref (ad 168)), (3, .ref (ad 170)), (4, .ref (ad 172)), (5, .ref (ad 173)), (6, .ref (ad 174)), (7, .ref (ad 175)), (8, .ref (ad 178)), (9, .ref (ad 179)), (11, .long x11), (13, .ref (ad 181))] → rec16 σ9 = some res → W p l e ({ frames := 4, cells := 0, slots := 0, locals := 103 } : Room) s m args below meth c H locs 0 0 (MQ below (va_Qv (fun (_ : Unit) => True) (fun _ => gO D A (GW L y ad res)) A) args s 0 0 A) (F0 m 16 ls [])) (hrec89 : ∀ {σ9 : gS} {x15n9 : Int32} {x16n9 : Int32} (H : Heap) (locs : List Loc) (ls : Array Slot), gY D y A s L ad σ9 H locs → lv_has ls 18 [(0, .ref (ad 161)), (1, .ref (ad 162)), (2, .ref (ad 168)), (3, .ref (ad 170)), (4, .ref (ad 172)), (5, .ref (ad 173)), (6, .ref (ad 174)), (7, .ref (ad 175)), (8, .ref (ad 178)), (9, .ref (ad 179)), (11, .long x11), (13, .ref (ad 181)), (14, .int x14), (15, .int x15n9), (16, .int x16n9)] → rec89 (σ9, x15n9, x16n9) = some res → W p l e ({ frames := 4, cells := 0, slots := 0, locals := 103 } : Room) s m args below meth c H locs 0 0 (MQ below (va_Qv (fun (_ : Unit) => True) (fun _ => gO D A (GW L y ad res)) A) args s 0 0 A) (F0 m 89 ls [])) {H : Heap} {locs : List Loc} {ls : Array Slot} (hY : gY D y A s L ad σ H locs) (hl : lv_has ls 18 [(0, .ref (ad 161)), (1, .ref (ad 162)), (2, .ref (ad 168)), (3, .ref (ad 170)), (4, .ref (ad 172)), (5, .ref (ad 173)), (6, .ref (ad 174)), (7, .ref (ad 175)), (8, .ref (ad 178)), (9, .ref (ad 179)), (11, .long x11), (13, .ref (ad 181)), (14, .int x14), (15, .int x15), (16, .int x16)]) (h : fL_bisects_118 N rec16 rec89 σ x11 x14 x15 x16 = some res) : W p l e ({ frames := 4, cells := 0, slots := 0, locals := 103 } : Room) s m args below meth c H locs 0 0 (MQ below (va_Qv (fun (_ : Unit) => True) (fun _ => gO D A (GW L y ad res)) A) args s 0 0 A) (F0 m 118 ls []) := by
  unfold fL_bisects_118 at h
  refine lv_iload hx hb dL_bisects_118 (lv_at hl 14 rfl) ?_
  refine lv_iconst (v := 1) hx hb dL_bisects_120 (by decide) ?_
  refine lv_aload hx hb dL_bisects_121 (lv_at hl 8 rfl) ?_
  refine lv_bipush (v := 6) hx hb dL_bisects_123 (by decide +kernel) ?_
  refine lv_aload_n hx hb dL_bisects_125 rfl (lv_at hl 1 rfl) ?_
  refine lv_aload hx hb dL_bisects_126 (lv_at hl 9 rfl) ?_
  refine lv_iload hx hb dL_bisects_128 (lv_at hl 13 rfl) ?_
  obtain ⟨z_1, h⟩ := g_guard h
  refine G_iald (j := x15.toNatClampNeg) hx hb hK hY hT.1 gk_179 (by rw [gl_179]; exact z_1) rfl dL_bisects_130 ?_
  obtain ⟨z_2, h⟩ := g_guard h
  refine G_iald (j := (σ.1 179 x15.toNatClampNeg).toNatClampNeg) hx hb hK hY (hL 162 (by decide)) gk_162 (by rw [gl_162]; exact z_2) rfl dL_bisects_131 ?_
  refine lv_iadd hx hb dL_bisects_132 ?_
  obtain ⟨z_3, h⟩ := g_guard h
  refine G_iald (j := (6 + (σ.1 162 ((σ.1 179 x15.toNatClampNeg).toNatClampNeg))).toNatClampNeg) hx hb hK hY (hL 178 (by decide)) gk_178 (by rw [gl_178]; exact z_3) rfl dL_bisects_133 ?_
  refine lv_iadd hx hb dL_bisects_134 ?_
  refine lv_iadd hx hb dL_bisects_135 ?_
  refine lv_istore (lv' := [(16, .int (x16 + (1 + (σ.1 178 ((6 + (σ.1 162 ((σ.1 179 x15.toNatClampNeg).toNatClampNeg))).toNatClampNeg))))), (0, .ref (ad 161)), (1, .ref (ad 162)), (2, .ref (ad 168)), (3, .ref (ad 170)), (4, .ref (ad 172)), (5, .ref (ad 173)), (6, .ref (ad 174)), (7, .ref (ad 175)), (8, .ref (ad 178)), (9, .ref (ad 179)), (11, .long x11), (13, .ref (ad 181)), (14, .int x14), (15, .int x15)]) hx hb dL_bisects_136 hl (by decide) rfl ?_
  clear hl
  intro ls hl
  refine lv_iinc (v := (x15 + 1)) (lv' := [(15, .int (x15 + 1)), (16, .int (x16 + (1 + (σ.1 178 ((6 + (σ.1 162 ((σ.1 179 x15.toNatClampNeg).toNatClampNeg))).toNatClampNeg))))), (0, .ref (ad 161)), (1, .ref (ad 162)), (2, .ref (ad 168)), (3, .ref (ad 170)), (4, .ref (ad 172)), (5, .ref (ad 173)), (6, .ref (ad 174)), (7, .ref (ad 175)), (8, .ref (ad 178)), (9, .ref (ad 179)), (11, .long x11), (13, .ref (ad 181)), (14, .int x14)]) hx hb dL_bisects_138 hl (k := 14) rfl rfl (by decide) rfl ?_
  clear hl
  intro ls hl
  refine lv_goto (tgt := 89) hx hb dL_bisects_141 (by decide) ?_
  exact hrec89 _ _ _ hY (lv_sub hl [2, 3, 4, 5, 6, 7, 8, 9, 10, 11, 12, 13, 14, 0, 1] rfl) h
def fL_bisects_234 (N : Nat) (rec16 : gS → Option gS) (σ : gS) (x11 : Int64) (xs0 : Int32) (xs1 : Int32) : Option gS := if xs1 < 0 ∨ 3 ≤ xs1.toNatClampNeg then none else (rec16 (sI σ 181 xs1.toNatClampNeg xs0))
set_option maxRecDepth 100000 in
set_option maxHeartbeats 4000000 in
theorem wL_bisects_234 {rec16 : gS → Option gS} {σ : gS} {x11 : Int64} {xs0 : Int32} {xs1 : Int32} (hx : p.tables.exec = Jvm.exec) (hb : c.code = cL_bisects) (hr : meth.sig.returnType = none) (hml : c.maxLocals = 18) (hown : s.vm.findClass RL = some m.cls) (hg : ∀ w ∈ wsL_law, w.before args s = true) (hlocks : meth.locks = false) (hK : gK D y aS s) (hA : ∀ q, s.heap.size ≤ q → A q) (hL : ∀ k, k < 179 → k ∈ L) (hT : 179 ∈ L ∧ 180 ∈ L ∧ 181 ∈ L) (hrec16 : ∀ {σ9 : gS} (H : Heap) (locs : List Loc) (ls : Array Slot), gY D y A s L ad σ9 H locs → lv_has ls 18 [(0, .ref (ad 161)), (1, .ref (ad 162)), (2, .ref (ad 168)), (3, .ref (ad 170)), (4, .ref (ad 172)), (5, .ref (ad 173)), (6, .ref (ad 174)), (7, .ref (ad 175)), (8, .ref (ad 178)), (9, .ref (ad 179)), (11, .long x11), (13, .ref (ad 181))] → rec16 σ9 = some res → W p l e ({ frames := 4, cells := 0, slots := 0, locals := 103 } : Room) s m args below meth c H locs 0 0 (MQ below (va_Qv (fun (_ : Unit) => True) (fun _ => gO D A (GW L y ad res)) A) args s 0 0 A) (F0 m 16 ls [])) {H : Heap} {locs : List Loc} {ls : Array Slot} (hY : gY D y A s L ad σ H locs) (hl : lv_has ls 18 [(0, .ref (ad 161)), (1, .ref (ad 162)), (2, .ref (ad 168)), (3, .ref (ad 170)), (4, .ref (ad 172)), (5, .ref (ad 173)), (6, .ref (ad 174)), (7, .ref (ad 175)), (8, .ref (ad 178)), (9, .ref (ad 179)), (11, .long x11), (13, .ref (ad 181))]) (h : fL_bisects_234 N rec16 σ x11 xs0 xs1 = some res) : W p l e ({ frames := 4, cells := 0, slots := 0, locals := 103 } : Room) s m args below meth c H locs 0 0 (MQ below (va_Qv (fun (_ : Unit) => True) (fun _ => gO D A (GW L y ad res)) A) args s 0 0 A) (F0 m 234 ls [.int xs0, .int xs1, .ref (ad 181)]) := by
  unfold fL_bisects_234 at h
  obtain ⟨z_1, h⟩ := g_guard h
  refine G_iast (j := xs1.toNatClampNeg) hx hb hK hY hT.2.2 gk_181 (by rw [gl_181]; exact z_1) rfl dL_bisects_234 ?_
  clear hY
  intro H locs hY
  refine lv_goto (tgt := 16) hx hb dL_bisects_235 (by decide) ?_
  exact hrec16 _ _ _ hY (lv_sub hl [0, 1, 2, 3, 4, 5, 6, 7, 8, 9, 10, 11] rfl) h
def fL_bisects_219 (N : Nat) (rec16 : gS → Option gS) (σ : gS) (x11 : Int64) (x15 : Int32) (x17 : Int32) (xs0 : Int32) (xs1 : Int32) : Option gS := if xs1 < 0 ∨ 3 ≤ xs1.toNatClampNeg then none else (if x17 = 0 then (fL_bisects_234 N rec16 (sI σ 181 xs1.toNatClampNeg xs0) x11 x15 2) else (fL_bisects_234 N rec16 (sI σ 181 xs1.toNatClampNeg xs0) x11 (-1) 2))
set_option maxRecDepth 100000 in
set_option maxHeartbeats 4000000 in
theorem wL_bisects_219 {rec16 : gS → Option gS} {σ : gS} {x11 : Int64} {x15 : Int32} {x17 : Int32} {xs0 : Int32} {xs1 : Int32} (hx : p.tables.exec = Jvm.exec) (hb : c.code = cL_bisects) (hr : meth.sig.returnType = none) (hml : c.maxLocals = 18) (hown : s.vm.findClass RL = some m.cls) (hg : ∀ w ∈ wsL_law, w.before args s = true) (hlocks : meth.locks = false) (hK : gK D y aS s) (hA : ∀ q, s.heap.size ≤ q → A q) (hL : ∀ k, k < 179 → k ∈ L) (hT : 179 ∈ L ∧ 180 ∈ L ∧ 181 ∈ L) (hrec16 : ∀ {σ9 : gS} (H : Heap) (locs : List Loc) (ls : Array Slot), gY D y A s L ad σ9 H locs → lv_has ls 18 [(0, .ref (ad 161)), (1, .ref (ad 162)), (2, .ref (ad 168)), (3, .ref (ad 170)), (4, .ref (ad 172)), (5, .ref (ad 173)), (6, .ref (ad 174)), (7, .ref (ad 175)), (8, .ref (ad 178)), (9, .ref (ad 179)), (11, .long x11), (13, .ref (ad 181))] → rec16 σ9 = some res → W p l e ({ frames := 4, cells := 0, slots := 0, locals := 103 } : Room) s m args below meth c H locs 0 0 (MQ below (va_Qv (fun (_ : Unit) => True) (fun _ => gO D A (GW L y ad res)) A) args s 0 0 A) (F0 m 16 ls [])) {H : Heap} {locs : List Loc} {ls : Array Slot} (hY : gY D y A s L ad σ H locs) (hl : lv_has ls 18 [(0, .ref (ad 161)), (1, .ref (ad 162)), (2, .ref (ad 168)), (3, .ref (ad 170)), (4, .ref (ad 172)), (5, .ref (ad 173)), (6, .ref (ad 174)), (7, .ref (ad 175)), (8, .ref (ad 178)), (9, .ref (ad 179)), (11, .long x11), (13, .ref (ad 181)), (15, .int x15), (17, .int x17)]) (h : fL_bisects_219 N rec16 σ x11 x15 x17 xs0 xs1 = some res) : W p l e ({ frames := 4, cells := 0, slots := 0, locals := 103 } : Room) s m args below meth c H locs 0 0 (MQ below (va_Qv (fun (_ : Unit) => True) (fun _ => gO D A (GW L y ad res)) A) args s 0 0 A) (F0 m 219 ls [.int xs0, .int xs1, .ref (ad 181)]) := by
  unfold fL_bisects_219 at h
  obtain ⟨z_1, h⟩ := g_guard h
  refine G_iast (j := xs1.toNatClampNeg) hx hb hK hY hT.2.2 gk_181 (by rw [gl_181]; exact z_1) rfl dL_bisects_219 ?_
  clear hY
  intro H locs hY
  refine lv_aload hx hb dL_bisects_220 (lv_at hl 11 rfl) ?_
  refine lv_iconst (v := 2) hx hb dL_bisects_222 (by decide) ?_
  refine lv_iload hx hb dL_bisects_223 (lv_at hl 13 rfl) ?_
  refine lv_if_ne (tgt := 233) hx hb dL_bisects_225 (by decide) (fun z_2 => ?_) (fun z_2 => ?_)
  ·
    rw [if_neg z_2] at h
    refine lv_iconst (v := (-1)) hx hb dL_bisects_233 (by decide) ?_
    exact wL_bisects_234 hx hb hr hml hown hg hlocks hK hA hL hT hrec16 hY (lv_sub hl [0, 1, 2, 3, 4, 5, 6, 7, 8, 9, 10, 11] rfl) h
  ·
    rw [if_pos z_2] at h
    refine lv_iload hx hb dL_bisects_228 (lv_at hl 12 rfl) ?_
    refine lv_goto (tgt := 234) hx hb dL_bisects_230 (by decide) ?_
    exact wL_bisects_234 hx hb hr hml hown hg hlocks hK hA hL hT hrec16 hY (lv_sub hl [0, 1, 2, 3, 4, 5, 6, 7, 8, 9, 10, 11] rfl) h
def fL_bisects_200 (N : Nat) (rec16 : gS → Option gS) (σ : gS) (x11 : Int64) (x15 : Int32) (x17 : Int32) (xs0 : Int32) (xs1 : Int32) : Option gS := if xs1 < 0 ∨ 3 ≤ xs1.toNatClampNeg then none else (if x17 = 2 then (fL_bisects_219 N rec16 (sI σ 181 xs1.toNatClampNeg xs0) x11 x15 x17 x15 1) else (fL_bisects_219 N rec16 (sI σ 181 xs1.toNatClampNeg xs0) x11 x15 x17 ((sI σ 181 xs1.toNatClampNeg xs0).1 181 1) 1))
set_option maxRecDepth 100000 in
set_option maxHeartbeats 4000000 in
theorem wL_bisects_200 {rec16 : gS → Option gS} {σ : gS} {x11 : Int64} {x15 : Int32} {x17 : Int32} {xs0 : Int32} {xs1 : Int32} (hx : p.tables.exec = Jvm.exec) (hb : c.code = cL_bisects) (hr : meth.sig.returnType = none) (hml : c.maxLocals = 18) (hown : s.vm.findClass RL = some m.cls) (hg : ∀ w ∈ wsL_law, w.before args s = true) (hlocks : meth.locks = false) (hK : gK D y aS s) (hA : ∀ q, s.heap.size ≤ q → A q) (hL : ∀ k, k < 179 → k ∈ L) (hT : 179 ∈ L ∧ 180 ∈ L ∧ 181 ∈ L) (hrec16 : ∀ {σ9 : gS} (H : Heap) (locs : List Loc) (ls : Array Slot), gY D y A s L ad σ9 H locs → lv_has ls 18 [(0, .ref (ad 161)), (1, .ref (ad 162)), (2, .ref (ad 168)), (3, .ref (ad 170)), (4, .ref (ad 172)), (5, .ref (ad 173)), (6, .ref (ad 174)), (7, .ref (ad 175)), (8, .ref (ad 178)), (9, .ref (ad 179)), (11, .long x11), (13, .ref (ad 181))] → rec16 σ9 = some res → W p l e ({ frames := 4, cells := 0, slots := 0, locals := 103 } : Room) s m args below meth c H locs 0 0 (MQ below (va_Qv (fun (_ : Unit) => True) (fun _ => gO D A (GW L y ad res)) A) args s 0 0 A) (F0 m 16 ls [])) {H : Heap} {locs : List Loc} {ls : Array Slot} (hY : gY D y A s L ad σ H locs) (hl : lv_has ls 18 [(0, .ref (ad 161)), (1, .ref (ad 162)), (2, .ref (ad 168)), (3, .ref (ad 170)), (4, .ref (ad 172)), (5, .ref (ad 173)), (6, .ref (ad 174)), (7, .ref (ad 175)), (8, .ref (ad 178)), (9, .ref (ad 179)), (11, .long x11), (13, .ref (ad 181)), (15, .int x15), (17, .int x17)]) (h : fL_bisects_200 N rec16 σ x11 x15 x17 xs0 xs1 = some res) : W p l e ({ frames := 4, cells := 0, slots := 0, locals := 103 } : Room) s m args below meth c H locs 0 0 (MQ below (va_Qv (fun (_ : Unit) => True) (fun _ => gO D A (GW L y ad res)) A) args s 0 0 A) (F0 m 200 ls [.int xs0, .int xs1, .ref (ad 181)]) := by
  unfold fL_bisects_200 at h
  obtain ⟨z_1, h⟩ := g_guard h
  refine G_iast (j := xs1.toNatClampNeg) hx hb hK hY hT.2.2 gk_181 (by rw [gl_181]; exact z_1) rfl dL_bisects_200 ?_
  clear hY
  intro H locs hY
  refine lv_aload hx hb dL_bisects_201 (lv_at hl 11 rfl) ?_
  refine lv_iconst (v := 1) hx hb dL_bisects_203 (by decide) ?_
  refine lv_iload hx hb dL_bisects_204 (lv_at hl 13 rfl) ?_
  refine lv_iconst (v := 2) hx hb dL_bisects_206 (by decide) ?_
  refine lv_icmp_ne (tgt := 215) hx hb dL_bisects_207 (by decide) (fun z_2 => ?_) (fun z_2 => ?_)
  ·
    rw [if_neg z_2] at h
    refine lv_aload hx hb dL_bisects_215 (lv_at hl 11 rfl) ?_
    refine lv_iconst (v := 1) hx hb dL_bisects_217 (by decide) ?_
    refine G_iald (j := 1) hx hb hK hY hT.2.2 gk_181 (by rw [gl_181]; decide +kernel) (by decide +kernel) dL_bisects_218 ?_
    exact wL_bisects_219 hx hb hr hml hown hg hlocks hK hA hL hT hrec16 hY (lv_sub hl [0, 1, 2, 3, 4, 5, 6, 7, 8, 9, 10, 11, 12, 13] rfl) h
  ·
    rw [if_pos z_2] at h
    refine lv_iload hx hb dL_bisects_210 (lv_at hl 12 rfl) ?_
    refine lv_goto (tgt := 219) hx hb dL_bisects_212 (by decide) ?_
    exact wL_bisects_219 hx hb hr hml hown hg hlocks hK hA hL hT hrec16 hY (lv_sub hl [0, 1, 2, 3, 4, 5, 6, 7, 8, 9, 10, 11, 12, 13] rfl) h
def fL_bisects_144 (N : Nat) (rec16 : gS → Option gS) (σ : gS) (x11 : Int64) (x15 : Int32) : Option gS := (fL_requiredOf N σ (0 : Int32) x15).bind fun r_1 => (fL_beginning N σ x15 x11).bind fun r_3 => (fL_verdicts N σ r_1 r_3).bind fun r_5 => if r_5 = 1 then (fL_bisects_200 N rec16 σ x11 x15 r_5 x15 0) else (fL_bisects_200 N rec16 σ x11 x15 r_5 (σ.1 181 0) 0)
set_option maxRecDepth 100000 in
set_option maxHeartbeats 4000000 in
theorem wL_bisects_144 {rec16 : gS → Option gS} {σ : gS} {x11 : Int64} {x15 : Int32} (hx : p.tables.exec = Jvm.exec) (hb : c.code = cL_bisects) (hr : meth.sig.returnType = none) (hml : c.maxLocals = 18) (hown : s.vm.findClass RL = some m.cls) (hg : ∀ w ∈ wsL_law, w.before args s = true) (hlocks : meth.locks = false) (hK : gK D y aS s) (hA : ∀ q, s.heap.size ≤ q → A q) (hL : ∀ k, k < 179 → k ∈ L) (hT : 179 ∈ L ∧ 180 ∈ L ∧ 181 ∈ L) (hrec16 : ∀ {σ9 : gS} (H : Heap) (locs : List Loc) (ls : Array Slot), gY D y A s L ad σ9 H locs → lv_has ls 18 [(0, .ref (ad 161)), (1, .ref (ad 162)), (2, .ref (ad 168)), (3, .ref (ad 170)), (4, .ref (ad 172)), (5, .ref (ad 173)), (6, .ref (ad 174)), (7, .ref (ad 175)), (8, .ref (ad 178)), (9, .ref (ad 179)), (11, .long x11), (13, .ref (ad 181))] → rec16 σ9 = some res → W p l e ({ frames := 4, cells := 0, slots := 0, locals := 103 } : Room) s m args below meth c H locs 0 0 (MQ below (va_Qv (fun (_ : Unit) => True) (fun _ => gO D A (GW L y ad res)) A) args s 0 0 A) (F0 m 16 ls [])) {H : Heap} {locs : List Loc} {ls : Array Slot} (hY : gY D y A s L ad σ H locs) (hl : lv_has ls 18 [(0, .ref (ad 161)), (1, .ref (ad 162)), (2, .ref (ad 168)), (3, .ref (ad 170)), (4, .ref (ad 172)), (5, .ref (ad 173)), (6, .ref (ad 174)), (7, .ref (ad 175)), (8, .ref (ad 178)), (9, .ref (ad 179)), (11, .long x11), (13, .ref (ad 181)), (15, .int x15)]) (h : fL_bisects_144 N rec16 σ x11 x15 = some res) : W p l e ({ frames := 4, cells := 0, slots := 0, locals := 103 } : Room) s m args below meth c H locs 0 0 (MQ below (va_Qv (fun (_ : Unit) => True) (fun _ => gO D A (GW L y ad res)) A) args s 0 0 A) (F0 m 144 ls []) := by
  unfold fL_bisects_144 at h
  refine lv_aload_n hx hb dL_bisects_144 rfl (lv_at hl 0 rfl) ?_
  refine lv_aload hx hb dL_bisects_145 (lv_at hl 4 rfl) ?_
  refine lv_aload hx hb dL_bisects_147 (lv_at hl 6 rfl) ?_
  refine lv_aload hx hb dL_bisects_149 (lv_at hl 7 rfl) ?_
  refine lv_aload_n hx hb dL_bisects_151 rfl (lv_at hl 0 rfl) ?_
  refine lv_aload_n hx hb dL_bisects_152 rfl (lv_at hl 1 rfl) ?_
  refine lv_aload_n hx hb dL_bisects_153 rfl (lv_at hl 2 rfl) ?_
  refine lv_aload hx hb dL_bisects_154 (lv_at hl 4 rfl) ?_
  refine lv_aload hx hb dL_bisects_156 (lv_at hl 5 rfl) ?_
  refine lv_aload hx hb dL_bisects_158 (lv_at hl 9 rfl) ?_
  refine lv_iconst (v := 0) hx hb dL_bisects_160 (by decide) ?_
  refine lv_iload hx hb dL_bisects_161 (lv_at hl 12 rfl) ?_
  obtain ⟨r_1, e_2, h⟩ := g_bind h
  refine G_ai hY hA (va_runS (As := [.ref (ad 161), .ref (ad 162), .ref (ad 168), .ref (ad 172), .ref (ad 173), .ref (ad 179), .int 0, .int x15]) (rest := [.ref (ad 175), .ref (ad 174), .ref (ad 172), .ref (ad 161)]) ⟨hx, hb, hml, hown, hg⟩ (kL_requiredOf l D y aS H.size L hL hT ad N σ (0 : Int32) x15 _ e_2) (va_cwS 8 hg ggS_RL_56_L_requiredOf rfl rfl rfl (by decide +kernel) ⟨Nat.le_of_ble_eq_true rfl, Nat.le_of_ble_eq_true rfl⟩) (G_pS hK hY) rfl rfl hl.1 rfl (lv_room (Nat.le_of_ble_eq_true rfl)) dL_bisects_163 ⟨Nat.le_of_ble_eq_true rfl, Nat.le_of_ble_eq_true rfl⟩) ?_
  clear hY
  rintro _ H locs rfl hY
  refine lv_aload_n hx hb dL_bisects_166 rfl (lv_at hl 2 rfl) ?_
  refine lv_aload_n hx hb dL_bisects_167 rfl (lv_at hl 3 rfl) ?_
  refine lv_aload hx hb dL_bisects_168 (lv_at hl 9 rfl) ?_
  refine lv_iload hx hb dL_bisects_170 (lv_at hl 12 rfl) ?_
  refine lv_lload hx hb dL_bisects_172 (lv_at hl 10 rfl) ?_
  obtain ⟨r_3, e_4, h⟩ := g_bind h
  refine G_al hY hA (va_runS (As := [.ref (ad 168), .ref (ad 170), .ref (ad 179), .int x15, .long x11]) (rest := [.int r_1, .ref (ad 175), .ref (ad 174), .ref (ad 172), .ref (ad 161)]) ⟨hx, hb, hml, hown, hg⟩ (kL_beginning l D y aS H.size L hL hT ad N σ x15 x11 _ e_4) (va_cwS 5 hg ggS_RL_60_L_beginning rfl rfl rfl (by decide +kernel) ⟨Nat.le_of_ble_eq_true rfl, Nat.le_of_ble_eq_true rfl⟩) (G_pS hK hY) rfl rfl hl.1 rfl (lv_room (Nat.le_of_ble_eq_true rfl)) dL_bisects_174 ⟨Nat.le_of_ble_eq_true rfl, Nat.le_of_ble_eq_true rfl⟩) ?_
  clear hY
  rintro _ H locs rfl hY
  obtain ⟨r_5, e_6, h⟩ := g_bind h
  refine G_ai hY hA (va_runS (As := [.ref (ad 161), .ref (ad 172), .ref (ad 174), .ref (ad 175), .int r_1, .long r_3]) (rest := []) ⟨hx, hb, hml, hown, hg⟩ (kL_verdicts l D y aS H.size L hL ad N σ r_1 r_3 _ e_6) (va_cwS 6 hg ggS_RL_64_L_verdicts rfl rfl rfl (by decide +kernel) ⟨Nat.le_of_ble_eq_true rfl, Nat.le_of_ble_eq_true rfl⟩) (G_pS hK hY) rfl rfl hl.1 rfl (lv_room (Nat.le_of_ble_eq_true rfl)) dL_bisects_177 ⟨Nat.le_of_ble_eq_true rfl, Nat.le_of_ble_eq_true rfl⟩) ?_
  clear hY
  rintro _ H locs rfl hY
  refine lv_istore (lv' := [(17, .int r_5), (0, .ref (ad 161)), (1, .ref (ad 162)), (2, .ref (ad 168)), (3, .ref (ad 170)), (4, .ref (ad 172)), (5, .ref (ad 173)), (6, .ref (ad 174)), (7, .ref (ad 175)), (8, .ref (ad 178)), (9, .ref (ad 179)), (11, .long x11), (13, .ref (ad 181)), (15, .int x15)]) hx hb dL_bisects_180 hl (by decide) rfl ?_
  clear hl
  intro ls hl
  refine lv_aload hx hb dL_bisects_182 (lv_at hl 12 rfl) ?_
  refine lv_iconst (v := 0) hx hb dL_bisects_184 (by decide) ?_
  refine lv_iload hx hb dL_bisects_185 (lv_at hl 0 rfl) ?_
  refine lv_iconst (v := 1) hx hb dL_bisects_187 (by decide) ?_
  refine lv_icmp_ne (tgt := 196) hx hb dL_bisects_188 (by decide) (fun z_7 => ?_) (fun z_7 => ?_)
  ·
    rw [if_neg z_7] at h
    refine lv_aload hx hb dL_bisects_196 (lv_at hl 12 rfl) ?_
    refine lv_iconst (v := 0) hx hb dL_bisects_198 (by decide) ?_
    refine G_iald (j := 0) hx hb hK hY hT.2.2 gk_181 (by rw [gl_181]; decide +kernel) (by decide +kernel) dL_bisects_199 ?_
    exact wL_bisects_200 hx hb hr hml hown hg hlocks hK hA hL hT hrec16 hY (lv_sub hl [1, 2, 3, 4, 5, 6, 7, 8, 9, 10, 11, 12, 13, 0] rfl) h
  ·
    rw [if_pos z_7] at h
    refine lv_iload hx hb dL_bisects_191 (lv_at hl 13 rfl) ?_
    refine lv_goto (tgt := 200) hx hb dL_bisects_193 (by decide) ?_
    exact wL_bisects_200 hx hb hr hml hown hg hlocks hK hA hL hT hrec16 hY (lv_sub hl [1, 2, 3, 4, 5, 6, 7, 8, 9, 10, 11, 12, 13, 0] rfl) h
def fL_bisects_89 (N : Nat) (rec16 : gS → Option gS) (x11 : Int64) (x14 : Int32) (rec89 : (gS × Int32 × Int32) → Option gS) (xx : gS × Int32 × Int32) : Option gS := match xx with
  | (σ, x15, x16) => if x15 = (σ.1 181 0) then (fL_bisects_118 N rec16 rec89 σ x11 x14 x15 x16) else (if ((σ.1 181 1) - 1) ≤ x15 then (fL_bisects_144 N rec16 σ x11 x15) else (if x14 ≤ (2 * x16) then (fL_bisects_144 N rec16 σ x11 x15) else (fL_bisects_118 N rec16 rec89 σ x11 x14 x15 x16)))
set_option maxRecDepth 100000 in
set_option maxHeartbeats 4000000 in
theorem wL_bisects_89 {rec16 : gS → Option gS} {x11 : Int64} {x14 : Int32} (hx : p.tables.exec = Jvm.exec) (hb : c.code = cL_bisects) (hr : meth.sig.returnType = none) (hml : c.maxLocals = 18) (hown : s.vm.findClass RL = some m.cls) (hg : ∀ w ∈ wsL_law, w.before args s = true) (hlocks : meth.locks = false) (hK : gK D y aS s) (hA : ∀ q, s.heap.size ≤ q → A q) (hL : ∀ k, k < 179 → k ∈ L) (hT : 179 ∈ L ∧ 180 ∈ L ∧ 181 ∈ L) (hrec16 : ∀ {σ9 : gS} (H : Heap) (locs : List Loc) (ls : Array Slot), gY D y A s L ad σ9 H locs → lv_has ls 18 [(0, .ref (ad 161)), (1, .ref (ad 162)), (2, .ref (ad 168)), (3, .ref (ad 170)), (4, .ref (ad 172)), (5, .ref (ad 173)), (6, .ref (ad 174)), (7, .ref (ad 175)), (8, .ref (ad 178)), (9, .ref (ad 179)), (11, .long x11), (13, .ref (ad 181))] → rec16 σ9 = some res → W p l e ({ frames := 4, cells := 0, slots := 0, locals := 103 } : Room) s m args below meth c H locs 0 0 (MQ below (va_Qv (fun (_ : Unit) => True) (fun _ => gO D A (GW L y ad res)) A) args s 0 0 A) (F0 m 16 ls [])) : ∀ (n : Nat) {σ : gS} {x15 : Int32} {x16 : Int32} (H : Heap) (locs : List Loc) (ls : Array Slot), gY D y A s L ad σ H locs → lv_has ls 18 [(0, .ref (ad 161)), (1, .ref (ad 162)), (2, .ref (ad 168)), (3, .ref (ad 170)), (4, .ref (ad 172)), (5, .ref (ad 173)), (6, .ref (ad 174)), (7, .ref (ad 175)), (8, .ref (ad 178)), (9, .ref (ad 179)), (11, .long x11), (13, .ref (ad 181)), (14, .int x14), (15, .int x15), (16, .int x16)] → lp (fL_bisects_89 N rec16 x11 x14) n (σ, x15, x16) = some res → W p l e ({ frames := 4, cells := 0, slots := 0, locals := 103 } : Room) s m args below meth c H locs 0 0 (MQ below (va_Qv (fun (_ : Unit) => True) (fun _ => gO D A (GW L y ad res)) A) args s 0 0 A) (F0 m 89 ls []) := by
  intro n
  induction n with
  | zero => intro σ x15 x16 H locs ls hY hl h; exact nomatch (show none = some res from h)
  | succ n hrec89 =>
    intro σ x15 x16 H locs ls hY hl h
    replace h : fL_bisects_89 N rec16 x11 x14 (lp (fL_bisects_89 N rec16 x11 x14) n) (σ, x15, x16) = some res := h
    generalize lp (fL_bisects_89 N rec16 x11 x14) n = rec89 at h hrec89
    unfold fL_bisects_89 at h
    try dsimp only at h
    refine lv_iload hx hb dL_bisects_89 (lv_at hl 13 rfl) ?_
    refine lv_aload hx hb dL_bisects_91 (lv_at hl 11 rfl) ?_
    refine lv_iconst (v := 0) hx hb dL_bisects_93 (by decide) ?_
    refine G_iald (j := 0) hx hb hK hY hT.2.2 gk_181 (by rw [gl_181]; decide +kernel) (by decide +kernel) dL_bisects_94 ?_
    refine lv_icmp_eq (tgt := 118) hx hb dL_bisects_95 (by decide) (fun z_1 => ?_) (fun z_1 => ?_)
    ·
      rw [if_pos z_1] at h
      exact wL_bisects_118 hx hb hr hml hown hg hlocks hK hA hL hT hrec16 hrec89 hY (lv_sub hl [0, 1, 2, 3, 4, 5, 6, 7, 8, 9, 10, 11, 12, 13, 14] rfl) h
    ·
      rw [if_neg z_1] at h
      refine lv_iload hx hb dL_bisects_98 (lv_at hl 13 rfl) ?_
      refine lv_aload hx hb dL_bisects_100 (lv_at hl 11 rfl) ?_
      refine lv_iconst (v := 1) hx hb dL_bisects_102 (by decide) ?_
      refine G_iald (j := 1) hx hb hK hY hT.2.2 gk_181 (by rw [gl_181]; decide +kernel) (by decide +kernel) dL_bisects_103 ?_
      refine lv_iconst (v := 1) hx hb dL_bisects_104 (by decide) ?_
      refine lv_isub hx hb dL_bisects_105 ?_
      refine lv_icmp_ge (tgt := 144) hx hb dL_bisects_106 (by decide) (fun z_2 => ?_) (fun z_2 => ?_)
      ·
        rw [if_pos z_2] at h
        exact wL_bisects_144 hx hb hr hml hown hg hlocks hK hA hL hT hrec16 hY (lv_sub hl [0, 1, 2, 3, 4, 5, 6, 7, 8, 9, 10, 11, 13] rfl) h
      ·
        rw [if_neg z_2] at h
        refine lv_iconst (v := 2) hx hb dL_bisects_109 (by decide) ?_
        refine lv_iload hx hb dL_bisects_110 (lv_at hl 14 rfl) ?_
        refine lv_imul hx hb dL_bisects_112 ?_
        refine lv_iload hx hb dL_bisects_113 (lv_at hl 12 rfl) ?_
        refine lv_icmp_ge (tgt := 144) hx hb dL_bisects_115 (by decide) (fun z_3 => ?_) (fun z_3 => ?_)
        ·
          rw [if_pos z_3] at h
          exact wL_bisects_144 hx hb hr hml hown hg hlocks hK hA hL hT hrec16 hY (lv_sub hl [0, 1, 2, 3, 4, 5, 6, 7, 8, 9, 10, 11, 13] rfl) h
        ·
          rw [if_neg z_3] at h
          exact wL_bisects_118 hx hb hr hml hown hg hlocks hK hA hL hT hrec16 hrec89 hY (lv_sub hl [0, 1, 2, 3, 4, 5, 6, 7, 8, 9, 10, 11, 12, 13, 14] rfl) h
def fL_bisects_45 (N : Nat) (rec16 : gS → Option gS) (x11 : Int64) (rec45 : (gS × Int32 × Int32) → Option gS) (xx : gS × Int32 × Int32) : Option gS := match xx with
  | (σ, x14, x15) => if (σ.1 181 1) ≤ x15 then (lp (fL_bisects_89 N rec16 x11 x14) N (σ, (σ.1 181 0), 0)) else (if x15 < 0 ∨ 32 ≤ x15.toNatClampNeg then none else (if (σ.1 179 x15.toNatClampNeg) < 0 ∨ 24 ≤ (σ.1 179 x15.toNatClampNeg).toNatClampNeg then none else (if (6 + (σ.1 162 ((σ.1 179 x15.toNatClampNeg).toNatClampNeg))) < 0 ∨ 14 ≤ (6 + (σ.1 162 ((σ.1 179 x15.toNatClampNeg).toNatClampNeg))).toNatClampNeg then none else (rec45 (σ, (x14 + (1 + (σ.1 178 ((6 + (σ.1 162 ((σ.1 179 x15.toNatClampNeg).toNatClampNeg))).toNatClampNeg)))), (x15 + 1))))))
set_option maxRecDepth 100000 in
set_option maxHeartbeats 4000000 in
theorem wL_bisects_45 {rec16 : gS → Option gS} {x11 : Int64} (hx : p.tables.exec = Jvm.exec) (hb : c.code = cL_bisects) (hr : meth.sig.returnType = none) (hml : c.maxLocals = 18) (hown : s.vm.findClass RL = some m.cls) (hg : ∀ w ∈ wsL_law, w.before args s = true) (hlocks : meth.locks = false) (hK : gK D y aS s) (hA : ∀ q, s.heap.size ≤ q → A q) (hL : ∀ k, k < 179 → k ∈ L) (hT : 179 ∈ L ∧ 180 ∈ L ∧ 181 ∈ L) (hrec16 : ∀ {σ9 : gS} (H : Heap) (locs : List Loc) (ls : Array Slot), gY D y A s L ad σ9 H locs → lv_has ls 18 [(0, .ref (ad 161)), (1, .ref (ad 162)), (2, .ref (ad 168)), (3, .ref (ad 170)), (4, .ref (ad 172)), (5, .ref (ad 173)), (6, .ref (ad 174)), (7, .ref (ad 175)), (8, .ref (ad 178)), (9, .ref (ad 179)), (11, .long x11), (13, .ref (ad 181))] → rec16 σ9 = some res → W p l e ({ frames := 4, cells := 0, slots := 0, locals := 103 } : Room) s m args below meth c H locs 0 0 (MQ below (va_Qv (fun (_ : Unit) => True) (fun _ => gO D A (GW L y ad res)) A) args s 0 0 A) (F0 m 16 ls [])) : ∀ (n : Nat) {σ : gS} {x14 : Int32} {x15 : Int32} (H : Heap) (locs : List Loc) (ls : Array Slot), gY D y A s L ad σ H locs → lv_has ls 18 [(0, .ref (ad 161)), (1, .ref (ad 162)), (2, .ref (ad 168)), (3, .ref (ad 170)), (4, .ref (ad 172)), (5, .ref (ad 173)), (6, .ref (ad 174)), (7, .ref (ad 175)), (8, .ref (ad 178)), (9, .ref (ad 179)), (11, .long x11), (13, .ref (ad 181)), (14, .int x14), (15, .int x15)] → lp (fL_bisects_45 N rec16 x11) n (σ, x14, x15) = some res → W p l e ({ frames := 4, cells := 0, slots := 0, locals := 103 } : Room) s m args below meth c H locs 0 0 (MQ below (va_Qv (fun (_ : Unit) => True) (fun _ => gO D A (GW L y ad res)) A) args s 0 0 A) (F0 m 45 ls []) := by
  intro n
  induction n with
  | zero => intro σ x14 x15 H locs ls hY hl h; exact nomatch (show none = some res from h)
  | succ n hrec45 =>
    intro σ x14 x15 H locs ls hY hl h
    replace h : fL_bisects_45 N rec16 x11 (lp (fL_bisects_45 N rec16 x11) n) (σ, x14, x15) = some res := h
    generalize lp (fL_bisects_45 N rec16 x11) n = rec45 at h hrec45
    unfold fL_bisects_45 at h
    try dsimp only at h
    refine lv_iload hx hb dL_bisects_45 (lv_at hl 13 rfl) ?_
    refine lv_aload hx hb dL_bisects_47 (lv_at hl 11 rfl) ?_
    refine lv_iconst (v := 1) hx hb dL_bisects_49 (by decide) ?_
    refine G_iald (j := 1) hx hb hK hY hT.2.2 gk_181 (by rw [gl_181]; decide +kernel) (by decide +kernel) dL_bisects_50 ?_
    refine lv_icmp_ge (tgt := 80) hx hb dL_bisects_51 (by decide) (fun z_1 => ?_) (fun z_1 => ?_)
    ·
      rw [if_pos z_1] at h
      refine lv_aload hx hb dL_bisects_80 (lv_at hl 11 rfl) ?_
      refine lv_iconst (v := 0) hx hb dL_bisects_82 (by decide) ?_
      refine G_iald (j := 0) hx hb hK hY hT.2.2 gk_181 (by rw [gl_181]; decide +kernel) (by decide +kernel) dL_bisects_83 ?_
      refine lv_istore (lv' := [(15, .int (σ.1 181 0)), (0, .ref (ad 161)), (1, .ref (ad 162)), (2, .ref (ad 168)), (3, .ref (ad 170)), (4, .ref (ad 172)), (5, .ref (ad 173)), (6, .ref (ad 174)), (7, .ref (ad 175)), (8, .ref (ad 178)), (9, .ref (ad 179)), (11, .long x11), (13, .ref (ad 181)), (14, .int x14)]) hx hb dL_bisects_84 hl (by decide) rfl ?_
      clear hl
      intro ls hl
      refine lv_iconst (v := 0) hx hb dL_bisects_86 (by decide) ?_
      refine lv_istore (lv' := [(16, .int 0), (15, .int (σ.1 181 0)), (0, .ref (ad 161)), (1, .ref (ad 162)), (2, .ref (ad 168)), (3, .ref (ad 170)), (4, .ref (ad 172)), (5, .ref (ad 173)), (6, .ref (ad 174)), (7, .ref (ad 175)), (8, .ref (ad 178)), (9, .ref (ad 179)), (11, .long x11), (13, .ref (ad 181)), (14, .int x14)]) hx hb dL_bisects_87 hl (by decide) rfl ?_
      clear hl
      intro ls hl
      exact wL_bisects_89 hx hb hr hml hown hg hlocks hK hA hL hT hrec16 N _ _ _ hY (lv_sub hl [2, 3, 4, 5, 6, 7, 8, 9, 10, 11, 12, 13, 14, 1, 0] rfl) h
    ·
      rw [if_neg z_1] at h
      refine lv_iload hx hb dL_bisects_54 (lv_at hl 12 rfl) ?_
      refine lv_iconst (v := 1) hx hb dL_bisects_56 (by decide) ?_
      refine lv_aload hx hb dL_bisects_57 (lv_at hl 8 rfl) ?_
      refine lv_bipush (v := 6) hx hb dL_bisects_59 (by decide +kernel) ?_
      refine lv_aload_n hx hb dL_bisects_61 rfl (lv_at hl 1 rfl) ?_
      refine lv_aload hx hb dL_bisects_62 (lv_at hl 9 rfl) ?_
      refine lv_iload hx hb dL_bisects_64 (lv_at hl 13 rfl) ?_
      obtain ⟨z_2, h⟩ := g_guard h
      refine G_iald (j := x15.toNatClampNeg) hx hb hK hY hT.1 gk_179 (by rw [gl_179]; exact z_2) rfl dL_bisects_66 ?_
      obtain ⟨z_3, h⟩ := g_guard h
      refine G_iald (j := (σ.1 179 x15.toNatClampNeg).toNatClampNeg) hx hb hK hY (hL 162 (by decide)) gk_162 (by rw [gl_162]; exact z_3) rfl dL_bisects_67 ?_
      refine lv_iadd hx hb dL_bisects_68 ?_
      obtain ⟨z_4, h⟩ := g_guard h
      refine G_iald (j := (6 + (σ.1 162 ((σ.1 179 x15.toNatClampNeg).toNatClampNeg))).toNatClampNeg) hx hb hK hY (hL 178 (by decide)) gk_178 (by rw [gl_178]; exact z_4) rfl dL_bisects_69 ?_
      refine lv_iadd hx hb dL_bisects_70 ?_
      refine lv_iadd hx hb dL_bisects_71 ?_
      refine lv_istore (lv' := [(14, .int (x14 + (1 + (σ.1 178 ((6 + (σ.1 162 ((σ.1 179 x15.toNatClampNeg).toNatClampNeg))).toNatClampNeg))))), (0, .ref (ad 161)), (1, .ref (ad 162)), (2, .ref (ad 168)), (3, .ref (ad 170)), (4, .ref (ad 172)), (5, .ref (ad 173)), (6, .ref (ad 174)), (7, .ref (ad 175)), (8, .ref (ad 178)), (9, .ref (ad 179)), (11, .long x11), (13, .ref (ad 181)), (15, .int x15)]) hx hb dL_bisects_72 hl (by decide) rfl ?_
      clear hl
      intro ls hl
      refine lv_iinc (v := (x15 + 1)) (lv' := [(15, .int (x15 + 1)), (14, .int (x14 + (1 + (σ.1 178 ((6 + (σ.1 162 ((σ.1 179 x15.toNatClampNeg).toNatClampNeg))).toNatClampNeg))))), (0, .ref (ad 161)), (1, .ref (ad 162)), (2, .ref (ad 168)), (3, .ref (ad 170)), (4, .ref (ad 172)), (5, .ref (ad 173)), (6, .ref (ad 174)), (7, .ref (ad 175)), (8, .ref (ad 178)), (9, .ref (ad 179)), (11, .long x11), (13, .ref (ad 181))]) hx hb dL_bisects_74 hl (k := 13) rfl rfl (by decide) rfl ?_
      clear hl
      intro ls hl
      refine lv_goto (tgt := 45) hx hb dL_bisects_77 (by decide) ?_
      exact hrec45 _ _ _ hY (lv_sub hl [2, 3, 4, 5, 6, 7, 8, 9, 10, 11, 12, 13, 1, 0] rfl) h
def fL_bisects_16 (N : Nat) (x11 : Int64) (rec16 : gS → Option gS) (σ : gS) : Option gS := if ((σ.1 181 1) - (σ.1 181 0)) ≤ 1 then (fL_bisects_238 N σ) else (if 0 ≤ (σ.1 181 2) then (fL_bisects_238 N σ) else (lp (fL_bisects_45 N rec16 x11) N (σ, 0, (σ.1 181 0))))
set_option maxRecDepth 100000 in
set_option maxHeartbeats 4000000 in
theorem wL_bisects_16 {x11 : Int64} (hx : p.tables.exec = Jvm.exec) (hb : c.code = cL_bisects) (hr : meth.sig.returnType = none) (hml : c.maxLocals = 18) (hown : s.vm.findClass RL = some m.cls) (hg : ∀ w ∈ wsL_law, w.before args s = true) (hlocks : meth.locks = false) (hK : gK D y aS s) (hA : ∀ q, s.heap.size ≤ q → A q) (hL : ∀ k, k < 179 → k ∈ L) (hT : 179 ∈ L ∧ 180 ∈ L ∧ 181 ∈ L) : ∀ (n : Nat) {σ : gS} (H : Heap) (locs : List Loc) (ls : Array Slot), gY D y A s L ad σ H locs → lv_has ls 18 [(0, .ref (ad 161)), (1, .ref (ad 162)), (2, .ref (ad 168)), (3, .ref (ad 170)), (4, .ref (ad 172)), (5, .ref (ad 173)), (6, .ref (ad 174)), (7, .ref (ad 175)), (8, .ref (ad 178)), (9, .ref (ad 179)), (11, .long x11), (13, .ref (ad 181))] → lp (fL_bisects_16 N x11) n σ = some res → W p l e ({ frames := 4, cells := 0, slots := 0, locals := 103 } : Room) s m args below meth c H locs 0 0 (MQ below (va_Qv (fun (_ : Unit) => True) (fun _ => gO D A (GW L y ad res)) A) args s 0 0 A) (F0 m 16 ls []) := by
  intro n
  induction n with
  | zero => intro σ H locs ls hY hl h; exact nomatch (show none = some res from h)
  | succ n hrec16 =>
    intro σ H locs ls hY hl h
    replace h : fL_bisects_16 N x11 (lp (fL_bisects_16 N x11) n) σ = some res := h
    generalize lp (fL_bisects_16 N x11) n = rec16 at h hrec16
    unfold fL_bisects_16 at h
    try dsimp only at h
    refine lv_aload hx hb dL_bisects_16 (lv_at hl 11 rfl) ?_
    refine lv_iconst (v := 1) hx hb dL_bisects_18 (by decide) ?_
    refine G_iald (j := 1) hx hb hK hY hT.2.2 gk_181 (by rw [gl_181]; decide +kernel) (by decide +kernel) dL_bisects_19 ?_
    refine lv_aload hx hb dL_bisects_20 (lv_at hl 11 rfl) ?_
    refine lv_iconst (v := 0) hx hb dL_bisects_22 (by decide) ?_
    refine G_iald (j := 0) hx hb hK hY hT.2.2 gk_181 (by rw [gl_181]; decide +kernel) (by decide +kernel) dL_bisects_23 ?_
    refine lv_isub hx hb dL_bisects_24 ?_
    refine lv_iconst (v := 1) hx hb dL_bisects_25 (by decide) ?_
    refine lv_icmp_le (tgt := 238) hx hb dL_bisects_26 (by decide) (fun z_1 => ?_) (fun z_1 => ?_)
    ·
      rw [if_pos z_1] at h
      exact wL_bisects_238 hx hb hr hml hown hg hlocks hK hA hL hT hY (lv_sub hl [] rfl) h
    ·
      rw [if_neg z_1] at h
      refine lv_aload hx hb dL_bisects_29 (lv_at hl 11 rfl) ?_
      refine lv_iconst (v := 2) hx hb dL_bisects_31 (by decide) ?_
      refine G_iald (j := 2) hx hb hK hY hT.2.2 gk_181 (by rw [gl_181]; decide +kernel) (by decide +kernel) dL_bisects_32 ?_
      refine lv_if_ge (tgt := 238) hx hb dL_bisects_33 (by decide) (fun z_2 => ?_) (fun z_2 => ?_)
      ·
        rw [if_pos z_2] at h
        exact wL_bisects_238 hx hb hr hml hown hg hlocks hK hA hL hT hY (lv_sub hl [] rfl) h
      ·
        rw [if_neg z_2] at h
        refine lv_iconst (v := 0) hx hb dL_bisects_36 (by decide) ?_
        refine lv_istore (lv' := [(14, .int 0), (0, .ref (ad 161)), (1, .ref (ad 162)), (2, .ref (ad 168)), (3, .ref (ad 170)), (4, .ref (ad 172)), (5, .ref (ad 173)), (6, .ref (ad 174)), (7, .ref (ad 175)), (8, .ref (ad 178)), (9, .ref (ad 179)), (11, .long x11), (13, .ref (ad 181))]) hx hb dL_bisects_37 hl (by decide) rfl ?_
        clear hl
        intro ls hl
        refine lv_aload hx hb dL_bisects_39 (lv_at hl 12 rfl) ?_
        refine lv_iconst (v := 0) hx hb dL_bisects_41 (by decide) ?_
        refine G_iald (j := 0) hx hb hK hY hT.2.2 gk_181 (by rw [gl_181]; decide +kernel) (by decide +kernel) dL_bisects_42 ?_
        refine lv_istore (lv' := [(15, .int (σ.1 181 0)), (14, .int 0), (0, .ref (ad 161)), (1, .ref (ad 162)), (2, .ref (ad 168)), (3, .ref (ad 170)), (4, .ref (ad 172)), (5, .ref (ad 173)), (6, .ref (ad 174)), (7, .ref (ad 175)), (8, .ref (ad 178)), (9, .ref (ad 179)), (11, .long x11), (13, .ref (ad 181))]) hx hb dL_bisects_43 hl (by decide) rfl ?_
        clear hl
        intro ls hl
        exact wL_bisects_45 hx hb hr hml hown hg hlocks hK hA hL hT hrec16 N _ _ _ hY (lv_sub hl [2, 3, 4, 5, 6, 7, 8, 9, 10, 11, 12, 13, 1, 0] rfl) h
end
def fL_bisects (N : Nat) (σ : gS) (x10 : Int32) (x11 : Int64) : Option gS := lp (fL_bisects_16 N x11) N (sI (sI (sI σ 181 0 0) 181 1 x10) 181 2 (-1))
set_option maxRecDepth 100000 in
set_option maxHeartbeats 4000000 in
theorem kL_bisects (l : Launch) (D : va_G) (y : Nat → ClassId) (aS : Nat → Nat) (sz : Nat) (L : List Nat) (hL : ∀ k, k < 179 → k ∈ L) (hT : 179 ∈ L ∧ 180 ∈ L ∧ 181 ∈ L) (ad : Nat → Nat) (N : Nat) (σ : gS) (x10 : Int32) (x11 : Int64) (res : gS) (h : fL_bisects N σ x10 x11 = some res) : Met l yL_bisects (Cond.code yL_bisects cL_bisects 18 none :: wsL_law) ({ frames := 4, cells := 0, slots := 0, locals := 103 } : Room) (va_Pc [.ref (ad 161), .ref (ad 162), .ref (ad 168), .ref (ad 170), .ref (ad 172), .ref (ad 173), .ref (ad 174), .ref (ad 175), .ref (ad 178), .ref (ad 179), .int x10, .long x11, .ref (ad 181)] (gI D y aS (GW L y ad σ) sz)) (va_Qv (fun (_ : Unit) => True) (fun _ => gO D (va_A (GW L y ad σ) sz) (GW L y ad res)) (va_A (GW L y ad σ) sz)) 0 0 (va_A (GW L y ad σ) sz) := by
  refine g_of (by decide) (Nat.le_of_ble_eq_true rfl) ?_
  intro p e s m below meth c ls A hx hb hr hml hown hg hlocks hin hsz hK hP hD hS hA hAe hl
  rw [← hAe]
  replace hown : s.vm.findClass RL = some m.cls := hown
  have hY : gY D y A s L ad σ s.heap [] := ⟨hP, hD, hS⟩
  clear hP hD hS
  replace hl : lv_has ls 18 [(0, .ref (ad 161)), (1, .ref (ad 162)), (2, .ref (ad 168)), (3, .ref (ad 170)), (4, .ref (ad 172)), (5, .ref (ad 173)), (6, .ref (ad 174)), (7, .ref (ad 175)), (8, .ref (ad 178)), (9, .ref (ad 179)), (10, .int x10), (11, .long x11), (13, .ref (ad 181))] := hl
  unfold fL_bisects at h
  refine lv_aload hx hb dL_bisects_0 (lv_at hl 12 rfl) ?_
  refine lv_iconst (v := 0) hx hb dL_bisects_2 (by decide) ?_
  refine lv_iconst (v := 0) hx hb dL_bisects_3 (by decide) ?_
  refine G_iast (j := 0) hx hb hK hY hT.2.2 gk_181 (by rw [gl_181]; decide +kernel) (by decide +kernel) dL_bisects_4 ?_
  clear hY
  intro H locs hY
  refine lv_aload hx hb dL_bisects_5 (lv_at hl 12 rfl) ?_
  refine lv_iconst (v := 1) hx hb dL_bisects_7 (by decide) ?_
  refine lv_iload hx hb dL_bisects_8 (lv_at hl 10 rfl) ?_
  refine G_iast (j := 1) hx hb hK hY hT.2.2 gk_181 (by rw [gl_181]; decide +kernel) (by decide +kernel) dL_bisects_10 ?_
  clear hY
  intro H locs hY
  refine lv_aload hx hb dL_bisects_11 (lv_at hl 12 rfl) ?_
  refine lv_iconst (v := 2) hx hb dL_bisects_13 (by decide) ?_
  refine lv_iconst (v := (-1)) hx hb dL_bisects_14 (by decide) ?_
  refine G_iast (j := 2) hx hb hK hY hT.2.2 gk_181 (by rw [gl_181]; decide +kernel) (by decide +kernel) dL_bisects_15 ?_
  clear hY
  intro H locs hY
  exact wL_bisects_16 hx hb hr hml hown hg hlocks hK hA hL hT N _ _ _ hY (lv_sub hl [0, 1, 2, 3, 4, 5, 6, 7, 8, 9, 11, 12] rfl) h
section
variable {p : Program} {l : Launch} {e : Env} {s : State} {m : MethodId} {args : Array Value} {below : List Frame} {meth : Method} {c : Code} {D : va_G} {y : Nat → ClassId} {aS : Nat → Nat} {A : Nat → Prop} {L : List Nat} {ad : Nat → Nat} {N : Nat} {res : Int32}
def fL_failed_131 (N : Nat) (rec25 : (Int32 × Int32) → Option Int32) (σ : gS) (x9 : Int64) (x12 : Int32) (x13 : Int32) (x15 : Int32) (xs0 : Int32) (xs1 : Int32) : Option Int32 := rec25 ((xs1 ||| xs0), (x15 + 1))
set_option maxRecDepth 100000 in
set_option maxHeartbeats 4000000 in
theorem wL_failed_131 {rec25 : (Int32 × Int32) → Option Int32} {σ : gS} {x9 : Int64} {x12 : Int32} {x13 : Int32} {x15 : Int32} {xs0 : Int32} {xs1 : Int32} (hx : p.tables.exec = Jvm.exec) (hb : c.code = cL_failed) (hr : meth.sig.returnType = (some .int)) (hml : c.maxLocals = 17) (hown : s.vm.findClass RL = some m.cls) (hg : ∀ w ∈ wsL_law, w.before args s = true) (hlocks : meth.locks = false) (hK : gK D y aS s) (hA : ∀ q, s.heap.size ≤ q → A q) (hL : ∀ k, k < 179 → k ∈ L) (hT : 179 ∈ L ∧ 180 ∈ L ∧ 181 ∈ L) (hrec25 : ∀ {x14n9 : Int32} {x15n9 : Int32} (H : Heap) (locs : List Loc) (ls : Array Slot), gY D y A s L ad σ H locs → lv_has ls 17 [(0, .ref (ad 161)), (2, .ref (ad 168)), (3, .ref (ad 170)), (4, .ref (ad 172)), (6, .ref (ad 174)), (7, .ref (ad 175)), (8, .ref (ad 179)), (9, .long x9), (11, .ref (ad 181)), (12, .int x12), (13, .int x13), (14, .int x14n9), (15, .int x15n9)] → rec25 (x14n9, x15n9) = some res → W p l e ({ frames := 3, cells := 0, slots := 0, locals := 75 } : Room) s m args below meth c H locs 0 0 (MQ below (va_Qi (fun (r : Int32) (_ : Unit) => r = res) (fun _ => gO D A (GW L y ad σ)) A) args s 0 0 A) (F0 m 25 ls [])) {H : Heap} {locs : List Loc} {ls : Array Slot} (hY : gY D y A s L ad σ H locs) (hl : lv_has ls 17 [(0, .ref (ad 161)), (2, .ref (ad 168)), (3, .ref (ad 170)), (4, .ref (ad 172)), (6, .ref (ad 174)), (7, .ref (ad 175)), (8, .ref (ad 179)), (9, .long x9), (11, .ref (ad 181)), (12, .int x12), (13, .int x13), (15, .int x15)]) (h : fL_failed_131 N rec25 σ x9 x12 x13 x15 xs0 xs1 = some res) : W p l e ({ frames := 3, cells := 0, slots := 0, locals := 75 } : Room) s m args below meth c H locs 0 0 (MQ below (va_Qi (fun (r : Int32) (_ : Unit) => r = res) (fun _ => gO D A (GW L y ad σ)) A) args s 0 0 A) (F0 m 131 ls [.int xs0, .int xs1]) := by
  unfold fL_failed_131 at h
  refine lv_ior hx hb dL_failed_131 ?_
  refine lv_istore (lv' := [(14, .int (xs1 ||| xs0)), (0, .ref (ad 161)), (2, .ref (ad 168)), (3, .ref (ad 170)), (4, .ref (ad 172)), (6, .ref (ad 174)), (7, .ref (ad 175)), (8, .ref (ad 179)), (9, .long x9), (11, .ref (ad 181)), (12, .int x12), (13, .int x13), (15, .int x15)]) hx hb dL_failed_132 hl (by decide) rfl ?_
  clear hl
  intro ls hl
  refine lv_iinc (v := (x15 + 1)) (lv' := [(15, .int (x15 + 1)), (14, .int (xs1 ||| xs0)), (0, .ref (ad 161)), (2, .ref (ad 168)), (3, .ref (ad 170)), (4, .ref (ad 172)), (6, .ref (ad 174)), (7, .ref (ad 175)), (8, .ref (ad 179)), (9, .long x9), (11, .ref (ad 181)), (12, .int x12), (13, .int x13)]) hx hb dL_failed_134 hl (k := 12) rfl rfl (by decide) rfl ?_
  clear hl
  intro ls hl
  refine lv_goto (tgt := 25) hx hb dL_failed_137 (by decide) ?_
  exact hrec25 _ _ _ hY (lv_sub hl [2, 3, 4, 5, 6, 7, 8, 9, 10, 11, 12, 1, 0] rfl) h
def fL_failed_130 (N : Nat) (rec25 : (Int32 × Int32) → Option Int32) (σ : gS) (x9 : Int64) (x12 : Int32) (x13 : Int32) (x15 : Int32) (xs0 : Int32) : Option Int32 := fL_failed_131 N rec25 σ x9 x12 x13 x15 0 xs0
set_option maxRecDepth 100000 in
set_option maxHeartbeats 4000000 in
theorem wL_failed_130 {rec25 : (Int32 × Int32) → Option Int32} {σ : gS} {x9 : Int64} {x12 : Int32} {x13 : Int32} {x15 : Int32} {xs0 : Int32} (hx : p.tables.exec = Jvm.exec) (hb : c.code = cL_failed) (hr : meth.sig.returnType = (some .int)) (hml : c.maxLocals = 17) (hown : s.vm.findClass RL = some m.cls) (hg : ∀ w ∈ wsL_law, w.before args s = true) (hlocks : meth.locks = false) (hK : gK D y aS s) (hA : ∀ q, s.heap.size ≤ q → A q) (hL : ∀ k, k < 179 → k ∈ L) (hT : 179 ∈ L ∧ 180 ∈ L ∧ 181 ∈ L) (hrec25 : ∀ {x14n9 : Int32} {x15n9 : Int32} (H : Heap) (locs : List Loc) (ls : Array Slot), gY D y A s L ad σ H locs → lv_has ls 17 [(0, .ref (ad 161)), (2, .ref (ad 168)), (3, .ref (ad 170)), (4, .ref (ad 172)), (6, .ref (ad 174)), (7, .ref (ad 175)), (8, .ref (ad 179)), (9, .long x9), (11, .ref (ad 181)), (12, .int x12), (13, .int x13), (14, .int x14n9), (15, .int x15n9)] → rec25 (x14n9, x15n9) = some res → W p l e ({ frames := 3, cells := 0, slots := 0, locals := 75 } : Room) s m args below meth c H locs 0 0 (MQ below (va_Qi (fun (r : Int32) (_ : Unit) => r = res) (fun _ => gO D A (GW L y ad σ)) A) args s 0 0 A) (F0 m 25 ls [])) {H : Heap} {locs : List Loc} {ls : Array Slot} (hY : gY D y A s L ad σ H locs) (hl : lv_has ls 17 [(0, .ref (ad 161)), (2, .ref (ad 168)), (3, .ref (ad 170)), (4, .ref (ad 172)), (6, .ref (ad 174)), (7, .ref (ad 175)), (8, .ref (ad 179)), (9, .long x9), (11, .ref (ad 181)), (12, .int x12), (13, .int x13), (15, .int x15)]) (h : fL_failed_130 N rec25 σ x9 x12 x13 x15 xs0 = some res) : W p l e ({ frames := 3, cells := 0, slots := 0, locals := 75 } : Room) s m args below meth c H locs 0 0 (MQ below (va_Qi (fun (r : Int32) (_ : Unit) => r = res) (fun _ => gO D A (GW L y ad σ)) A) args s 0 0 A) (F0 m 130 ls [.int xs0]) := by
  unfold fL_failed_130 at h
  refine lv_iconst (v := 0) hx hb dL_failed_130 (by decide) ?_
  exact wL_failed_131 hx hb hr hml hown hg hlocks hK hA hL hT hrec25 hY (lv_sub hl [0, 1, 2, 3, 4, 5, 6, 7, 8, 9, 10, 11] rfl) h
def fL_failed_123 (N : Nat) (rec25 : (Int32 × Int32) → Option Int32) (σ : gS) (x9 : Int64) (x12 : Int32) (x13 : Int32) (x15 : Int32) (xs0 : Int32) : Option Int32 := fL_failed_131 N rec25 σ x9 x12 x13 x15 ((1 : Int32) <<< (x15 &&& 31)) xs0
set_option maxRecDepth 100000 in
set_option maxHeartbeats 4000000 in
theorem wL_failed_123 {rec25 : (Int32 × Int32) → Option Int32} {σ : gS} {x9 : Int64} {x12 : Int32} {x13 : Int32} {x15 : Int32} {xs0 : Int32} (hx : p.tables.exec = Jvm.exec) (hb : c.code = cL_failed) (hr : meth.sig.returnType = (some .int)) (hml : c.maxLocals = 17) (hown : s.vm.findClass RL = some m.cls) (hg : ∀ w ∈ wsL_law, w.before args s = true) (hlocks : meth.locks = false) (hK : gK D y aS s) (hA : ∀ q, s.heap.size ≤ q → A q) (hL : ∀ k, k < 179 → k ∈ L) (hT : 179 ∈ L ∧ 180 ∈ L ∧ 181 ∈ L) (hrec25 : ∀ {x14n9 : Int32} {x15n9 : Int32} (H : Heap) (locs : List Loc) (ls : Array Slot), gY D y A s L ad σ H locs → lv_has ls 17 [(0, .ref (ad 161)), (2, .ref (ad 168)), (3, .ref (ad 170)), (4, .ref (ad 172)), (6, .ref (ad 174)), (7, .ref (ad 175)), (8, .ref (ad 179)), (9, .long x9), (11, .ref (ad 181)), (12, .int x12), (13, .int x13), (14, .int x14n9), (15, .int x15n9)] → rec25 (x14n9, x15n9) = some res → W p l e ({ frames := 3, cells := 0, slots := 0, locals := 75 } : Room) s m args below meth c H locs 0 0 (MQ below (va_Qi (fun (r : Int32) (_ : Unit) => r = res) (fun _ => gO D A (GW L y ad σ)) A) args s 0 0 A) (F0 m 25 ls [])) {H : Heap} {locs : List Loc} {ls : Array Slot} (hY : gY D y A s L ad σ H locs) (hl : lv_has ls 17 [(0, .ref (ad 161)), (2, .ref (ad 168)), (3, .ref (ad 170)), (4, .ref (ad 172)), (6, .ref (ad 174)), (7, .ref (ad 175)), (8, .ref (ad 179)), (9, .long x9), (11, .ref (ad 181)), (12, .int x12), (13, .int x13), (15, .int x15)]) (h : fL_failed_123 N rec25 σ x9 x12 x13 x15 xs0 = some res) : W p l e ({ frames := 3, cells := 0, slots := 0, locals := 75 } : Room) s m args below meth c H locs 0 0 (MQ below (va_Qi (fun (r : Int32) (_ : Unit) => r = res) (fun _ => gO D A (GW L y ad σ)) A) args s 0 0 A) (F0 m 123 ls [.int xs0]) := by
  unfold fL_failed_123 at h
  refine lv_iconst (v := 1) hx hb dL_failed_123 (by decide) ?_
  refine lv_iload hx hb dL_failed_124 (lv_at hl 11 rfl) ?_
  refine lv_ishl hx hb dL_failed_126 ?_
  refine lv_goto (tgt := 131) hx hb dL_failed_127 (by decide) ?_
  exact wL_failed_131 hx hb hr hml hown hg hlocks hK hA hL hT hrec25 hY (lv_sub hl [0, 1, 2, 3, 4, 5, 6, 7, 8, 9, 10, 11] rfl) h
def fL_failed_78 (N : Nat) (rec25 : (Int32 × Int32) → Option Int32) (σ : gS) (x9 : Int64) (x12 : Int32) (x13 : Int32) (x14 : Int32) (x15 : Int32) (xs0 : Int32) : Option Int32 := if xs0 = 0 then (fL_failed_130 N rec25 σ x9 x12 x13 x15 x14) else (if x12 = 3 then (fL_failed_123 N rec25 σ x9 x12 x13 x15 x14) else ((fL_beginning N σ (σ.1 181 0) x9).bind fun r_3 => (fL_verdict N σ x15 r_3).bind fun r_5 => if r_5 = x12 then (fL_failed_123 N rec25 σ x9 x12 x13 x15 x14) else (fL_failed_130 N rec25 σ x9 x12 x13 x15 x14)))
set_option maxRecDepth 100000 in
set_option maxHeartbeats 4000000 in
theorem wL_failed_78 {rec25 : (Int32 × Int32) → Option Int32} {σ : gS} {x9 : Int64} {x12 : Int32} {x13 : Int32} {x14 : Int32} {x15 : Int32} {xs0 : Int32} (hx : p.tables.exec = Jvm.exec) (hb : c.code = cL_failed) (hr : meth.sig.returnType = (some .int)) (hml : c.maxLocals = 17) (hown : s.vm.findClass RL = some m.cls) (hg : ∀ w ∈ wsL_law, w.before args s = true) (hlocks : meth.locks = false) (hK : gK D y aS s) (hA : ∀ q, s.heap.size ≤ q → A q) (hL : ∀ k, k < 179 → k ∈ L) (hT : 179 ∈ L ∧ 180 ∈ L ∧ 181 ∈ L) (hrec25 : ∀ {x14n9 : Int32} {x15n9 : Int32} (H : Heap) (locs : List Loc) (ls : Array Slot), gY D y A s L ad σ H locs → lv_has ls 17 [(0, .ref (ad 161)), (2, .ref (ad 168)), (3, .ref (ad 170)), (4, .ref (ad 172)), (6, .ref (ad 174)), (7, .ref (ad 175)), (8, .ref (ad 179)), (9, .long x9), (11, .ref (ad 181)), (12, .int x12), (13, .int x13), (14, .int x14n9), (15, .int x15n9)] → rec25 (x14n9, x15n9) = some res → W p l e ({ frames := 3, cells := 0, slots := 0, locals := 75 } : Room) s m args below meth c H locs 0 0 (MQ below (va_Qi (fun (r : Int32) (_ : Unit) => r = res) (fun _ => gO D A (GW L y ad σ)) A) args s 0 0 A) (F0 m 25 ls [])) {H : Heap} {locs : List Loc} {ls : Array Slot} (hY : gY D y A s L ad σ H locs) (hl : lv_has ls 17 [(0, .ref (ad 161)), (2, .ref (ad 168)), (3, .ref (ad 170)), (4, .ref (ad 172)), (6, .ref (ad 174)), (7, .ref (ad 175)), (8, .ref (ad 179)), (9, .long x9), (11, .ref (ad 181)), (12, .int x12), (13, .int x13), (14, .int x14), (15, .int x15)]) (h : fL_failed_78 N rec25 σ x9 x12 x13 x14 x15 xs0 = some res) : W p l e ({ frames := 3, cells := 0, slots := 0, locals := 75 } : Room) s m args below meth c H locs 0 0 (MQ below (va_Qi (fun (r : Int32) (_ : Unit) => r = res) (fun _ => gO D A (GW L y ad σ)) A) args s 0 0 A) (F0 m 78 ls [.int xs0]) := by
  unfold fL_failed_78 at h
  refine lv_istore (lv' := [(16, .int xs0), (0, .ref (ad 161)), (2, .ref (ad 168)), (3, .ref (ad 170)), (4, .ref (ad 172)), (6, .ref (ad 174)), (7, .ref (ad 175)), (8, .ref (ad 179)), (9, .long x9), (11, .ref (ad 181)), (12, .int x12), (13, .int x13), (14, .int x14), (15, .int x15)]) hx hb dL_failed_78 hl (by decide) rfl ?_
  clear hl
  intro ls hl
  refine lv_iload hx hb dL_failed_80 (lv_at hl 12 rfl) ?_
  refine lv_iload hx hb dL_failed_82 (lv_at hl 0 rfl) ?_
  refine lv_if_eq (tgt := 130) hx hb dL_failed_84 (by decide) (fun z_1 => ?_) (fun z_1 => ?_)
  ·
    rw [if_pos z_1] at h
    exact wL_failed_130 hx hb hr hml hown hg hlocks hK hA hL hT hrec25 hY (lv_sub hl [1, 2, 3, 4, 5, 6, 7, 8, 9, 10, 11, 13] rfl) h
  ·
    rw [if_neg z_1] at h
    refine lv_iload hx hb dL_failed_87 (lv_at hl 10 rfl) ?_
    refine lv_iconst (v := 3) hx hb dL_failed_89 (by decide) ?_
    refine lv_icmp_eq (tgt := 123) hx hb dL_failed_90 (by decide) (fun z_2 => ?_) (fun z_2 => ?_)
    ·
      rw [if_pos z_2] at h
      exact wL_failed_123 hx hb hr hml hown hg hlocks hK hA hL hT hrec25 hY (lv_sub hl [1, 2, 3, 4, 5, 6, 7, 8, 9, 10, 11, 13] rfl) h
    ·
      rw [if_neg z_2] at h
      refine lv_aload_n hx hb dL_failed_93 rfl (lv_at hl 1 rfl) ?_
      refine lv_aload hx hb dL_failed_94 (lv_at hl 4 rfl) ?_
      refine lv_aload hx hb dL_failed_96 (lv_at hl 5 rfl) ?_
      refine lv_aload hx hb dL_failed_98 (lv_at hl 6 rfl) ?_
      refine lv_iload hx hb dL_failed_100 (lv_at hl 13 rfl) ?_
      refine lv_aload_n hx hb dL_failed_102 rfl (lv_at hl 2 rfl) ?_
      refine lv_aload_n hx hb dL_failed_103 rfl (lv_at hl 3 rfl) ?_
      refine lv_aload hx hb dL_failed_104 (lv_at hl 7 rfl) ?_
      refine lv_aload hx hb dL_failed_106 (lv_at hl 9 rfl) ?_
      refine lv_iconst (v := 0) hx hb dL_failed_108 (by decide) ?_
      refine G_iald (j := 0) hx hb hK hY hT.2.2 gk_181 (by rw [gl_181]; decide +kernel) (by decide +kernel) dL_failed_109 ?_
      refine lv_lload hx hb dL_failed_110 (lv_at hl 8 rfl) ?_
      obtain ⟨r_3, e_4, h⟩ := g_bind h
      refine G_al hY hA (va_runS (As := [.ref (ad 168), .ref (ad 170), .ref (ad 179), .int (σ.1 181 0), .long x9]) (rest := [.int x15, .ref (ad 175), .ref (ad 174), .ref (ad 172), .ref (ad 161), .int x14]) ⟨hx, hb, hml, hown, hg⟩ (kL_beginning l D y aS H.size L hL hT ad N σ (σ.1 181 0) x9 _ e_4) (va_cwS 5 hg ggS_RL_60_L_beginning rfl rfl rfl (by decide +kernel) ⟨Nat.le_of_ble_eq_true rfl, Nat.le_of_ble_eq_true rfl⟩) (G_pS hK hY) rfl rfl hl.1 rfl (lv_room (Nat.le_of_ble_eq_true rfl)) dL_failed_112 ⟨Nat.le_of_ble_eq_true rfl, Nat.le_of_ble_eq_true rfl⟩) ?_
      clear hY
      rintro _ H locs rfl hY
      obtain ⟨r_5, e_6, h⟩ := g_bind h
      refine G_ai hY hA (va_runS (As := [.ref (ad 161), .ref (ad 172), .ref (ad 174), .ref (ad 175), .int x15, .long r_3]) (rest := [.int x14]) ⟨hx, hb, hml, hown, hg⟩ (kL_verdict l D y aS H.size L hL ad N σ x15 r_3 _ e_6) (va_cwS 6 hg ggS_RL_25_L_verdict rfl rfl rfl (by decide +kernel) ⟨Nat.le_of_ble_eq_true rfl, Nat.le_of_ble_eq_true rfl⟩) (G_pS hK hY) rfl rfl hl.1 rfl (lv_room (Nat.le_of_ble_eq_true rfl)) dL_failed_115 ⟨Nat.le_of_ble_eq_true rfl, Nat.le_of_ble_eq_true rfl⟩) ?_
      clear hY
      rintro _ H locs rfl hY
      refine lv_iload hx hb dL_failed_118 (lv_at hl 10 rfl) ?_
      refine lv_icmp_ne (tgt := 130) hx hb dL_failed_120 (by decide) (fun z_7 => ?_) (fun z_7 => ?_)
      ·
        rw [if_neg z_7] at h
        exact wL_failed_130 hx hb hr hml hown hg hlocks hK hA hL hT hrec25 hY (lv_sub hl [1, 2, 3, 4, 5, 6, 7, 8, 9, 10, 11, 13] rfl) h
      ·
        rw [if_pos z_7] at h
        exact wL_failed_123 hx hb hr hml hown hg hlocks hK hA hL hT hrec25 hY (lv_sub hl [1, 2, 3, 4, 5, 6, 7, 8, 9, 10, 11, 13] rfl) h
def fL_failed_77 (N : Nat) (rec25 : (Int32 × Int32) → Option Int32) (σ : gS) (x9 : Int64) (x12 : Int32) (x13 : Int32) (x14 : Int32) (x15 : Int32) : Option Int32 := fL_failed_78 N rec25 σ x9 x12 x13 x14 x15 0
set_option maxRecDepth 100000 in
set_option maxHeartbeats 4000000 in
theorem wL_failed_77 {rec25 : (Int32 × Int32) → Option Int32} {σ : gS} {x9 : Int64} {x12 : Int32} {x13 : Int32} {x14 : Int32} {x15 : Int32} (hx : p.tables.exec = Jvm.exec) (hb : c.code = cL_failed) (hr : meth.sig.returnType = (some .int)) (hml : c.maxLocals = 17) (hown : s.vm.findClass RL = some m.cls) (hg : ∀ w ∈ wsL_law, w.before args s = true) (hlocks : meth.locks = false) (hK : gK D y aS s) (hA : ∀ q, s.heap.size ≤ q → A q) (hL : ∀ k, k < 179 → k ∈ L) (hT : 179 ∈ L ∧ 180 ∈ L ∧ 181 ∈ L) (hrec25 : ∀ {x14n9 : Int32} {x15n9 : Int32} (H : Heap) (locs : List Loc) (ls : Array Slot), gY D y A s L ad σ H locs → lv_has ls 17 [(0, .ref (ad 161)), (2, .ref (ad 168)), (3, .ref (ad 170)), (4, .ref (ad 172)), (6, .ref (ad 174)), (7, .ref (ad 175)), (8, .ref (ad 179)), (9, .long x9), (11, .ref (ad 181)), (12, .int x12), (13, .int x13), (14, .int x14n9), (15, .int x15n9)] → rec25 (x14n9, x15n9) = some res → W p l e ({ frames := 3, cells := 0, slots := 0, locals := 75 } : Room) s m args below meth c H locs 0 0 (MQ below (va_Qi (fun (r : Int32) (_ : Unit) => r = res) (fun _ => gO D A (GW L y ad σ)) A) args s 0 0 A) (F0 m 25 ls [])) {H : Heap} {locs : List Loc} {ls : Array Slot} (hY : gY D y A s L ad σ H locs) (hl : lv_has ls 17 [(0, .ref (ad 161)), (2, .ref (ad 168)), (3, .ref (ad 170)), (4, .ref (ad 172)), (6, .ref (ad 174)), (7, .ref (ad 175)), (8, .ref (ad 179)), (9, .long x9), (11, .ref (ad 181)), (12, .int x12), (13, .int x13), (14, .int x14), (15, .int x15)]) (h : fL_failed_77 N rec25 σ x9 x12 x13 x14 x15 = some res) : W p l e ({ frames := 3, cells := 0, slots := 0, locals := 75 } : Room) s m args below meth c H locs 0 0 (MQ below (va_Qi (fun (r : Int32) (_ : Unit) => r = res) (fun _ => gO D A (GW L y ad σ)) A) args s 0 0 A) (F0 m 77 ls []) := by
  unfold fL_failed_77 at h
  refine lv_iconst (v := 0) hx hb dL_failed_77 (by decide) ?_
  exact wL_failed_78 hx hb hr hml hown hg hlocks hK hA hL hT hrec25 hY (lv_sub hl [0, 1, 2, 3, 4, 5, 6, 7, 8, 9, 10, 11, 12] rfl) h
def fL_failed_25 (N : Nat) (σ : gS) (x9 : Int64) (x12 : Int32) (x13 : Int32) (rec25 : (Int32 × Int32) → Option Int32) (xx : Int32 × Int32) : Option Int32 := match xx with
  | (x14, x15) => if (σ.1 161 2) ≤ x15 then (some x14) else (if ((x13 >>> (x15 &&& 31)) &&& 1) = 1 then ((fL_beginning N σ (σ.1 181 1) x9).bind fun r_3 => (fL_verdict N σ x15 r_3).bind fun r_5 => if r_5 = 2 then (fL_failed_78 N rec25 σ x9 x12 x13 x14 x15 1) else (fL_failed_77 N rec25 σ x9 x12 x13 x14 x15)) else (fL_failed_77 N rec25 σ x9 x12 x13 x14 x15))
set_option maxRecDepth 100000 in
set_option maxHeartbeats 4000000 in
theorem wL_failed_25 {σ : gS} {x9 : Int64} {x12 : Int32} {x13 : Int32} (hx : p.tables.exec = Jvm.exec) (hb : c.code = cL_failed) (hr : meth.sig.returnType = (some .int)) (hml : c.maxLocals = 17) (hown : s.vm.findClass RL = some m.cls) (hg : ∀ w ∈ wsL_law, w.before args s = true) (hlocks : meth.locks = false) (hK : gK D y aS s) (hA : ∀ q, s.heap.size ≤ q → A q) (hL : ∀ k, k < 179 → k ∈ L) (hT : 179 ∈ L ∧ 180 ∈ L ∧ 181 ∈ L) : ∀ (n : Nat) {x14 : Int32} {x15 : Int32} (H : Heap) (locs : List Loc) (ls : Array Slot), gY D y A s L ad σ H locs → lv_has ls 17 [(0, .ref (ad 161)), (2, .ref (ad 168)), (3, .ref (ad 170)), (4, .ref (ad 172)), (6, .ref (ad 174)), (7, .ref (ad 175)), (8, .ref (ad 179)), (9, .long x9), (11, .ref (ad 181)), (12, .int x12), (13, .int x13), (14, .int x14), (15, .int x15)] → lp (fL_failed_25 N σ x9 x12 x13) n (x14, x15) = some res → W p l e ({ frames := 3, cells := 0, slots := 0, locals := 75 } : Room) s m args below meth c H locs 0 0 (MQ below (va_Qi (fun (r : Int32) (_ : Unit) => r = res) (fun _ => gO D A (GW L y ad σ)) A) args s 0 0 A) (F0 m 25 ls []) := by
  intro n
  induction n with
  | zero => intro x14 x15 H locs ls hY hl h; exact nomatch (show none = some res from h)
  | succ n hrec25 =>
    intro x14 x15 H locs ls hY hl h
    replace h : fL_failed_25 N σ x9 x12 x13 (lp (fL_failed_25 N σ x9 x12 x13) n) (x14, x15) = some res := h
    generalize lp (fL_failed_25 N σ x9 x12 x13) n = rec25 at h hrec25
    unfold fL_failed_25 at h
    try dsimp only at h
    refine lv_iload hx hb dL_failed_25 (lv_at hl 12 rfl) ?_
    refine lv_aload_n hx hb dL_failed_27 rfl (lv_at hl 0 rfl) ?_
    refine lv_iconst (v := 2) hx hb dL_failed_28 (by decide) ?_
    refine G_iald (j := 2) hx hb hK hY (hL 161 (by decide)) gk_161 (by rw [gl_161]; decide +kernel) (by decide +kernel) dL_failed_29 ?_
    refine lv_icmp_ge (tgt := 140) hx hb dL_failed_30 (by decide) (fun z_1 => ?_) (fun z_1 => ?_)
    ·
      rw [if_pos z_1] at h
      refine lv_iload hx hb dL_failed_140 (lv_at hl 11 rfl) ?_
      cases h
      exact g_iret hx hb hr hlocks () hY.1 hY.2.1 hY.2.2 rfl rfl (Nat.le_of_ble_eq_true rfl) (Nat.le_of_ble_eq_true rfl) dL_failed_142
    ·
      rw [if_neg z_1] at h
      refine lv_iload hx hb dL_failed_33 (lv_at hl 10 rfl) ?_
      refine lv_iload hx hb dL_failed_35 (lv_at hl 12 rfl) ?_
      refine lv_ishr hx hb dL_failed_37 ?_
      refine lv_iconst (v := 1) hx hb dL_failed_38 (by decide) ?_
      refine lv_iand hx hb dL_failed_39 ?_
      refine lv_iconst (v := 1) hx hb dL_failed_40 (by decide) ?_
      refine lv_icmp_ne (tgt := 77) hx hb dL_failed_41 (by decide) (fun z_2 => ?_) (fun z_2 => ?_)
      ·
        rw [if_neg z_2] at h
        exact wL_failed_77 hx hb hr hml hown hg hlocks hK hA hL hT hrec25 hY (lv_sub hl [0, 1, 2, 3, 4, 5, 6, 7, 8, 9, 10, 11, 12] rfl) h
      ·
        rw [if_pos z_2] at h
        refine lv_aload_n hx hb dL_failed_44 rfl (lv_at hl 0 rfl) ?_
        refine lv_aload hx hb dL_failed_45 (lv_at hl 3 rfl) ?_
        refine lv_aload hx hb dL_failed_47 (lv_at hl 4 rfl) ?_
        refine lv_aload hx hb dL_failed_49 (lv_at hl 5 rfl) ?_
        refine lv_iload hx hb dL_failed_51 (lv_at hl 12 rfl) ?_
        refine lv_aload_n hx hb dL_failed_53 rfl (lv_at hl 1 rfl) ?_
        refine lv_aload_n hx hb dL_failed_54 rfl (lv_at hl 2 rfl) ?_
        refine lv_aload hx hb dL_failed_55 (lv_at hl 6 rfl) ?_
        refine lv_aload hx hb dL_failed_57 (lv_at hl 8 rfl) ?_
        refine lv_iconst (v := 1) hx hb dL_failed_59 (by decide) ?_
        refine G_iald (j := 1) hx hb hK hY hT.2.2 gk_181 (by rw [gl_181]; decide +kernel) (by decide +kernel) dL_failed_60 ?_
        refine lv_lload hx hb dL_failed_61 (lv_at hl 7 rfl) ?_
        obtain ⟨r_3, e_4, h⟩ := g_bind h
        refine G_al hY hA (va_runS (As := [.ref (ad 168), .ref (ad 170), .ref (ad 179), .int (σ.1 181 1), .long x9]) (rest := [.int x15, .ref (ad 175), .ref (ad 174), .ref (ad 172), .ref (ad 161)]) ⟨hx, hb, hml, hown, hg⟩ (kL_beginning l D y aS H.size L hL hT ad N σ (σ.1 181 1) x9 _ e_4) (va_cwS 5 hg ggS_RL_60_L_beginning rfl rfl rfl (by decide +kernel) ⟨Nat.le_of_ble_eq_true rfl, Nat.le_of_ble_eq_true rfl⟩) (G_pS hK hY) rfl rfl hl.1 rfl (lv_room (Nat.le_of_ble_eq_true rfl)) dL_failed_63 ⟨Nat.le_of_ble_eq_true rfl, Nat.le_of_ble_eq_true rfl⟩) ?_
        clear hY
        rintro _ H locs rfl hY
        obtain ⟨r_5, e_6, h⟩ := g_bind h
        refine G_ai hY hA (va_runS (As := [.ref (ad 161), .ref (ad 172), .ref (ad 174), .ref (ad 175), .int x15, .long r_3]) (rest := []) ⟨hx, hb, hml, hown, hg⟩ (kL_verdict l D y aS H.size L hL ad N σ x15 r_3 _ e_6) (va_cwS 6 hg ggS_RL_25_L_verdict rfl rfl rfl (by decide +kernel) ⟨Nat.le_of_ble_eq_true rfl, Nat.le_of_ble_eq_true rfl⟩) (G_pS hK hY) rfl rfl hl.1 rfl (lv_room (Nat.le_of_ble_eq_true rfl)) dL_failed_66 ⟨Nat.le_of_ble_eq_true rfl, Nat.le_of_ble_eq_true rfl⟩) ?_
        clear hY
        rintro _ H locs rfl hY
        refine lv_iconst (v := 2) hx hb dL_failed_69 (by decide) ?_
        refine lv_icmp_ne (tgt := 77) hx hb dL_failed_70 (by decide) (fun z_7 => ?_) (fun z_7 => ?_)
        ·
          rw [if_neg z_7] at h
          exact wL_failed_77 hx hb hr hml hown hg hlocks hK hA hL hT hrec25 hY (lv_sub hl [0, 1, 2, 3, 4, 5, 6, 7, 8, 9, 10, 11, 12] rfl) h
        ·
          rw [if_pos z_7] at h
          refine lv_iconst (v := 1) hx hb dL_failed_73 (by decide) ?_
          refine lv_goto (tgt := 78) hx hb dL_failed_74 (by decide) ?_
          exact wL_failed_78 hx hb hr hml hown hg hlocks hK hA hL hT hrec25 hY (lv_sub hl [0, 1, 2, 3, 4, 5, 6, 7, 8, 9, 10, 11, 12] rfl) h
end
def fL_failed (N : Nat) (σ : gS) (x9 : Int64) (x12 : Int32) : Option Int32 := (fL_requiredOf N σ (0 : Int32) (σ.1 181 1)).bind fun r_1 => lp (fL_failed_25 N σ x9 x12 r_1) N (0, 0)
set_option maxRecDepth 100000 in
set_option maxHeartbeats 4000000 in
theorem kL_failed (l : Launch) (D : va_G) (y : Nat → ClassId) (aS : Nat → Nat) (sz : Nat) (L : List Nat) (hL : ∀ k, k < 179 → k ∈ L) (hT : 179 ∈ L ∧ 180 ∈ L ∧ 181 ∈ L) (ad : Nat → Nat) (N : Nat) (σ : gS) (x9 : Int64) (x12 : Int32) (res : Int32) (h : fL_failed N σ x9 x12 = some res) : Met l yL_failed (Cond.code yL_failed cL_failed 17 (some .int) :: wsL_law) ({ frames := 3, cells := 0, slots := 0, locals := 75 } : Room) (va_Pc [.ref (ad 161), .ref (ad 162), .ref (ad 168), .ref (ad 170), .ref (ad 172), .ref (ad 173), .ref (ad 174), .ref (ad 175), .ref (ad 179), .long x9, .ref (ad 181), .int x12] (gI D y aS (GW L y ad σ) sz)) (va_Qi (fun (r : Int32) (_ : Unit) => r = res) (fun _ => gO D (va_A (GW L y ad σ) sz) (GW L y ad σ)) (va_A (GW L y ad σ) sz)) 0 0 (va_A (GW L y ad σ) sz) := by
  refine g_of (by decide) (Nat.le_of_ble_eq_true rfl) ?_
  intro p e s m below meth c ls A hx hb hr hml hown hg hlocks hin hsz hK hP hD hS hA hAe hl
  rw [← hAe]
  replace hown : s.vm.findClass RL = some m.cls := hown
  have hY : gY D y A s L ad σ s.heap [] := ⟨hP, hD, hS⟩
  clear hP hD hS
  replace hl : lv_has ls 17 [(0, .ref (ad 161)), (1, .ref (ad 162)), (2, .ref (ad 168)), (3, .ref (ad 170)), (4, .ref (ad 172)), (5, .ref (ad 173)), (6, .ref (ad 174)), (7, .ref (ad 175)), (8, .ref (ad 179)), (9, .long x9), (11, .ref (ad 181)), (12, .int x12)] := hl
  unfold fL_failed at h
  refine lv_aload_n hx hb dL_failed_0 rfl (lv_at hl 0 rfl) ?_
  refine lv_aload_n hx hb dL_failed_1 rfl (lv_at hl 1 rfl) ?_
  refine lv_aload_n hx hb dL_failed_2 rfl (lv_at hl 2 rfl) ?_
  refine lv_aload hx hb dL_failed_3 (lv_at hl 4 rfl) ?_
  refine lv_aload hx hb dL_failed_5 (lv_at hl 5 rfl) ?_
  refine lv_aload hx hb dL_failed_7 (lv_at hl 8 rfl) ?_
  refine lv_iconst (v := 0) hx hb dL_failed_9 (by decide) ?_
  refine lv_aload hx hb dL_failed_10 (lv_at hl 10 rfl) ?_
  refine lv_iconst (v := 1) hx hb dL_failed_12 (by decide) ?_
  refine G_iald (j := 1) hx hb hK hY hT.2.2 gk_181 (by rw [gl_181]; decide +kernel) (by decide +kernel) dL_failed_13 ?_
  obtain ⟨r_1, e_2, h⟩ := g_bind h
  refine G_ai hY hA (va_runS (As := [.ref (ad 161), .ref (ad 162), .ref (ad 168), .ref (ad 172), .ref (ad 173), .ref (ad 179), .int 0, .int (σ.1 181 1)]) (rest := []) ⟨hx, hb, hml, hown, hg⟩ (kL_requiredOf l D y aS s.heap.size L hL hT ad N σ (0 : Int32) (σ.1 181 1) _ e_2) (va_cwS 8 hg ggS_RL_56_L_requiredOf rfl rfl rfl (by decide +kernel) ⟨Nat.le_of_ble_eq_true rfl, Nat.le_of_ble_eq_true rfl⟩) (G_pS hK hY) rfl rfl hl.1 rfl (lv_room (Nat.le_of_ble_eq_true rfl)) dL_failed_14 ⟨Nat.le_of_ble_eq_true rfl, Nat.le_of_ble_eq_true rfl⟩) ?_
  clear hY
  rintro _ H locs rfl hY
  refine lv_istore (lv' := [(13, .int r_1), (0, .ref (ad 161)), (1, .ref (ad 162)), (2, .ref (ad 168)), (3, .ref (ad 170)), (4, .ref (ad 172)), (5, .ref (ad 173)), (6, .ref (ad 174)), (7, .ref (ad 175)), (8, .ref (ad 179)), (9, .long x9), (11, .ref (ad 181)), (12, .int x12)]) hx hb dL_failed_17 hl (by decide) rfl ?_
  clear hl
  intro ls hl
  refine lv_iconst (v := 0) hx hb dL_failed_19 (by decide) ?_
  refine lv_istore (lv' := [(14, .int 0), (13, .int r_1), (0, .ref (ad 161)), (1, .ref (ad 162)), (2, .ref (ad 168)), (3, .ref (ad 170)), (4, .ref (ad 172)), (5, .ref (ad 173)), (6, .ref (ad 174)), (7, .ref (ad 175)), (8, .ref (ad 179)), (9, .long x9), (11, .ref (ad 181)), (12, .int x12)]) hx hb dL_failed_20 hl (by decide) rfl ?_
  clear hl
  intro ls hl
  refine lv_iconst (v := 0) hx hb dL_failed_22 (by decide) ?_
  refine lv_istore (lv' := [(15, .int 0), (14, .int 0), (13, .int r_1), (0, .ref (ad 161)), (1, .ref (ad 162)), (2, .ref (ad 168)), (3, .ref (ad 170)), (4, .ref (ad 172)), (5, .ref (ad 173)), (6, .ref (ad 174)), (7, .ref (ad 175)), (8, .ref (ad 179)), (9, .long x9), (11, .ref (ad 181)), (12, .int x12)]) hx hb dL_failed_23 hl (by decide) rfl ?_
  clear hl
  intro ls hl
  exact wL_failed_25 hx hb hr hml hown hg hlocks hK hA hL hT N _ _ _ hY (lv_sub hl [3, 5, 6, 7, 9, 10, 11, 12, 13, 14, 2, 1, 0] rfl) h
section
variable {p : Program} {l : Launch} {e : Env} {s : State} {m : MethodId} {args : Array Value} {below : List Frame} {meth : Method} {c : Code} {D : va_G} {y : Nat → ClassId} {aS : Nat → Nat} {A : Nat → Prop} {L : List Nat} {ad : Nat → Nat} {N : Nat} {res : (Int32 × gS)}
def fL_leaves_91 (N : Nat) (rec11 : (gS × Int32 × Int32) → Option (Int32 × gS)) (rec22 : (gS × Int32 × Int32) → Option (Int32 × gS)) (σ : gS) (x6 : Int32) (x7 : Int32) (xs0 : Int32) (xs1 : Int32) : Option (Int32 × gS) := rec22 (σ, (xs1 + xs0), (x7 + 1))
set_option maxRecDepth 100000 in
set_option maxHeartbeats 4000000 in
theorem wL_leaves_91 {rec11 : (gS × Int32 × Int32) → Option (Int32 × gS)} {rec22 : (gS × Int32 × Int32) → Option (Int32 × gS)} {σ : gS} {x6 : Int32} {x7 : Int32} {xs0 : Int32} {xs1 : Int32} (hx : p.tables.exec = Jvm.exec) (hb : c.code = cL_leaves) (hr : meth.sig.returnType = (some .int)) (hml : c.maxLocals = 9) (hown : s.vm.findClass RL = some m.cls) (hg : ∀ w ∈ wsL_law, w.before args s = true) (hlocks : meth.locks = false) (hK : gK D y aS s) (hA : ∀ q, s.heap.size ≤ q → A q) (hL : ∀ k, k < 179 → k ∈ L) (hrec11 : ∀ {σ9 : gS} {x5n9 : Int32} {x6n9 : Int32} (H : Heap) (locs : List Loc) (ls : Array Slot), gY D y A s L ad σ9 H locs → lv_has ls 9 [(0, .ref (ad 161)), (1, .ref (ad 163)), (2, .ref (ad 164)), (5, .int x5n9), (6, .int x6n9)] → rec11 (σ9, x5n9, x6n9) = some res → W p l e ({ frames := 0, cells := 0, slots := 0, locals := 0 } : Room) s m args below meth c H locs 0 0 (MQ below (va_Qi (fun (r : Int32) (_ : Unit) => r = res.1) (fun _ => gO D A (GW L y ad res.2)) A) args s 0 0 A) (F0 m 11 ls [])) (hrec22 : ∀ {σ9 : gS} {x5n9 : Int32} {x7n9 : Int32} (H : Heap) (locs : List Loc) (ls : Array Slot), gY D y A s L ad σ9 H locs → lv_has ls 9 [(0, .ref (ad 161)), (1, .ref (ad 163)), (2, .ref (ad 164)), (5, .int x5n9), (6, .int x6), (7, .int x7n9)] → rec22 (σ9, x5n9, x7n9) = some res → W p l e ({ frames := 0, cells := 0, slots := 0, locals := 0 } : Room) s m args below meth c H locs 0 0 (MQ below (va_Qi (fun (r : Int32) (_ : Unit) => r = res.1) (fun _ => gO D A (GW L y ad res.2)) A) args s 0 0 A) (F0 m 22 ls [])) {H : Heap} {locs : List Loc} {ls : Array Slot} (hY : gY D y A s L ad σ H locs) (hl : lv_has ls 9 [(0, .ref (ad 161)), (1, .ref (ad 163)), (2, .ref (ad 164)), (6, .int x6), (7, .int x7)]) (h : fL_leaves_91 N rec11 rec22 σ x6 x7 xs0 xs1 = some res) : W p l e ({ frames := 0, cells := 0, slots := 0, locals := 0 } : Room) s m args below meth c H locs 0 0 (MQ below (va_Qi (fun (r : Int32) (_ : Unit) => r = res.1) (fun _ => gO D A (GW L y ad res.2)) A) args s 0 0 A) (F0 m 91 ls [.int xs0, .int xs1]) := by
  unfold fL_leaves_91 at h
  refine lv_iadd hx hb dL_leaves_91 ?_
  refine lv_istore (lv' := [(5, .int (xs1 + xs0)), (0, .ref (ad 161)), (1, .ref (ad 163)), (2, .ref (ad 164)), (6, .int x6), (7, .int x7)]) hx hb dL_leaves_92 hl (by decide) rfl ?_
  clear hl
  intro ls hl
  refine lv_iinc (v := (x7 + 1)) (lv' := [(7, .int (x7 + 1)), (5, .int (xs1 + xs0)), (0, .ref (ad 161)), (1, .ref (ad 163)), (2, .ref (ad 164)), (6, .int x6)]) hx hb dL_leaves_94 hl (k := 5) rfl rfl (by decide) rfl ?_
  clear hl
  intro ls hl
  refine lv_goto (tgt := 22) hx hb dL_leaves_97 (by decide) ?_
  exact hrec22 _ _ _ hY (lv_sub hl [2, 3, 4, 1, 5, 0] rfl) h
def fL_leaves_78 (N : Nat) (rec11 : (gS × Int32 × Int32) → Option (Int32 × gS)) (rec22 : (gS × Int32 × Int32) → Option (Int32 × gS)) (σ : gS) (x5 : Int32) (x6 : Int32) (x7 : Int32) (x8 : Int32) (xs0 : Int32) (xs1 : Int32) : Option (Int32 × gS) := if xs1 < 0 ∨ 24 ≤ xs1.toNatClampNeg then none else (if x8 = 0 then (fL_leaves_91 N rec11 rec22 (sI σ 164 xs1.toNatClampNeg xs0) x6 x7 0 x5) else (fL_leaves_91 N rec11 rec22 (sI σ 164 xs1.toNatClampNeg xs0) x6 x7 1 x5))
set_option maxRecDepth 100000 in
set_option maxHeartbeats 4000000 in
theorem wL_leaves_78 {rec11 : (gS × Int32 × Int32) → Option (Int32 × gS)} {rec22 : (gS × Int32 × Int32) → Option (Int32 × gS)} {σ : gS} {x5 : Int32} {x6 : Int32} {x7 : Int32} {x8 : Int32} {xs0 : Int32} {xs1 : Int32} (hx : p.tables.exec = Jvm.exec) (hb : c.code = cL_leaves) (hr : meth.sig.returnType = (some .int)) (hml : c.maxLocals = 9) (hown : s.vm.findClass RL = some m.cls) (hg : ∀ w ∈ wsL_law, w.before args s = true) (hlocks : meth.locks = false) (hK : gK D y aS s) (hA : ∀ q, s.heap.size ≤ q → A q) (hL : ∀ k, k < 179 → k ∈ L) (hrec11 : ∀ {σ9 : gS} {x5n9 : Int32} {x6n9 : Int32} (H : Heap) (locs : List Loc) (ls : Array Slot), gY D y A s L ad σ9 H locs → lv_has ls 9 [(0, .ref (ad 161)), (1, .ref (ad 163)), (2, .ref (ad 164)), (5, .int x5n9), (6, .int x6n9)] → rec11 (σ9, x5n9, x6n9) = some res → W p l e ({ frames := 0, cells := 0, slots := 0, locals := 0 } : Room) s m args below meth c H locs 0 0 (MQ below (va_Qi (fun (r : Int32) (_ : Unit) => r = res.1) (fun _ => gO D A (GW L y ad res.2)) A) args s 0 0 A) (F0 m 11 ls [])) (hrec22 : ∀ {σ9 : gS} {x5n9 : Int32} {x7n9 : Int32} (H : Heap) (locs : List Loc) (ls : Array Slot), gY D y A s L ad σ9 H locs → lv_has ls 9 [(0, .ref (ad 161)), (1, .ref (ad 163)), (2, .ref (ad 164)), (5, .int x5n9), (6, .int x6), (7, .int x7n9)] → rec22 (σ9, x5n9, x7n9) = some res → W p l e ({ frames := 0, cells := 0, slots := 0, locals := 0 } : Room) s m args below meth c H locs 0 0 (MQ below (va_Qi (fun (r : Int32) (_ : Unit) => r = res.1) (fun _ => gO D A (GW L y ad res.2)) A) args s 0 0 A) (F0 m 22 ls [])) {H : Heap} {locs : List Loc} {ls : Array Slot} (hY : gY D y A s L ad σ H locs) (hl : lv_has ls 9 [(0, .ref (ad 161)), (1, .ref (ad 163)), (2, .ref (ad 164)), (5, .int x5), (6, .int x6), (7, .int x7), (8, .int x8)]) (h : fL_leaves_78 N rec11 rec22 σ x5 x6 x7 x8 xs0 xs1 = some res) : W p l e ({ frames := 0, cells := 0, slots := 0, locals := 0 } : Room) s m args below meth c H locs 0 0 (MQ below (va_Qi (fun (r : Int32) (_ : Unit) => r = res.1) (fun _ => gO D A (GW L y ad res.2)) A) args s 0 0 A) (F0 m 78 ls [.int xs0, .int xs1, .ref (ad 164)]) := by
  unfold fL_leaves_78 at h
  obtain ⟨z_1, h⟩ := g_guard h
  refine G_iast (j := xs1.toNatClampNeg) hx hb hK hY (hL 164 (by decide)) gk_164 (by rw [gl_164]; exact z_1) rfl dL_leaves_78 ?_
  clear hY
  intro H locs hY
  refine lv_iload hx hb dL_leaves_79 (lv_at hl 3 rfl) ?_
  refine lv_iload hx hb dL_leaves_81 (lv_at hl 6 rfl) ?_
  refine lv_if_eq (tgt := 90) hx hb dL_leaves_83 (by decide) (fun z_2 => ?_) (fun z_2 => ?_)
  ·
    rw [if_pos z_2] at h
    refine lv_iconst (v := 0) hx hb dL_leaves_90 (by decide) ?_
    exact wL_leaves_91 hx hb hr hml hown hg hlocks hK hA hL hrec11 hrec22 hY (lv_sub hl [0, 1, 2, 4, 5] rfl) h
  ·
    rw [if_neg z_2] at h
    refine lv_iconst (v := 1) hx hb dL_leaves_86 (by decide) ?_
    refine lv_goto (tgt := 91) hx hb dL_leaves_87 (by decide) ?_
    exact wL_leaves_91 hx hb hr hml hown hg hlocks hK hA hL hrec11 hrec22 hY (lv_sub hl [0, 1, 2, 4, 5] rfl) h
def fL_leaves_60 (N : Nat) (rec11 : (gS × Int32 × Int32) → Option (Int32 × gS)) (rec22 : (gS × Int32 × Int32) → Option (Int32 × gS)) (σ : gS) (x5 : Int32) (x6 : Int32) (x7 : Int32) (xs0 : Int32) : Option (Int32 × gS) := if xs0 = 0 then (if x7 < 0 ∨ 24 ≤ x7.toNatClampNeg then none else (fL_leaves_78 N rec11 rec22 σ x5 x6 x7 xs0 (σ.1 164 x7.toNatClampNeg) x7)) else (fL_leaves_78 N rec11 rec22 σ x5 x6 x7 xs0 5 x7)
set_option maxRecDepth 100000 in
set_option maxHeartbeats 4000000 in
theorem wL_leaves_60 {rec11 : (gS × Int32 × Int32) → Option (Int32 × gS)} {rec22 : (gS × Int32 × Int32) → Option (Int32 × gS)} {σ : gS} {x5 : Int32} {x6 : Int32} {x7 : Int32} {xs0 : Int32} (hx : p.tables.exec = Jvm.exec) (hb : c.code = cL_leaves) (hr : meth.sig.returnType = (some .int)) (hml : c.maxLocals = 9) (hown : s.vm.findClass RL = some m.cls) (hg : ∀ w ∈ wsL_law, w.before args s = true) (hlocks : meth.locks = false) (hK : gK D y aS s) (hA : ∀ q, s.heap.size ≤ q → A q) (hL : ∀ k, k < 179 → k ∈ L) (hrec11 : ∀ {σ9 : gS} {x5n9 : Int32} {x6n9 : Int32} (H : Heap) (locs : List Loc) (ls : Array Slot), gY D y A s L ad σ9 H locs → lv_has ls 9 [(0, .ref (ad 161)), (1, .ref (ad 163)), (2, .ref (ad 164)), (5, .int x5n9), (6, .int x6n9)] → rec11 (σ9, x5n9, x6n9) = some res → W p l e ({ frames := 0, cells := 0, slots := 0, locals := 0 } : Room) s m args below meth c H locs 0 0 (MQ below (va_Qi (fun (r : Int32) (_ : Unit) => r = res.1) (fun _ => gO D A (GW L y ad res.2)) A) args s 0 0 A) (F0 m 11 ls [])) (hrec22 : ∀ {σ9 : gS} {x5n9 : Int32} {x7n9 : Int32} (H : Heap) (locs : List Loc) (ls : Array Slot), gY D y A s L ad σ9 H locs → lv_has ls 9 [(0, .ref (ad 161)), (1, .ref (ad 163)), (2, .ref (ad 164)), (5, .int x5n9), (6, .int x6), (7, .int x7n9)] → rec22 (σ9, x5n9, x7n9) = some res → W p l e ({ frames := 0, cells := 0, slots := 0, locals := 0 } : Room) s m args below meth c H locs 0 0 (MQ below (va_Qi (fun (r : Int32) (_ : Unit) => r = res.1) (fun _ => gO D A (GW L y ad res.2)) A) args s 0 0 A) (F0 m 22 ls [])) {H : Heap} {locs : List Loc} {ls : Array Slot} (hY : gY D y A s L ad σ H locs) (hl : lv_has ls 9 [(0, .ref (ad 161)), (1, .ref (ad 163)), (2, .ref (ad 164)), (5, .int x5), (6, .int x6), (7, .int x7)]) (h : fL_leaves_60 N rec11 rec22 σ x5 x6 x7 xs0 = some res) : W p l e ({ frames := 0, cells := 0, slots := 0, locals := 0 } : Room) s m args below meth c H locs 0 0 (MQ below (va_Qi (fun (r : Int32) (_ : Unit) => r = res.1) (fun _ => gO D A (GW L y ad res.2)) A) args s 0 0 A) (F0 m 60 ls [.int xs0]) := by
  unfold fL_leaves_60 at h
  refine lv_istore (lv' := [(8, .int xs0), (0, .ref (ad 161)), (1, .ref (ad 163)), (2, .ref (ad 164)), (5, .int x5), (6, .int x6), (7, .int x7)]) hx hb dL_leaves_60 hl (by decide) rfl ?_
  clear hl
  intro ls hl
  refine lv_aload_n hx hb dL_leaves_62 rfl (lv_at hl 3 rfl) ?_
  refine lv_iload hx hb dL_leaves_63 (lv_at hl 6 rfl) ?_
  refine lv_iload hx hb dL_leaves_65 (lv_at hl 0 rfl) ?_
  refine lv_if_eq (tgt := 74) hx hb dL_leaves_67 (by decide) (fun z_1 => ?_) (fun z_1 => ?_)
  ·
    rw [if_pos z_1] at h
    refine lv_aload_n hx hb dL_leaves_74 rfl (lv_at hl 3 rfl) ?_
    refine lv_iload hx hb dL_leaves_75 (lv_at hl 6 rfl) ?_
    obtain ⟨z_2, h⟩ := g_guard h
    refine G_iald (j := x7.toNatClampNeg) hx hb hK hY (hL 164 (by decide)) gk_164 (by rw [gl_164]; exact z_2) rfl dL_leaves_77 ?_
    exact wL_leaves_78 hx hb hr hml hown hg hlocks hK hA hL hrec11 hrec22 hY (lv_sub hl [1, 2, 3, 4, 5, 6, 0] rfl) h
  ·
    rw [if_neg z_1] at h
    refine lv_iconst (v := 5) hx hb dL_leaves_70 (by decide) ?_
    refine lv_goto (tgt := 78) hx hb dL_leaves_71 (by decide) ?_
    exact wL_leaves_78 hx hb hr hml hown hg hlocks hK hA hL hrec11 hrec22 hY (lv_sub hl [1, 2, 3, 4, 5, 6, 0] rfl) h
def fL_leaves_59 (N : Nat) (rec11 : (gS × Int32 × Int32) → Option (Int32 × gS)) (rec22 : (gS × Int32 × Int32) → Option (Int32 × gS)) (σ : gS) (x5 : Int32) (x6 : Int32) (x7 : Int32) : Option (Int32 × gS) := fL_leaves_60 N rec11 rec22 σ x5 x6 x7 0
set_option maxRecDepth 100000 in
set_option maxHeartbeats 4000000 in
theorem wL_leaves_59 {rec11 : (gS × Int32 × Int32) → Option (Int32 × gS)} {rec22 : (gS × Int32 × Int32) → Option (Int32 × gS)} {σ : gS} {x5 : Int32} {x6 : Int32} {x7 : Int32} (hx : p.tables.exec = Jvm.exec) (hb : c.code = cL_leaves) (hr : meth.sig.returnType = (some .int)) (hml : c.maxLocals = 9) (hown : s.vm.findClass RL = some m.cls) (hg : ∀ w ∈ wsL_law, w.before args s = true) (hlocks : meth.locks = false) (hK : gK D y aS s) (hA : ∀ q, s.heap.size ≤ q → A q) (hL : ∀ k, k < 179 → k ∈ L) (hrec11 : ∀ {σ9 : gS} {x5n9 : Int32} {x6n9 : Int32} (H : Heap) (locs : List Loc) (ls : Array Slot), gY D y A s L ad σ9 H locs → lv_has ls 9 [(0, .ref (ad 161)), (1, .ref (ad 163)), (2, .ref (ad 164)), (5, .int x5n9), (6, .int x6n9)] → rec11 (σ9, x5n9, x6n9) = some res → W p l e ({ frames := 0, cells := 0, slots := 0, locals := 0 } : Room) s m args below meth c H locs 0 0 (MQ below (va_Qi (fun (r : Int32) (_ : Unit) => r = res.1) (fun _ => gO D A (GW L y ad res.2)) A) args s 0 0 A) (F0 m 11 ls [])) (hrec22 : ∀ {σ9 : gS} {x5n9 : Int32} {x7n9 : Int32} (H : Heap) (locs : List Loc) (ls : Array Slot), gY D y A s L ad σ9 H locs → lv_has ls 9 [(0, .ref (ad 161)), (1, .ref (ad 163)), (2, .ref (ad 164)), (5, .int x5n9), (6, .int x6), (7, .int x7n9)] → rec22 (σ9, x5n9, x7n9) = some res → W p l e ({ frames := 0, cells := 0, slots := 0, locals := 0 } : Room) s m args below meth c H locs 0 0 (MQ below (va_Qi (fun (r : Int32) (_ : Unit) => r = res.1) (fun _ => gO D A (GW L y ad res.2)) A) args s 0 0 A) (F0 m 22 ls [])) {H : Heap} {locs : List Loc} {ls : Array Slot} (hY : gY D y A s L ad σ H locs) (hl : lv_has ls 9 [(0, .ref (ad 161)), (1, .ref (ad 163)), (2, .ref (ad 164)), (5, .int x5), (6, .int x6), (7, .int x7)]) (h : fL_leaves_59 N rec11 rec22 σ x5 x6 x7 = some res) : W p l e ({ frames := 0, cells := 0, slots := 0, locals := 0 } : Room) s m args below meth c H locs 0 0 (MQ below (va_Qi (fun (r : Int32) (_ : Unit) => r = res.1) (fun _ => gO D A (GW L y ad res.2)) A) args s 0 0 A) (F0 m 59 ls []) := by
  unfold fL_leaves_59 at h
  refine lv_iconst (v := 0) hx hb dL_leaves_59 (by decide) ?_
  exact wL_leaves_60 hx hb hr hml hown hg hlocks hK hA hL hrec11 hrec22 hY (lv_sub hl [0, 1, 2, 3, 4, 5] rfl) h
def fL_leaves_22 (N : Nat) (rec11 : (gS × Int32 × Int32) → Option (Int32 × gS)) (x6 : Int32) (rec22 : (gS × Int32 × Int32) → Option (Int32 × gS)) (xx : gS × Int32 × Int32) : Option (Int32 × gS) := match xx with
  | (σ, x5, x7) => if (σ.1 161 0) ≤ x7 then (rec11 (σ, x5, (x6 + 1))) else (if x7 < 0 ∨ 24 ≤ x7.toNatClampNeg then none else (if (σ.1 164 x7.toNatClampNeg) = 1 then (if x7 < 0 ∨ 24 ≤ x7.toNatClampNeg then none else (if (σ.1 163 x7.toNatClampNeg) < 0 then (fL_leaves_59 N rec11 rec22 σ x5 x6 x7) else (if x7 < 0 ∨ 24 ≤ x7.toNatClampNeg then none else (if (σ.1 163 x7.toNatClampNeg) < 0 ∨ 24 ≤ (σ.1 163 x7.toNatClampNeg).toNatClampNeg then none else (if (σ.1 164 ((σ.1 163 x7.toNatClampNeg).toNatClampNeg)) ≤ 2 then (fL_leaves_59 N rec11 rec22 σ x5 x6 x7) else (fL_leaves_60 N rec11 rec22 σ x5 x6 x7 1)))))) else (fL_leaves_59 N rec11 rec22 σ x5 x6 x7)))
set_option maxRecDepth 100000 in
set_option maxHeartbeats 4000000 in
theorem wL_leaves_22 {rec11 : (gS × Int32 × Int32) → Option (Int32 × gS)} {x6 : Int32} (hx : p.tables.exec = Jvm.exec) (hb : c.code = cL_leaves) (hr : meth.sig.returnType = (some .int)) (hml : c.maxLocals = 9) (hown : s.vm.findClass RL = some m.cls) (hg : ∀ w ∈ wsL_law, w.before args s = true) (hlocks : meth.locks = false) (hK : gK D y aS s) (hA : ∀ q, s.heap.size ≤ q → A q) (hL : ∀ k, k < 179 → k ∈ L) (hrec11 : ∀ {σ9 : gS} {x5n9 : Int32} {x6n9 : Int32} (H : Heap) (locs : List Loc) (ls : Array Slot), gY D y A s L ad σ9 H locs → lv_has ls 9 [(0, .ref (ad 161)), (1, .ref (ad 163)), (2, .ref (ad 164)), (5, .int x5n9), (6, .int x6n9)] → rec11 (σ9, x5n9, x6n9) = some res → W p l e ({ frames := 0, cells := 0, slots := 0, locals := 0 } : Room) s m args below meth c H locs 0 0 (MQ below (va_Qi (fun (r : Int32) (_ : Unit) => r = res.1) (fun _ => gO D A (GW L y ad res.2)) A) args s 0 0 A) (F0 m 11 ls [])) : ∀ (n : Nat) {σ : gS} {x5 : Int32} {x7 : Int32} (H : Heap) (locs : List Loc) (ls : Array Slot), gY D y A s L ad σ H locs → lv_has ls 9 [(0, .ref (ad 161)), (1, .ref (ad 163)), (2, .ref (ad 164)), (5, .int x5), (6, .int x6), (7, .int x7)] → lp (fL_leaves_22 N rec11 x6) n (σ, x5, x7) = some res → W p l e ({ frames := 0, cells := 0, slots := 0, locals := 0 } : Room) s m args below meth c H locs 0 0 (MQ below (va_Qi (fun (r : Int32) (_ : Unit) => r = res.1) (fun _ => gO D A (GW L y ad res.2)) A) args s 0 0 A) (F0 m 22 ls []) := by
  intro n
  induction n with
  | zero => intro σ x5 x7 H locs ls hY hl h; exact nomatch (show none = some res from h)
  | succ n hrec22 =>
    intro σ x5 x7 H locs ls hY hl h
    replace h : fL_leaves_22 N rec11 x6 (lp (fL_leaves_22 N rec11 x6) n) (σ, x5, x7) = some res := h
    generalize lp (fL_leaves_22 N rec11 x6) n = rec22 at h hrec22
    unfold fL_leaves_22 at h
    try dsimp only at h
    refine lv_iload hx hb dL_leaves_22 (lv_at hl 5 rfl) ?_
    refine lv_aload_n hx hb dL_leaves_24 rfl (lv_at hl 0 rfl) ?_
    refine lv_iconst (v := 0) hx hb dL_leaves_25 (by decide) ?_
    refine G_iald (j := 0) hx hb hK hY (hL 161 (by decide)) gk_161 (by rw [gl_161]; decide +kernel) (by decide +kernel) dL_leaves_26 ?_
    refine lv_icmp_ge (tgt := 100) hx hb dL_leaves_27 (by decide) (fun z_1 => ?_) (fun z_1 => ?_)
    ·
      rw [if_pos z_1] at h
      refine lv_iinc (v := (x6 + 1)) (lv' := [(6, .int (x6 + 1)), (0, .ref (ad 161)), (1, .ref (ad 163)), (2, .ref (ad 164)), (5, .int x5), (7, .int x7)]) hx hb dL_leaves_100 hl (k := 4) rfl rfl (by decide) rfl ?_
      clear hl
      intro ls hl
      refine lv_goto (tgt := 11) hx hb dL_leaves_103 (by decide) ?_
      exact hrec11 _ _ _ hY (lv_sub hl [1, 2, 3, 4, 0] rfl) h
    ·
      rw [if_neg z_1] at h
      refine lv_aload_n hx hb dL_leaves_30 rfl (lv_at hl 2 rfl) ?_
      refine lv_iload hx hb dL_leaves_31 (lv_at hl 5 rfl) ?_
      obtain ⟨z_2, h⟩ := g_guard h
      refine G_iald (j := x7.toNatClampNeg) hx hb hK hY (hL 164 (by decide)) gk_164 (by rw [gl_164]; exact z_2) rfl dL_leaves_33 ?_
      refine lv_iconst (v := 1) hx hb dL_leaves_34 (by decide) ?_
      refine lv_icmp_ne (tgt := 59) hx hb dL_leaves_35 (by decide) (fun z_3 => ?_) (fun z_3 => ?_)
      ·
        rw [if_neg z_3] at h
        exact wL_leaves_59 hx hb hr hml hown hg hlocks hK hA hL hrec11 hrec22 hY (lv_sub hl [0, 1, 2, 3, 4, 5] rfl) h
      ·
        rw [if_pos z_3] at h
        refine lv_aload_n hx hb dL_leaves_38 rfl (lv_at hl 1 rfl) ?_
        refine lv_iload hx hb dL_leaves_39 (lv_at hl 5 rfl) ?_
        obtain ⟨z_4, h⟩ := g_guard h
        refine G_iald (j := x7.toNatClampNeg) hx hb hK hY (hL 163 (by decide)) gk_163 (by rw [gl_163]; exact z_4) rfl dL_leaves_41 ?_
        refine lv_if_lt (tgt := 59) hx hb dL_leaves_42 (by decide) (fun z_5 => ?_) (fun z_5 => ?_)
        ·
          rw [if_pos z_5] at h
          exact wL_leaves_59 hx hb hr hml hown hg hlocks hK hA hL hrec11 hrec22 hY (lv_sub hl [0, 1, 2, 3, 4, 5] rfl) h
        ·
          rw [if_neg z_5] at h
          refine lv_aload_n hx hb dL_leaves_45 rfl (lv_at hl 2 rfl) ?_
          refine lv_aload_n hx hb dL_leaves_46 rfl (lv_at hl 1 rfl) ?_
          refine lv_iload hx hb dL_leaves_47 (lv_at hl 5 rfl) ?_
          obtain ⟨z_6, h⟩ := g_guard h
          refine G_iald (j := x7.toNatClampNeg) hx hb hK hY (hL 163 (by decide)) gk_163 (by rw [gl_163]; exact z_6) rfl dL_leaves_49 ?_
          obtain ⟨z_7, h⟩ := g_guard h
          refine G_iald (j := (σ.1 163 x7.toNatClampNeg).toNatClampNeg) hx hb hK hY (hL 164 (by decide)) gk_164 (by rw [gl_164]; exact z_7) rfl dL_leaves_50 ?_
          refine lv_iconst (v := 2) hx hb dL_leaves_51 (by decide) ?_
          refine lv_icmp_le (tgt := 59) hx hb dL_leaves_52 (by decide) (fun z_8 => ?_) (fun z_8 => ?_)
          ·
            rw [if_pos z_8] at h
            exact wL_leaves_59 hx hb hr hml hown hg hlocks hK hA hL hrec11 hrec22 hY (lv_sub hl [0, 1, 2, 3, 4, 5] rfl) h
          ·
            rw [if_neg z_8] at h
            refine lv_iconst (v := 1) hx hb dL_leaves_55 (by decide) ?_
            refine lv_goto (tgt := 60) hx hb dL_leaves_56 (by decide) ?_
            exact wL_leaves_60 hx hb hr hml hown hg hlocks hK hA hL hrec11 hrec22 hY (lv_sub hl [0, 1, 2, 3, 4, 5] rfl) h
def fL_leaves_11 (N : Nat) (rec11 : (gS × Int32 × Int32) → Option (Int32 × gS)) (xx : gS × Int32 × Int32) : Option (Int32 × gS) := match xx with
  | (σ, x5, x6) => if (σ.1 161 0) ≤ x6 then (some (x5, σ)) else (lp (fL_leaves_22 N rec11 x6) N (σ, x5, 0))
set_option maxRecDepth 100000 in
set_option maxHeartbeats 4000000 in
theorem wL_leaves_11 (hx : p.tables.exec = Jvm.exec) (hb : c.code = cL_leaves) (hr : meth.sig.returnType = (some .int)) (hml : c.maxLocals = 9) (hown : s.vm.findClass RL = some m.cls) (hg : ∀ w ∈ wsL_law, w.before args s = true) (hlocks : meth.locks = false) (hK : gK D y aS s) (hA : ∀ q, s.heap.size ≤ q → A q) (hL : ∀ k, k < 179 → k ∈ L) : ∀ (n : Nat) {σ : gS} {x5 : Int32} {x6 : Int32} (H : Heap) (locs : List Loc) (ls : Array Slot), gY D y A s L ad σ H locs → lv_has ls 9 [(0, .ref (ad 161)), (1, .ref (ad 163)), (2, .ref (ad 164)), (5, .int x5), (6, .int x6)] → lp (fL_leaves_11 N) n (σ, x5, x6) = some res → W p l e ({ frames := 0, cells := 0, slots := 0, locals := 0 } : Room) s m args below meth c H locs 0 0 (MQ below (va_Qi (fun (r : Int32) (_ : Unit) => r = res.1) (fun _ => gO D A (GW L y ad res.2)) A) args s 0 0 A) (F0 m 11 ls []) := by
  intro n
  induction n with
  | zero => intro σ x5 x6 H locs ls hY hl h; exact nomatch (show none = some res from h)
  | succ n hrec11 =>
    intro σ x5 x6 H locs ls hY hl h
    replace h : fL_leaves_11 N (lp (fL_leaves_11 N) n) (σ, x5, x6) = some res := h
    generalize lp (fL_leaves_11 N) n = rec11 at h hrec11
    unfold fL_leaves_11 at h
    try dsimp only at h
    refine lv_iload hx hb dL_leaves_11 (lv_at hl 4 rfl) ?_
    refine lv_aload_n hx hb dL_leaves_13 rfl (lv_at hl 0 rfl) ?_
    refine lv_iconst (v := 0) hx hb dL_leaves_14 (by decide) ?_
    refine G_iald (j := 0) hx hb hK hY (hL 161 (by decide)) gk_161 (by rw [gl_161]; decide +kernel) (by decide +kernel) dL_leaves_15 ?_
    refine lv_icmp_ge (tgt := 106) hx hb dL_leaves_16 (by decide) (fun z_1 => ?_) (fun z_1 => ?_)
    ·
      rw [if_pos z_1] at h
      refine lv_iload hx hb dL_leaves_106 (lv_at hl 3 rfl) ?_
      cases h
      exact g_iret hx hb hr hlocks () hY.1 hY.2.1 hY.2.2 rfl rfl (Nat.le_of_ble_eq_true rfl) (Nat.le_of_ble_eq_true rfl) dL_leaves_108
    ·
      rw [if_neg z_1] at h
      refine lv_iconst (v := 0) hx hb dL_leaves_19 (by decide) ?_
      refine lv_istore (lv' := [(7, .int 0), (0, .ref (ad 161)), (1, .ref (ad 163)), (2, .ref (ad 164)), (5, .int x5), (6, .int x6)]) hx hb dL_leaves_20 hl (by decide) rfl ?_
      clear hl
      intro ls hl
      exact wL_leaves_22 hx hb hr hml hown hg hlocks hK hA hL hrec11 N _ _ _ hY (lv_sub hl [1, 2, 3, 4, 5, 0] rfl) h
end
def fL_leaves (N : Nat) (σ : gS) (x3 : Int32) (x4 : Int32) : Option (Int32 × gS) := if x3 < 0 ∨ 24 ≤ x3.toNatClampNeg then none else (lp (fL_leaves_11 N) N ((sI σ 164 x3.toNatClampNeg x4), 1, 0))
set_option maxRecDepth 100000 in
set_option maxHeartbeats 4000000 in
theorem kL_leaves (l : Launch) (D : va_G) (y : Nat → ClassId) (aS : Nat → Nat) (sz : Nat) (L : List Nat) (hL : ∀ k, k < 179 → k ∈ L) (ad : Nat → Nat) (N : Nat) (σ : gS) (x3 : Int32) (x4 : Int32) (res : (Int32 × gS)) (h : fL_leaves N σ x3 x4 = some res) : Met l yL_leaves (Cond.code yL_leaves cL_leaves 9 (some .int) :: wsL_law) ({ frames := 0, cells := 0, slots := 0, locals := 0 } : Room) (va_Pc [.ref (ad 161), .ref (ad 163), .ref (ad 164), .int x3, .int x4] (gI D y aS (GW L y ad σ) sz)) (va_Qi (fun (r : Int32) (_ : Unit) => r = res.1) (fun _ => gO D (va_A (GW L y ad σ) sz) (GW L y ad res.2)) (va_A (GW L y ad σ) sz)) 0 0 (va_A (GW L y ad σ) sz) := by
  refine g_of (by decide) (Nat.le_of_ble_eq_true rfl) ?_
  intro p e s m below meth c ls A hx hb hr hml hown hg hlocks hin hsz hK hP hD hS hA hAe hl
  rw [← hAe]
  replace hown : s.vm.findClass RL = some m.cls := hown
  have hY : gY D y A s L ad σ s.heap [] := ⟨hP, hD, hS⟩
  clear hP hD hS
  replace hl : lv_has ls 9 [(0, .ref (ad 161)), (1, .ref (ad 163)), (2, .ref (ad 164)), (3, .int x3), (4, .int x4)] := hl
  unfold fL_leaves at h
  refine lv_aload_n hx hb dL_leaves_0 rfl (lv_at hl 2 rfl) ?_
  refine lv_iload_n hx hb dL_leaves_1 rfl (lv_at hl 3 rfl) ?_
  refine lv_iload hx hb dL_leaves_2 (lv_at hl 4 rfl) ?_
  obtain ⟨z_1, h⟩ := g_guard h
  refine G_iast (j := x3.toNatClampNeg) hx hb hK hY (hL 164 (by decide)) gk_164 (by rw [gl_164]; exact z_1) rfl dL_leaves_4 ?_
  clear hY
  intro H locs hY
  refine lv_iconst (v := 1) hx hb dL_leaves_5 (by decide) ?_
  refine lv_istore (lv' := [(5, .int 1), (0, .ref (ad 161)), (1, .ref (ad 163)), (2, .ref (ad 164)), (3, .int x3), (4, .int x4)]) hx hb dL_leaves_6 hl (by decide) rfl ?_
  clear hl
  intro ls hl
  refine lv_iconst (v := 0) hx hb dL_leaves_8 (by decide) ?_
  refine lv_istore (lv' := [(6, .int 0), (5, .int 1), (0, .ref (ad 161)), (1, .ref (ad 163)), (2, .ref (ad 164)), (3, .int x3), (4, .int x4)]) hx hb dL_leaves_9 hl (by decide) rfl ?_
  clear hl
  intro ls hl
  exact wL_leaves_11 hx hb hr hml hown hg hlocks hK hA hL N _ _ _ hY (lv_sub hl [2, 3, 4, 1, 0] rfl) h
theorem ggS_RL_106_L_fails : GoodIn wsL_law (va_wsS RL 106 yL_fails (Cond.code yL_fails cL_fails 10 (some .boolean) :: wsL_law)) := g_gi (fun _ h => h) gW_good (List.forall_mem_cons.mpr ⟨⟨gw_713, rfl⟩, List.forall_mem_cons.mpr ⟨⟨gw_714, rfl⟩, List.forall_mem_cons.mpr ⟨⟨gw_162, rfl⟩, fun _ h => nomatch h⟩⟩⟩) ⟨gw_715, rfl⟩
section
variable {p : Program} {l : Launch} {e : Env} {s : State} {m : MethodId} {args : Array Value} {below : List Frame} {meth : Method} {c : Code} {D : va_G} {y : Nat → ClassId} {aS : Nat → Nat} {A : Nat → Prop} {L : List Nat} {ad : Nat → Nat} {N : Nat} {res : gS}
def fL_tells_324 (N : Nat) (rec3 : (gS × Int32) → Option gS) (σ : gS) (x6 : Int32) : Option gS := rec3 (σ, (x6 + 1))
set_option maxRecDepth 100000 in
set_option maxHeartbeats 4000000 in
theorem wL_tells_324 {rec3 : (gS × Int32) → Option gS} {σ : gS} {x6 : Int32} (hx : p.tables.exec = Jvm.exec) (hb : c.code = cL_tells) (hr : meth.sig.returnType = none) (hml : c.maxLocals = 14) (hown : s.vm.findClass RL = some m.cls) (hg : ∀ w ∈ wsL_law, w.before args s = true) (hlocks : meth.locks = false) (hK : gK D y aS s) (hA : ∀ q, s.heap.size ≤ q → A q) (hL : ∀ k, k < 179 → k ∈ L) (hrec3 : ∀ {σ9 : gS} {x6n9 : Int32} (H : Heap) (locs : List Loc) (ls : Array Slot), gY D y A s L ad σ9 H locs → lv_has ls 14 [(0, .ref (ad 161)), (1, .ref (ad 172)), (2, .ref (ad 174)), (3, .ref (ad 175)), (4, .ref (ad 176)), (5, .ref (ad 177)), (6, .int x6n9)] → rec3 (σ9, x6n9) = some res → W p l e ({ frames := 2, cells := 0, slots := 0, locals := 51 } : Room) s m args below meth c H locs 0 0 (MQ below (va_Qv (fun (_ : Unit) => True) (fun _ => gO D A (GW L y ad res)) A) args s 0 0 A) (F0 m 3 ls [])) {H : Heap} {locs : List Loc} {ls : Array Slot} (hY : gY D y A s L ad σ H locs) (hl : lv_has ls 14 [(0, .ref (ad 161)), (1, .ref (ad 172)), (2, .ref (ad 174)), (3, .ref (ad 175)), (4, .ref (ad 176)), (5, .ref (ad 177)), (6, .int x6)]) (h : fL_tells_324 N rec3 σ x6 = some res) : W p l e ({ frames := 2, cells := 0, slots := 0, locals := 51 } : Room) s m args below meth c H locs 0 0 (MQ below (va_Qv (fun (_ : Unit) => True) (fun _ => gO D A (GW L y ad res)) A) args s 0 0 A) (F0 m 324 ls []) := by
  unfold fL_tells_324 at h
  refine lv_iinc (v := (x6 + 1)) (lv' := [(6, .int (x6 + 1)), (0, .ref (ad 161)), (1, .ref (ad 172)), (2, .ref (ad 174)), (3, .ref (ad 175)), (4, .ref (ad 176)), (5, .ref (ad 177))]) hx hb dL_tells_324 hl (k := 6) rfl rfl (by decide) rfl ?_
  clear hl
  intro ls hl
  refine lv_goto (tgt := 3) hx hb dL_tells_327 (by decide) ?_
  exact hrec3 _ _ _ hY (lv_sub hl [1, 2, 3, 4, 5, 6, 0] rfl) h
def fL_tells_297 (N : Nat) (rec3 : (gS × Int32) → Option gS) (σ : gS) (x6 : Int32) (x9 : Int32) (x11 : Int32) (x13 : Int32) (xs0 : Int32) (xs1 : Int32) : Option gS := if xs1 < 0 ∨ 48 ≤ xs1.toNatClampNeg then none else (if x9 < 0 ∨ 64 ≤ x9.toNatClampNeg then none else (if x9 < 0 ∨ 64 ≤ x9.toNatClampNeg then none else (fL_tells_324 N rec3 (sI (sI σ 172 xs1.toNatClampNeg xs0) 175 x9.toNatClampNeg ((x13 + (4 * (((((sI σ 172 xs1.toNatClampNeg xs0).1 175 x9.toNatClampNeg) / 4) - (((sI σ 172 xs1.toNatClampNeg xs0).1 175 x9.toNatClampNeg) / 4) / 16 * 16) + 1))) + (64 * x11))) x6)))
set_option maxRecDepth 100000 in
set_option maxHeartbeats 4000000 in
theorem wL_tells_297 {rec3 : (gS × Int32) → Option gS} {σ : gS} {x6 : Int32} {x9 : Int32} {x11 : Int32} {x13 : Int32} {xs0 : Int32} {xs1 : Int32} (hx : p.tables.exec = Jvm.exec) (hb : c.code = cL_tells) (hr : meth.sig.returnType = none) (hml : c.maxLocals = 14) (hown : s.vm.findClass RL = some m.cls) (hg : ∀ w ∈ wsL_law, w.before args s = true) (hlocks : meth.locks = false) (hK : gK D y aS s) (hA : ∀ q, s.heap.size ≤ q → A q) (hL : ∀ k, k < 179 → k ∈ L) (hrec3 : ∀ {σ9 : gS} {x6n9 : Int32} (H : Heap) (locs : List Loc) (ls : Array Slot), gY D y A s L ad σ9 H locs → lv_has ls 14 [(0, .ref (ad 161)), (1, .ref (ad 172)), (2, .ref (ad 174)), (3, .ref (ad 175)), (4, .ref (ad 176)), (5, .ref (ad 177)), (6, .int x6n9)] → rec3 (σ9, x6n9) = some res → W p l e ({ frames := 2, cells := 0, slots := 0, locals := 51 } : Room) s m args below meth c H locs 0 0 (MQ below (va_Qv (fun (_ : Unit) => True) (fun _ => gO D A (GW L y ad res)) A) args s 0 0 A) (F0 m 3 ls [])) {H : Heap} {locs : List Loc} {ls : Array Slot} (hY : gY D y A s L ad σ H locs) (hl : lv_has ls 14 [(0, .ref (ad 161)), (1, .ref (ad 172)), (2, .ref (ad 174)), (3, .ref (ad 175)), (4, .ref (ad 176)), (5, .ref (ad 177)), (6, .int x6), (9, .int x9), (11, .int x11), (13, .int x13)]) (h : fL_tells_297 N rec3 σ x6 x9 x11 x13 xs0 xs1 = some res) : W p l e ({ frames := 2, cells := 0, slots := 0, locals := 51 } : Room) s m args below meth c H locs 0 0 (MQ below (va_Qv (fun (_ : Unit) => True) (fun _ => gO D A (GW L y ad res)) A) args s 0 0 A) (F0 m 297 ls [.int xs0, .int xs1, .ref (ad 172)]) := by
  unfold fL_tells_297 at h
  obtain ⟨z_1, h⟩ := g_guard h
  refine G_iast (j := xs1.toNatClampNeg) hx hb hK hY (hL 172 (by decide)) gk_172 (by rw [gl_172]; exact z_1) rfl dL_tells_297 ?_
  clear hY
  intro H locs hY
  refine lv_aload_n hx hb dL_tells_298 rfl (lv_at hl 3 rfl) ?_
  refine lv_iload hx hb dL_tells_299 (lv_at hl 7 rfl) ?_
  refine lv_iload hx hb dL_tells_301 (lv_at hl 9 rfl) ?_
  refine lv_iconst (v := 4) hx hb dL_tells_303 (by decide) ?_
  refine lv_aload_n hx hb dL_tells_304 rfl (lv_at hl 3 rfl) ?_
  refine lv_iload hx hb dL_tells_305 (lv_at hl 7 rfl) ?_
  obtain ⟨z_2, h⟩ := g_guard h
  refine G_iald (j := x9.toNatClampNeg) hx hb hK hY (hL 175 (by decide)) gk_175 (by rw [gl_175]; exact z_2) rfl dL_tells_307 ?_
  refine lv_iconst (v := 4) hx hb dL_tells_308 (by decide) ?_
  refine lv_idiv hx hb dL_tells_309 (by decide +kernel) ?_
  refine lv_bipush (v := 16) hx hb dL_tells_310 (by decide +kernel) ?_
  refine lv_irem hx hb dL_tells_312 (by decide +kernel) ?_
  refine lv_iconst (v := 1) hx hb dL_tells_313 (by decide) ?_
  refine lv_iadd hx hb dL_tells_314 ?_
  refine lv_imul hx hb dL_tells_315 ?_
  refine lv_iadd hx hb dL_tells_316 ?_
  refine lv_bipush (v := 64) hx hb dL_tells_317 (by decide +kernel) ?_
  refine lv_iload hx hb dL_tells_319 (lv_at hl 8 rfl) ?_
  refine lv_imul hx hb dL_tells_321 ?_
  refine lv_iadd hx hb dL_tells_322 ?_
  obtain ⟨z_3, h⟩ := g_guard h
  refine G_iast (j := x9.toNatClampNeg) hx hb hK hY (hL 175 (by decide)) gk_175 (by rw [gl_175]; exact z_3) rfl dL_tells_323 ?_
  clear hY
  intro H locs hY
  exact wL_tells_324 hx hb hr hml hown hg hlocks hK hA hL hrec3 hY (lv_sub hl [0, 1, 2, 3, 4, 5, 6] rfl) h
def fL_tells_287 (N : Nat) (rec3 : (gS × Int32) → Option gS) (σ : gS) (x6 : Int32) (x8 : Int32) (x9 : Int32) (x11 : Int32) (x13 : Int32) (xs0 : Int32) : Option gS := if ((12 * x8) + 6) < 0 ∨ 48 ≤ ((12 * x8) + 6).toNatClampNeg then none else (fL_tells_297 N rec3 σ x6 x9 x11 x13 (σ.1 172 (((12 * x8) + 6).toNatClampNeg)) xs0)
set_option maxRecDepth 100000 in
set_option maxHeartbeats 4000000 in
theorem wL_tells_287 {rec3 : (gS × Int32) → Option gS} {σ : gS} {x6 : Int32} {x8 : Int32} {x9 : Int32} {x11 : Int32} {x13 : Int32} {xs0 : Int32} (hx : p.tables.exec = Jvm.exec) (hb : c.code = cL_tells) (hr : meth.sig.returnType = none) (hml : c.maxLocals = 14) (hown : s.vm.findClass RL = some m.cls) (hg : ∀ w ∈ wsL_law, w.before args s = true) (hlocks : meth.locks = false) (hK : gK D y aS s) (hA : ∀ q, s.heap.size ≤ q → A q) (hL : ∀ k, k < 179 → k ∈ L) (hrec3 : ∀ {σ9 : gS} {x6n9 : Int32} (H : Heap) (locs : List Loc) (ls : Array Slot), gY D y A s L ad σ9 H locs → lv_has ls 14 [(0, .ref (ad 161)), (1, .ref (ad 172)), (2, .ref (ad 174)), (3, .ref (ad 175)), (4, .ref (ad 176)), (5, .ref (ad 177)), (6, .int x6n9)] → rec3 (σ9, x6n9) = some res → W p l e ({ frames := 2, cells := 0, slots := 0, locals := 51 } : Room) s m args below meth c H locs 0 0 (MQ below (va_Qv (fun (_ : Unit) => True) (fun _ => gO D A (GW L y ad res)) A) args s 0 0 A) (F0 m 3 ls [])) {H : Heap} {locs : List Loc} {ls : Array Slot} (hY : gY D y A s L ad σ H locs) (hl : lv_has ls 14 [(0, .ref (ad 161)), (1, .ref (ad 172)), (2, .ref (ad 174)), (3, .ref (ad 175)), (4, .ref (ad 176)), (5, .ref (ad 177)), (6, .int x6), (8, .int x8), (9, .int x9), (11, .int x11), (13, .int x13)]) (h : fL_tells_287 N rec3 σ x6 x8 x9 x11 x13 xs0 = some res) : W p l e ({ frames := 2, cells := 0, slots := 0, locals := 51 } : Room) s m args below meth c H locs 0 0 (MQ below (va_Qv (fun (_ : Unit) => True) (fun _ => gO D A (GW L y ad res)) A) args s 0 0 A) (F0 m 287 ls [.int xs0, .ref (ad 172)]) := by
  unfold fL_tells_287 at h
  refine lv_aload_n hx hb dL_tells_287 rfl (lv_at hl 1 rfl) ?_
  refine lv_bipush (v := 12) hx hb dL_tells_288 (by decide +kernel) ?_
  refine lv_iload hx hb dL_tells_290 (lv_at hl 7 rfl) ?_
  refine lv_imul hx hb dL_tells_292 ?_
  refine lv_bipush (v := 6) hx hb dL_tells_293 (by decide +kernel) ?_
  refine lv_iadd hx hb dL_tells_295 ?_
  obtain ⟨z_1, h⟩ := g_guard h
  refine G_iald (j := ((12 * x8) + 6).toNatClampNeg) hx hb hK hY (hL 172 (by decide)) gk_172 (by rw [gl_172]; exact z_1) rfl dL_tells_296 ?_
  exact wL_tells_297 hx hb hr hml hown hg hlocks hK hA hL hrec3 hY (lv_sub hl [0, 1, 2, 3, 4, 5, 6, 8, 9, 10] rfl) h
def fL_tells_254 (N : Nat) (rec3 : (gS × Int32) → Option gS) (σ : gS) (x6 : Int32) (x8 : Int32) (x9 : Int32) (x11 : Int32) (x12 : Int32) (xs0 : Int32) : Option gS := if x12 = 0 then (fL_tells_287 N rec3 σ x6 x8 x9 x11 xs0 ((12 * x8) + 6)) else (if ((12 * x8) + 5) < 0 ∨ 48 ≤ ((12 * x8) + 5).toNatClampNeg then none else (if (σ.1 172 (((12 * x8) + 5).toNatClampNeg)) ≤ 1 then (fL_tells_287 N rec3 σ x6 x8 x9 x11 xs0 ((12 * x8) + 6)) else (fL_tells_297 N rec3 σ x6 x9 x11 xs0 1 ((12 * x8) + 6))))
set_option maxRecDepth 100000 in
set_option maxHeartbeats 4000000 in
theorem wL_tells_254 {rec3 : (gS × Int32) → Option gS} {σ : gS} {x6 : Int32} {x8 : Int32} {x9 : Int32} {x11 : Int32} {x12 : Int32} {xs0 : Int32} (hx : p.tables.exec = Jvm.exec) (hb : c.code = cL_tells) (hr : meth.sig.returnType = none) (hml : c.maxLocals = 14) (hown : s.vm.findClass RL = some m.cls) (hg : ∀ w ∈ wsL_law, w.before args s = true) (hlocks : meth.locks = false) (hK : gK D y aS s) (hA : ∀ q, s.heap.size ≤ q → A q) (hL : ∀ k, k < 179 → k ∈ L) (hrec3 : ∀ {σ9 : gS} {x6n9 : Int32} (H : Heap) (locs : List Loc) (ls : Array Slot), gY D y A s L ad σ9 H locs → lv_has ls 14 [(0, .ref (ad 161)), (1, .ref (ad 172)), (2, .ref (ad 174)), (3, .ref (ad 175)), (4, .ref (ad 176)), (5, .ref (ad 177)), (6, .int x6n9)] → rec3 (σ9, x6n9) = some res → W p l e ({ frames := 2, cells := 0, slots := 0, locals := 51 } : Room) s m args below meth c H locs 0 0 (MQ below (va_Qv (fun (_ : Unit) => True) (fun _ => gO D A (GW L y ad res)) A) args s 0 0 A) (F0 m 3 ls [])) {H : Heap} {locs : List Loc} {ls : Array Slot} (hY : gY D y A s L ad σ H locs) (hl : lv_has ls 14 [(0, .ref (ad 161)), (1, .ref (ad 172)), (2, .ref (ad 174)), (3, .ref (ad 175)), (4, .ref (ad 176)), (5, .ref (ad 177)), (6, .int x6), (8, .int x8), (9, .int x9), (11, .int x11), (12, .int x12)]) (h : fL_tells_254 N rec3 σ x6 x8 x9 x11 x12 xs0 = some res) : W p l e ({ frames := 2, cells := 0, slots := 0, locals := 51 } : Room) s m args below meth c H locs 0 0 (MQ below (va_Qv (fun (_ : Unit) => True) (fun _ => gO D A (GW L y ad res)) A) args s 0 0 A) (F0 m 254 ls [.int xs0]) := by
  unfold fL_tells_254 at h
  refine lv_istore (lv' := [(13, .int xs0), (0, .ref (ad 161)), (1, .ref (ad 172)), (2, .ref (ad 174)), (3, .ref (ad 175)), (4, .ref (ad 176)), (5, .ref (ad 177)), (6, .int x6), (8, .int x8), (9, .int x9), (11, .int x11), (12, .int x12)]) hx hb dL_tells_254 hl (by decide) rfl ?_
  clear hl
  intro ls hl
  refine lv_aload_n hx hb dL_tells_256 rfl (lv_at hl 2 rfl) ?_
  refine lv_bipush (v := 12) hx hb dL_tells_257 (by decide +kernel) ?_
  refine lv_iload hx hb dL_tells_259 (lv_at hl 8 rfl) ?_
  refine lv_imul hx hb dL_tells_261 ?_
  refine lv_bipush (v := 6) hx hb dL_tells_262 (by decide +kernel) ?_
  refine lv_iadd hx hb dL_tells_264 ?_
  refine lv_iload hx hb dL_tells_265 (lv_at hl 11 rfl) ?_
  refine lv_if_eq (tgt := 287) hx hb dL_tells_267 (by decide) (fun z_1 => ?_) (fun z_1 => ?_)
  ·
    rw [if_pos z_1] at h
    exact wL_tells_287 hx hb hr hml hown hg hlocks hK hA hL hrec3 hY (lv_sub hl [1, 2, 3, 4, 5, 6, 7, 8, 9, 10, 0] rfl) h
  ·
    rw [if_neg z_1] at h
    refine lv_aload_n hx hb dL_tells_270 rfl (lv_at hl 2 rfl) ?_
    refine lv_bipush (v := 12) hx hb dL_tells_271 (by decide +kernel) ?_
    refine lv_iload hx hb dL_tells_273 (lv_at hl 8 rfl) ?_
    refine lv_imul hx hb dL_tells_275 ?_
    refine lv_iconst (v := 5) hx hb dL_tells_276 (by decide) ?_
    refine lv_iadd hx hb dL_tells_277 ?_
    obtain ⟨z_2, h⟩ := g_guard h
    refine G_iald (j := ((12 * x8) + 5).toNatClampNeg) hx hb hK hY (hL 172 (by decide)) gk_172 (by rw [gl_172]; exact z_2) rfl dL_tells_278 ?_
    refine lv_iconst (v := 1) hx hb dL_tells_279 (by decide) ?_
    refine lv_icmp_le (tgt := 287) hx hb dL_tells_280 (by decide) (fun z_3 => ?_) (fun z_3 => ?_)
    ·
      rw [if_pos z_3] at h
      exact wL_tells_287 hx hb hr hml hown hg hlocks hK hA hL hrec3 hY (lv_sub hl [1, 2, 3, 4, 5, 6, 7, 8, 9, 10, 0] rfl) h
    ·
      rw [if_neg z_3] at h
      refine lv_iconst (v := 1) hx hb dL_tells_283 (by decide) ?_
      refine lv_goto (tgt := 297) hx hb dL_tells_284 (by decide) ?_
      exact wL_tells_297 hx hb hr hml hown hg hlocks hK hA hL hrec3 hY (lv_sub hl [1, 2, 3, 4, 5, 6, 7, 9, 10, 0] rfl) h
def fL_tells_246 (N : Nat) (rec3 : (gS × Int32) → Option gS) (σ : gS) (x6 : Int32) (x8 : Int32) (x9 : Int32) (x11 : Int32) (x12 : Int32) (xs0 : Int32) (xs1 : Int32) : Option gS := if xs1 < xs0 then (fL_tells_254 N rec3 σ x6 x8 x9 x11 x12 0) else (fL_tells_254 N rec3 σ x6 x8 x9 x11 x12 2)
set_option maxRecDepth 100000 in
set_option maxHeartbeats 4000000 in
theorem wL_tells_246 {rec3 : (gS × Int32) → Option gS} {σ : gS} {x6 : Int32} {x8 : Int32} {x9 : Int32} {x11 : Int32} {x12 : Int32} {xs0 : Int32} {xs1 : Int32} (hx : p.tables.exec = Jvm.exec) (hb : c.code = cL_tells) (hr : meth.sig.returnType = none) (hml : c.maxLocals = 14) (hown : s.vm.findClass RL = some m.cls) (hg : ∀ w ∈ wsL_law, w.before args s = true) (hlocks : meth.locks = false) (hK : gK D y aS s) (hA : ∀ q, s.heap.size ≤ q → A q) (hL : ∀ k, k < 179 → k ∈ L) (hrec3 : ∀ {σ9 : gS} {x6n9 : Int32} (H : Heap) (locs : List Loc) (ls : Array Slot), gY D y A s L ad σ9 H locs → lv_has ls 14 [(0, .ref (ad 161)), (1, .ref (ad 172)), (2, .ref (ad 174)), (3, .ref (ad 175)), (4, .ref (ad 176)), (5, .ref (ad 177)), (6, .int x6n9)] → rec3 (σ9, x6n9) = some res → W p l e ({ frames := 2, cells := 0, slots := 0, locals := 51 } : Room) s m args below meth c H locs 0 0 (MQ below (va_Qv (fun (_ : Unit) => True) (fun _ => gO D A (GW L y ad res)) A) args s 0 0 A) (F0 m 3 ls [])) {H : Heap} {locs : List Loc} {ls : Array Slot} (hY : gY D y A s L ad σ H locs) (hl : lv_has ls 14 [(0, .ref (ad 161)), (1, .ref (ad 172)), (2, .ref (ad 174)), (3, .ref (ad 175)), (4, .ref (ad 176)), (5, .ref (ad 177)), (6, .int x6), (8, .int x8), (9, .int x9), (11, .int x11), (12, .int x12)]) (h : fL_tells_246 N rec3 σ x6 x8 x9 x11 x12 xs0 xs1 = some res) : W p l e ({ frames := 2, cells := 0, slots := 0, locals := 51 } : Room) s m args below meth c H locs 0 0 (MQ below (va_Qv (fun (_ : Unit) => True) (fun _ => gO D A (GW L y ad res)) A) args s 0 0 A) (F0 m 246 ls [.int xs0, .int xs1]) := by
  unfold fL_tells_246 at h
  refine lv_icmp_lt (tgt := 253) hx hb dL_tells_246 (by decide) (fun z_1 => ?_) (fun z_1 => ?_)
  ·
    rw [if_pos z_1] at h
    refine lv_iconst (v := 0) hx hb dL_tells_253 (by decide) ?_
    exact wL_tells_254 hx hb hr hml hown hg hlocks hK hA hL hrec3 hY (lv_sub hl [0, 1, 2, 3, 4, 5, 6, 7, 8, 9, 10] rfl) h
  ·
    rw [if_neg z_1] at h
    refine lv_iconst (v := 2) hx hb dL_tells_249 (by decide) ?_
    refine lv_goto (tgt := 254) hx hb dL_tells_250 (by decide) ?_
    exact wL_tells_254 hx hb hr hml hown hg hlocks hK hA hL hrec3 hY (lv_sub hl [0, 1, 2, 3, 4, 5, 6, 7, 8, 9, 10] rfl) h
def fL_tells_214 (N : Nat) (rec3 : (gS × Int32) → Option gS) (σ : gS) (x6 : Int32) (x8 : Int32) (x9 : Int32) (x10 : Int32) (x11 : Int32) (x12 : Int32) (xs0 : Int32) (xs1 : Int32) (xs2 : Int32) : Option gS := if xs2 < 0 ∨ 48 ≤ xs2.toNatClampNeg then none else (if x10 = 0 then (fL_tells_254 N rec3 (sI σ 172 xs2.toNatClampNeg (xs1 + xs0)) x6 x8 x9 x11 x12 1) else (if ((12 * x8) + 6) < 0 ∨ 48 ≤ ((12 * x8) + 6).toNatClampNeg then none else (if ((sI σ 172 xs2.toNatClampNeg (xs1 + xs0)).1 172 (((12 * x8) + 6).toNatClampNeg)) = 1 then (fL_tells_246 N rec3 (sI σ 172 xs2.toNatClampNeg (xs1 + xs0)) x6 x8 x9 x11 x12 5 x11) else (fL_tells_246 N rec3 (sI σ 172 xs2.toNatClampNeg (xs1 + xs0)) x6 x8 x9 x11 x12 2 x11))))
set_option maxRecDepth 100000 in
set_option maxHeartbeats 4000000 in
theorem wL_tells_214 {rec3 : (gS × Int32) → Option gS} {σ : gS} {x6 : Int32} {x8 : Int32} {x9 : Int32} {x10 : Int32} {x11 : Int32} {x12 : Int32} {xs0 : Int32} {xs1 : Int32} {xs2 : Int32} (hx : p.tables.exec = Jvm.exec) (hb : c.code = cL_tells) (hr : meth.sig.returnType = none) (hml : c.maxLocals = 14) (hown : s.vm.findClass RL = some m.cls) (hg : ∀ w ∈ wsL_law, w.before args s = true) (hlocks : meth.locks = false) (hK : gK D y aS s) (hA : ∀ q, s.heap.size ≤ q → A q) (hL : ∀ k, k < 179 → k ∈ L) (hrec3 : ∀ {σ9 : gS} {x6n9 : Int32} (H : Heap) (locs : List Loc) (ls : Array Slot), gY D y A s L ad σ9 H locs → lv_has ls 14 [(0, .ref (ad 161)), (1, .ref (ad 172)), (2, .ref (ad 174)), (3, .ref (ad 175)), (4, .ref (ad 176)), (5, .ref (ad 177)), (6, .int x6n9)] → rec3 (σ9, x6n9) = some res → W p l e ({ frames := 2, cells := 0, slots := 0, locals := 51 } : Room) s m args below meth c H locs 0 0 (MQ below (va_Qv (fun (_ : Unit) => True) (fun _ => gO D A (GW L y ad res)) A) args s 0 0 A) (F0 m 3 ls [])) {H : Heap} {locs : List Loc} {ls : Array Slot} (hY : gY D y A s L ad σ H locs) (hl : lv_has ls 14 [(0, .ref (ad 161)), (1, .ref (ad 172)), (2, .ref (ad 174)), (3, .ref (ad 175)), (4, .ref (ad 176)), (5, .ref (ad 177)), (6, .int x6), (8, .int x8), (9, .int x9), (10, .int x10), (11, .int x11), (12, .int x12)]) (h : fL_tells_214 N rec3 σ x6 x8 x9 x10 x11 x12 xs0 xs1 xs2 = some res) : W p l e ({ frames := 2, cells := 0, slots := 0, locals := 51 } : Room) s m args below meth c H locs 0 0 (MQ below (va_Qv (fun (_ : Unit) => True) (fun _ => gO D A (GW L y ad res)) A) args s 0 0 A) (F0 m 214 ls [.int xs0, .int xs1, .int xs2, .ref (ad 172)]) := by
  unfold fL_tells_214 at h
  refine lv_iadd hx hb dL_tells_214 ?_
  obtain ⟨z_1, h⟩ := g_guard h
  refine G_iast (j := xs2.toNatClampNeg) hx hb hK hY (hL 172 (by decide)) gk_172 (by rw [gl_172]; exact z_1) rfl dL_tells_215 ?_
  clear hY
  intro H locs hY
  refine lv_iload hx hb dL_tells_216 (lv_at hl 9 rfl) ?_
  refine lv_if_ne (tgt := 225) hx hb dL_tells_218 (by decide) (fun z_2 => ?_) (fun z_2 => ?_)
  ·
    rw [if_neg z_2] at h
    refine lv_iload hx hb dL_tells_225 (lv_at hl 10 rfl) ?_
    refine lv_aload_n hx hb dL_tells_227 rfl (lv_at hl 1 rfl) ?_
    refine lv_bipush (v := 12) hx hb dL_tells_228 (by decide +kernel) ?_
    refine lv_iload hx hb dL_tells_230 (lv_at hl 7 rfl) ?_
    refine lv_imul hx hb dL_tells_232 ?_
    refine lv_bipush (v := 6) hx hb dL_tells_233 (by decide +kernel) ?_
    refine lv_iadd hx hb dL_tells_235 ?_
    obtain ⟨z_3, h⟩ := g_guard h
    refine G_iald (j := ((12 * x8) + 6).toNatClampNeg) hx hb hK hY (hL 172 (by decide)) gk_172 (by rw [gl_172]; exact z_3) rfl dL_tells_236 ?_
    refine lv_iconst (v := 1) hx hb dL_tells_237 (by decide) ?_
    refine lv_icmp_ne (tgt := 245) hx hb dL_tells_238 (by decide) (fun z_4 => ?_) (fun z_4 => ?_)
    ·
      rw [if_neg z_4] at h
      refine lv_iconst (v := 2) hx hb dL_tells_245 (by decide) ?_
      exact wL_tells_246 hx hb hr hml hown hg hlocks hK hA hL hrec3 hY (lv_sub hl [0, 1, 2, 3, 4, 5, 6, 7, 8, 10, 11] rfl) h
    ·
      rw [if_pos z_4] at h
      refine lv_iconst (v := 5) hx hb dL_tells_241 (by decide) ?_
      refine lv_goto (tgt := 246) hx hb dL_tells_242 (by decide) ?_
      exact wL_tells_246 hx hb hr hml hown hg hlocks hK hA hL hrec3 hY (lv_sub hl [0, 1, 2, 3, 4, 5, 6, 7, 8, 10, 11] rfl) h
  ·
    rw [if_pos z_2] at h
    refine lv_iconst (v := 1) hx hb dL_tells_221 (by decide) ?_
    refine lv_goto (tgt := 254) hx hb dL_tells_222 (by decide) ?_
    exact wL_tells_254 hx hb hr hml hown hg hlocks hK hA hL hrec3 hY (lv_sub hl [0, 1, 2, 3, 4, 5, 6, 7, 8, 10, 11] rfl) h
def fL_tells_192 (N : Nat) (rec3 : (gS × Int32) → Option gS) (σ : gS) (x6 : Int32) (x8 : Int32) (x9 : Int32) (x10 : Int32) (x11 : Int32) (xs0 : Int32) : Option gS := if ((12 * x8) + 5) < 0 ∨ 48 ≤ ((12 * x8) + 5).toNatClampNeg then none else (if xs0 = 0 then (fL_tells_214 N rec3 σ x6 x8 x9 x10 x11 xs0 0 (σ.1 172 (((12 * x8) + 5).toNatClampNeg)) ((12 * x8) + 5)) else (fL_tells_214 N rec3 σ x6 x8 x9 x10 x11 xs0 1 (σ.1 172 (((12 * x8) + 5).toNatClampNeg)) ((12 * x8) + 5)))
set_option maxRecDepth 100000 in
set_option maxHeartbeats 4000000 in
theorem wL_tells_192 {rec3 : (gS × Int32) → Option gS} {σ : gS} {x6 : Int32} {x8 : Int32} {x9 : Int32} {x10 : Int32} {x11 : Int32} {xs0 : Int32} (hx : p.tables.exec = Jvm.exec) (hb : c.code = cL_tells) (hr : meth.sig.returnType = none) (hml : c.maxLocals = 14) (hown : s.vm.findClass RL = some m.cls) (hg : ∀ w ∈ wsL_law, w.before args s = true) (hlocks : meth.locks = false) (hK : gK D y aS s) (hA : ∀ q, s.heap.size ≤ q → A q) (hL : ∀ k, k < 179 → k ∈ L) (hrec3 : ∀ {σ9 : gS} {x6n9 : Int32} (H : Heap) (locs : List Loc) (ls : Array Slot), gY D y A s L ad σ9 H locs → lv_has ls 14 [(0, .ref (ad 161)), (1, .ref (ad 172)), (2, .ref (ad 174)), (3, .ref (ad 175)), (4, .ref (ad 176)), (5, .ref (ad 177)), (6, .int x6n9)] → rec3 (σ9, x6n9) = some res → W p l e ({ frames := 2, cells := 0, slots := 0, locals := 51 } : Room) s m args below meth c H locs 0 0 (MQ below (va_Qv (fun (_ : Unit) => True) (fun _ => gO D A (GW L y ad res)) A) args s 0 0 A) (F0 m 3 ls [])) {H : Heap} {locs : List Loc} {ls : Array Slot} (hY : gY D y A s L ad σ H locs) (hl : lv_has ls 14 [(0, .ref (ad 161)), (1, .ref (ad 172)), (2, .ref (ad 174)), (3, .ref (ad 175)), (4, .ref (ad 176)), (5, .ref (ad 177)), (6, .int x6), (8, .int x8), (9, .int x9), (10, .int x10), (11, .int x11)]) (h : fL_tells_192 N rec3 σ x6 x8 x9 x10 x11 xs0 = some res) : W p l e ({ frames := 2, cells := 0, slots := 0, locals := 51 } : Room) s m args below meth c H locs 0 0 (MQ below (va_Qv (fun (_ : Unit) => True) (fun _ => gO D A (GW L y ad res)) A) args s 0 0 A) (F0 m 192 ls [.int xs0]) := by
  unfold fL_tells_192 at h
  refine lv_istore (lv' := [(12, .int xs0), (0, .ref (ad 161)), (1, .ref (ad 172)), (2, .ref (ad 174)), (3, .ref (ad 175)), (4, .ref (ad 176)), (5, .ref (ad 177)), (6, .int x6), (8, .int x8), (9, .int x9), (10, .int x10), (11, .int x11)]) hx hb dL_tells_192 hl (by decide) rfl ?_
  clear hl
  intro ls hl
  refine lv_aload_n hx hb dL_tells_194 rfl (lv_at hl 2 rfl) ?_
  refine lv_bipush (v := 12) hx hb dL_tells_195 (by decide +kernel) ?_
  refine lv_iload hx hb dL_tells_197 (lv_at hl 8 rfl) ?_
  refine lv_imul hx hb dL_tells_199 ?_
  refine lv_iconst (v := 5) hx hb dL_tells_200 (by decide) ?_
  refine lv_iadd hx hb dL_tells_201 ?_
  refine lv_dup2_11 hx hb dL_tells_202 rfl rfl ?_
  obtain ⟨z_1, h⟩ := g_guard h
  refine G_iald (j := ((12 * x8) + 5).toNatClampNeg) hx hb hK hY (hL 172 (by decide)) gk_172 (by rw [gl_172]; exact z_1) rfl dL_tells_203 ?_
  refine lv_iload hx hb dL_tells_204 (lv_at hl 0 rfl) ?_
  refine lv_if_eq (tgt := 213) hx hb dL_tells_206 (by decide) (fun z_2 => ?_) (fun z_2 => ?_)
  ·
    rw [if_pos z_2] at h
    refine lv_iconst (v := 0) hx hb dL_tells_213 (by decide) ?_
    exact wL_tells_214 hx hb hr hml hown hg hlocks hK hA hL hrec3 hY (lv_sub hl [1, 2, 3, 4, 5, 6, 7, 8, 9, 10, 11, 0] rfl) h
  ·
    rw [if_neg z_2] at h
    refine lv_iconst (v := 1) hx hb dL_tells_209 (by decide) ?_
    refine lv_goto (tgt := 214) hx hb dL_tells_210 (by decide) ?_
    exact wL_tells_214 hx hb hr hml hown hg hlocks hK hA hL hrec3 hY (lv_sub hl [1, 2, 3, 4, 5, 6, 7, 8, 9, 10, 11, 0] rfl) h
def fL_tells_191 (N : Nat) (rec3 : (gS × Int32) → Option gS) (σ : gS) (x6 : Int32) (x8 : Int32) (x9 : Int32) (x10 : Int32) (x11 : Int32) : Option gS := fL_tells_192 N rec3 σ x6 x8 x9 x10 x11 0
set_option maxRecDepth 100000 in
set_option maxHeartbeats 4000000 in
theorem wL_tells_191 {rec3 : (gS × Int32) → Option gS} {σ : gS} {x6 : Int32} {x8 : Int32} {x9 : Int32} {x10 : Int32} {x11 : Int32} (hx : p.tables.exec = Jvm.exec) (hb : c.code = cL_tells) (hr : meth.sig.returnType = none) (hml : c.maxLocals = 14) (hown : s.vm.findClass RL = some m.cls) (hg : ∀ w ∈ wsL_law, w.before args s = true) (hlocks : meth.locks = false) (hK : gK D y aS s) (hA : ∀ q, s.heap.size ≤ q → A q) (hL : ∀ k, k < 179 → k ∈ L) (hrec3 : ∀ {σ9 : gS} {x6n9 : Int32} (H : Heap) (locs : List Loc) (ls : Array Slot), gY D y A s L ad σ9 H locs → lv_has ls 14 [(0, .ref (ad 161)), (1, .ref (ad 172)), (2, .ref (ad 174)), (3, .ref (ad 175)), (4, .ref (ad 176)), (5, .ref (ad 177)), (6, .int x6n9)] → rec3 (σ9, x6n9) = some res → W p l e ({ frames := 2, cells := 0, slots := 0, locals := 51 } : Room) s m args below meth c H locs 0 0 (MQ below (va_Qv (fun (_ : Unit) => True) (fun _ => gO D A (GW L y ad res)) A) args s 0 0 A) (F0 m 3 ls [])) {H : Heap} {locs : List Loc} {ls : Array Slot} (hY : gY D y A s L ad σ H locs) (hl : lv_has ls 14 [(0, .ref (ad 161)), (1, .ref (ad 172)), (2, .ref (ad 174)), (3, .ref (ad 175)), (4, .ref (ad 176)), (5, .ref (ad 177)), (6, .int x6), (8, .int x8), (9, .int x9), (10, .int x10), (11, .int x11)]) (h : fL_tells_191 N rec3 σ x6 x8 x9 x10 x11 = some res) : W p l e ({ frames := 2, cells := 0, slots := 0, locals := 51 } : Room) s m args below meth c H locs 0 0 (MQ below (va_Qv (fun (_ : Unit) => True) (fun _ => gO D A (GW L y ad res)) A) args s 0 0 A) (F0 m 191 ls []) := by
  unfold fL_tells_191 at h
  refine lv_iconst (v := 0) hx hb dL_tells_191 (by decide) ?_
  exact wL_tells_192 hx hb hr hml hown hg hlocks hK hA hL hrec3 hY (lv_sub hl [0, 1, 2, 3, 4, 5, 6, 7, 8, 9, 10] rfl) h
def fL_tells_174 (N : Nat) (rec3 : (gS × Int32) → Option gS) (σ : gS) (x6 : Int32) (x8 : Int32) (x9 : Int32) (x10 : Int32) (xs0 : Int32) (xs1 : Int32) : Option gS := if x10 = 0 then (if (xs1 + xs0) ≤ 0 then (fL_tells_191 N rec3 σ x6 x8 x9 x10 (xs1 + xs0)) else (fL_tells_192 N rec3 σ x6 x8 x9 x10 (xs1 + xs0) 1)) else (fL_tells_191 N rec3 σ x6 x8 x9 x10 (xs1 + xs0))
set_option maxRecDepth 100000 in
set_option maxHeartbeats 4000000 in
theorem wL_tells_174 {rec3 : (gS × Int32) → Option gS} {σ : gS} {x6 : Int32} {x8 : Int32} {x9 : Int32} {x10 : Int32} {xs0 : Int32} {xs1 : Int32} (hx : p.tables.exec = Jvm.exec) (hb : c.code = cL_tells) (hr : meth.sig.returnType = none) (hml : c.maxLocals = 14) (hown : s.vm.findClass RL = some m.cls) (hg : ∀ w ∈ wsL_law, w.before args s = true) (hlocks : meth.locks = false) (hK : gK D y aS s) (hA : ∀ q, s.heap.size ≤ q → A q) (hL : ∀ k, k < 179 → k ∈ L) (hrec3 : ∀ {σ9 : gS} {x6n9 : Int32} (H : Heap) (locs : List Loc) (ls : Array Slot), gY D y A s L ad σ9 H locs → lv_has ls 14 [(0, .ref (ad 161)), (1, .ref (ad 172)), (2, .ref (ad 174)), (3, .ref (ad 175)), (4, .ref (ad 176)), (5, .ref (ad 177)), (6, .int x6n9)] → rec3 (σ9, x6n9) = some res → W p l e ({ frames := 2, cells := 0, slots := 0, locals := 51 } : Room) s m args below meth c H locs 0 0 (MQ below (va_Qv (fun (_ : Unit) => True) (fun _ => gO D A (GW L y ad res)) A) args s 0 0 A) (F0 m 3 ls [])) {H : Heap} {locs : List Loc} {ls : Array Slot} (hY : gY D y A s L ad σ H locs) (hl : lv_has ls 14 [(0, .ref (ad 161)), (1, .ref (ad 172)), (2, .ref (ad 174)), (3, .ref (ad 175)), (4, .ref (ad 176)), (5, .ref (ad 177)), (6, .int x6), (8, .int x8), (9, .int x9), (10, .int x10)]) (h : fL_tells_174 N rec3 σ x6 x8 x9 x10 xs0 xs1 = some res) : W p l e ({ frames := 2, cells := 0, slots := 0, locals := 51 } : Room) s m args below meth c H locs 0 0 (MQ below (va_Qv (fun (_ : Unit) => True) (fun _ => gO D A (GW L y ad res)) A) args s 0 0 A) (F0 m 174 ls [.int xs0, .int xs1]) := by
  unfold fL_tells_174 at h
  refine lv_iadd hx hb dL_tells_174 ?_
  refine lv_istore (lv' := [(11, .int (xs1 + xs0)), (0, .ref (ad 161)), (1, .ref (ad 172)), (2, .ref (ad 174)), (3, .ref (ad 175)), (4, .ref (ad 176)), (5, .ref (ad 177)), (6, .int x6), (8, .int x8), (9, .int x9), (10, .int x10)]) hx hb dL_tells_175 hl (by decide) rfl ?_
  clear hl
  intro ls hl
  refine lv_iload hx hb dL_tells_177 (lv_at hl 10 rfl) ?_
  refine lv_if_ne (tgt := 191) hx hb dL_tells_179 (by decide) (fun z_1 => ?_) (fun z_1 => ?_)
  ·
    rw [if_neg z_1] at h
    exact wL_tells_191 hx hb hr hml hown hg hlocks hK hA hL hrec3 hY (lv_sub hl [1, 2, 3, 4, 5, 6, 7, 8, 9, 10, 0] rfl) h
  ·
    rw [if_pos z_1] at h
    refine lv_iload hx hb dL_tells_182 (lv_at hl 0 rfl) ?_
    refine lv_if_le (tgt := 191) hx hb dL_tells_184 (by decide) (fun z_2 => ?_) (fun z_2 => ?_)
    ·
      rw [if_pos z_2] at h
      exact wL_tells_191 hx hb hr hml hown hg hlocks hK hA hL hrec3 hY (lv_sub hl [1, 2, 3, 4, 5, 6, 7, 8, 9, 10, 0] rfl) h
    ·
      rw [if_neg z_2] at h
      refine lv_iconst (v := 1) hx hb dL_tells_187 (by decide) ?_
      refine lv_goto (tgt := 192) hx hb dL_tells_188 (by decide) ?_
      exact wL_tells_192 hx hb hr hml hown hg hlocks hK hA hL hrec3 hY (lv_sub hl [1, 2, 3, 4, 5, 6, 7, 8, 9, 10, 0] rfl) h
def fL_tells_125 (N : Nat) (rec3 : (gS × Int32) → Option gS) (σ : gS) (x6 : Int32) (x7 : Int32) (x8 : Int32) (x9 : Int32) : Option gS := if (x7 + 2) < 0 ∨ 18 ≤ (x7 + 2).toNatClampNeg then none else (if (σ.1 176 ((x7 + 2).toNatClampNeg)) = 0 then (if x6 < 0 ∨ 3 ≤ x6.toNatClampNeg then none else (if x9 < 0 ∨ 64 ≤ x9.toNatClampNeg then none else ((fL_fails N σ x8 (σ.2.1 177 x6.toNatClampNeg) (((σ.1 175 x9.toNatClampNeg) / 4) - ((σ.1 175 x9.toNatClampNeg) / 4) / 16 * 16)).bind fun r_5 => if x9 < 0 ∨ 64 ≤ x9.toNatClampNeg then none else (if r_5 = 0 then (fL_tells_174 N rec3 σ x6 x8 x9 r_5 0 ((σ.1 175 x9.toNatClampNeg) / 64)) else (fL_tells_174 N rec3 σ x6 x8 x9 r_5 1 ((σ.1 175 x9.toNatClampNeg) / 64)))))) else (fL_tells_324 N rec3 σ x6))
set_option maxRecDepth 100000 in
set_option maxHeartbeats 4000000 in
theorem wL_tells_125 {rec3 : (gS × Int32) → Option gS} {σ : gS} {x6 : Int32} {x7 : Int32} {x8 : Int32} {x9 : Int32} (hx : p.tables.exec = Jvm.exec) (hb : c.code = cL_tells) (hr : meth.sig.returnType = none) (hml : c.maxLocals = 14) (hown : s.vm.findClass RL = some m.cls) (hg : ∀ w ∈ wsL_law, w.before args s = true) (hlocks : meth.locks = false) (hK : gK D y aS s) (hA : ∀ q, s.heap.size ≤ q → A q) (hL : ∀ k, k < 179 → k ∈ L) (hrec3 : ∀ {σ9 : gS} {x6n9 : Int32} (H : Heap) (locs : List Loc) (ls : Array Slot), gY D y A s L ad σ9 H locs → lv_has ls 14 [(0, .ref (ad 161)), (1, .ref (ad 172)), (2, .ref (ad 174)), (3, .ref (ad 175)), (4, .ref (ad 176)), (5, .ref (ad 177)), (6, .int x6n9)] → rec3 (σ9, x6n9) = some res → W p l e ({ frames := 2, cells := 0, slots := 0, locals := 51 } : Room) s m args below meth c H locs 0 0 (MQ below (va_Qv (fun (_ : Unit) => True) (fun _ => gO D A (GW L y ad res)) A) args s 0 0 A) (F0 m 3 ls [])) {H : Heap} {locs : List Loc} {ls : Array Slot} (hY : gY D y A s L ad σ H locs) (hl : lv_has ls 14 [(0, .ref (ad 161)), (1, .ref (ad 172)), (2, .ref (ad 174)), (3, .ref (ad 175)), (4, .ref (ad 176)), (5, .ref (ad 177)), (6, .int x6), (7, .int x7), (8, .int x8), (9, .int x9)]) (h : fL_tells_125 N rec3 σ x6 x7 x8 x9 = some res) : W p l e ({ frames := 2, cells := 0, slots := 0, locals := 51 } : Room) s m args below meth c H locs 0 0 (MQ below (va_Qv (fun (_ : Unit) => True) (fun _ => gO D A (GW L y ad res)) A) args s 0 0 A) (F0 m 125 ls []) := by
  unfold fL_tells_125 at h
  refine lv_aload hx hb dL_tells_125 (lv_at hl 4 rfl) ?_
  refine lv_iload hx hb dL_tells_127 (lv_at hl 7 rfl) ?_
  refine lv_iconst (v := 2) hx hb dL_tells_129 (by decide) ?_
  refine lv_iadd hx hb dL_tells_130 ?_
  obtain ⟨z_1, h⟩ := g_guard h
  refine G_iald (j := (x7 + 2).toNatClampNeg) hx hb hK hY (hL 176 (by decide)) gk_176 (by rw [gl_176]; exact z_1) rfl dL_tells_131 ?_
  refine lv_if_ne (tgt := 324) hx hb dL_tells_132 (by decide) (fun z_2 => ?_) (fun z_2 => ?_)
  ·
    rw [if_neg z_2] at h
    exact wL_tells_324 hx hb hr hml hown hg hlocks hK hA hL hrec3 hY (lv_sub hl [0, 1, 2, 3, 4, 5, 6] rfl) h
  ·
    rw [if_pos z_2] at h
    refine lv_aload_n hx hb dL_tells_135 rfl (lv_at hl 1 rfl) ?_
    refine lv_iload hx hb dL_tells_136 (lv_at hl 8 rfl) ?_
    refine lv_aload hx hb dL_tells_138 (lv_at hl 5 rfl) ?_
    refine lv_iload hx hb dL_tells_140 (lv_at hl 6 rfl) ?_
    obtain ⟨z_3, h⟩ := g_guard h
    refine G_lald (j := x6.toNatClampNeg) hx hb hK hY (hL 177 (by decide)) gk_177 (by rw [gl_177]; exact z_3) rfl dL_tells_142 ?_
    refine lv_aload_n hx hb dL_tells_143 rfl (lv_at hl 3 rfl) ?_
    refine lv_iload hx hb dL_tells_144 (lv_at hl 9 rfl) ?_
    obtain ⟨z_4, h⟩ := g_guard h
    refine G_iald (j := x9.toNatClampNeg) hx hb hK hY (hL 175 (by decide)) gk_175 (by rw [gl_175]; exact z_4) rfl dL_tells_146 ?_
    refine lv_iconst (v := 4) hx hb dL_tells_147 (by decide) ?_
    refine lv_idiv hx hb dL_tells_148 (by decide +kernel) ?_
    refine lv_bipush (v := 16) hx hb dL_tells_149 (by decide +kernel) ?_
    refine lv_irem hx hb dL_tells_151 (by decide +kernel) ?_
    obtain ⟨r_5, e_6, h⟩ := g_bind h
    refine G_ai hY hA (va_runS (As := [.ref (ad 172), .int x8, .long (σ.2.1 177 x6.toNatClampNeg), .int (((σ.1 175 x9.toNatClampNeg) / 4) - ((σ.1 175 x9.toNatClampNeg) / 4) / 16 * 16)]) (rest := []) ⟨hx, hb, hml, hown, hg⟩ (kL_fails l D y aS H.size L hL ad N σ x8 (σ.2.1 177 x6.toNatClampNeg) (((σ.1 175 x9.toNatClampNeg) / 4) - ((σ.1 175 x9.toNatClampNeg) / 4) / 16 * 16) _ e_6) (va_cwS 4 hg ggS_RL_106_L_fails rfl rfl rfl (by decide +kernel) ⟨Nat.le_of_ble_eq_true rfl, Nat.le_of_ble_eq_true rfl⟩) (G_pS hK hY) rfl rfl hl.1 rfl (lv_room (Nat.le_of_ble_eq_true rfl)) dL_tells_152 ⟨Nat.le_of_ble_eq_true rfl, Nat.le_of_ble_eq_true rfl⟩) ?_
    clear hY
    rintro _ H locs rfl hY
    refine lv_istore (lv' := [(10, .int r_5), (0, .ref (ad 161)), (1, .ref (ad 172)), (2, .ref (ad 174)), (3, .ref (ad 175)), (4, .ref (ad 176)), (5, .ref (ad 177)), (6, .int x6), (7, .int x7), (8, .int x8), (9, .int x9)]) hx hb dL_tells_155 hl (by decide) rfl ?_
    clear hl
    intro ls hl
    refine lv_aload_n hx hb dL_tells_157 rfl (lv_at hl 4 rfl) ?_
    refine lv_iload hx hb dL_tells_158 (lv_at hl 10 rfl) ?_
    obtain ⟨z_7, h⟩ := g_guard h
    refine G_iald (j := x9.toNatClampNeg) hx hb hK hY (hL 175 (by decide)) gk_175 (by rw [gl_175]; exact z_7) rfl dL_tells_160 ?_
    refine lv_bipush (v := 64) hx hb dL_tells_161 (by decide +kernel) ?_
    refine lv_idiv hx hb dL_tells_163 (by decide +kernel) ?_
    refine lv_iload hx hb dL_tells_164 (lv_at hl 0 rfl) ?_
    refine lv_if_eq (tgt := 173) hx hb dL_tells_166 (by decide) (fun z_8 => ?_) (fun z_8 => ?_)
    ·
      rw [if_pos z_8] at h
      refine lv_iconst (v := 0) hx hb dL_tells_173 (by decide) ?_
      exact wL_tells_174 hx hb hr hml hown hg hlocks hK hA hL hrec3 hY (lv_sub hl [1, 2, 3, 4, 5, 6, 7, 9, 10, 0] rfl) h
    ·
      rw [if_neg z_8] at h
      refine lv_iconst (v := 1) hx hb dL_tells_169 (by decide) ?_
      refine lv_goto (tgt := 174) hx hb dL_tells_170 (by decide) ?_
      exact wL_tells_174 hx hb hr hml hown hg hlocks hK hA hL hrec3 hY (lv_sub hl [1, 2, 3, 4, 5, 6, 7, 9, 10, 0] rfl) h
def fL_tells_39 (N : Nat) (rec3 : (gS × Int32) → Option gS) (σ : gS) (x6 : Int32) (x7 : Int32) (x8 : Int32) : Option gS := if x8 < 0 then (fL_tells_324 N rec3 σ x6) else (if (x7 + 1) < 0 ∨ 18 ≤ (x7 + 1).toNatClampNeg then none else (if (σ.1 176 ((x7 + 1).toNatClampNeg)) = 0 then (if x7 < 0 ∨ 18 ≤ x7.toNatClampNeg then none else (if x6 < 0 ∨ 3 ≤ x6.toNatClampNeg then none else ((fL_key N (sI σ 176 x7.toNatClampNeg (-1)) x8 ((sI σ 176 x7.toNatClampNeg (-1)).2.1 177 x6.toNatClampNeg)).bind fun r_6 => (fL_entry N (sI σ 176 x7.toNatClampNeg (-1)) r_6).bind fun r_8 => if (x7 + 2) < 0 ∨ 18 ≤ (x7 + 2).toNatClampNeg then none else (if ((sI σ 176 x7.toNatClampNeg (-1)).1 176 ((x7 + 2).toNatClampNeg)) = 0 then (if 0 ≤ r_8 then (fL_tells_125 N rec3 (sI σ 176 x7.toNatClampNeg (-1)) x6 x7 x8 r_8) else (if x6 < 0 ∨ 3 ≤ x6.toNatClampNeg then none else ((fL_key N (sI σ 176 x7.toNatClampNeg (-1)) x8 ((sI σ 176 x7.toNatClampNeg (-1)).2.1 177 x6.toNatClampNeg)).bind fun r_14 => if ((sI σ 176 x7.toNatClampNeg (-1)).1 161 4) < 0 ∨ 64 ≤ ((sI σ 176 x7.toNatClampNeg (-1)).1 161 4).toNatClampNeg then none else (if ((sI σ 176 x7.toNatClampNeg (-1)).1 161 4) < 0 ∨ 64 ≤ ((sI σ 176 x7.toNatClampNeg (-1)).1 161 4).toNatClampNeg then none else (fL_tells_125 N rec3 (sI (sI (sJ (sI σ 176 x7.toNatClampNeg (-1)) 174 (((sI σ 176 x7.toNatClampNeg (-1)).1 161 4).toNatClampNeg) r_14) 175 (((sI σ 176 x7.toNatClampNeg (-1)).1 161 4).toNatClampNeg) 0) 161 4 (((sI (sJ (sI σ 176 x7.toNatClampNeg (-1)) 174 (((sI σ 176 x7.toNatClampNeg (-1)).1 161 4).toNatClampNeg) r_14) 175 (((sI σ 176 x7.toNatClampNeg (-1)).1 161 4).toNatClampNeg) 0).1 161 4) + 1)) x6 x7 x8 ((sI σ 176 x7.toNatClampNeg (-1)).1 161 4)))))) else (fL_tells_125 N rec3 (sI σ 176 x7.toNatClampNeg (-1)) x6 x7 x8 r_8))))) else (fL_tells_324 N rec3 σ x6)))
set_option maxRecDepth 100000 in
set_option maxHeartbeats 4000000 in
theorem wL_tells_39 {rec3 : (gS × Int32) → Option gS} {σ : gS} {x6 : Int32} {x7 : Int32} {x8 : Int32} (hx : p.tables.exec = Jvm.exec) (hb : c.code = cL_tells) (hr : meth.sig.returnType = none) (hml : c.maxLocals = 14) (hown : s.vm.findClass RL = some m.cls) (hg : ∀ w ∈ wsL_law, w.before args s = true) (hlocks : meth.locks = false) (hK : gK D y aS s) (hA : ∀ q, s.heap.size ≤ q → A q) (hL : ∀ k, k < 179 → k ∈ L) (hrec3 : ∀ {σ9 : gS} {x6n9 : Int32} (H : Heap) (locs : List Loc) (ls : Array Slot), gY D y A s L ad σ9 H locs → lv_has ls 14 [(0, .ref (ad 161)), (1, .ref (ad 172)), (2, .ref (ad 174)), (3, .ref (ad 175)), (4, .ref (ad 176)), (5, .ref (ad 177)), (6, .int x6n9)] → rec3 (σ9, x6n9) = some res → W p l e ({ frames := 2, cells := 0, slots := 0, locals := 51 } : Room) s m args below meth c H locs 0 0 (MQ below (va_Qv (fun (_ : Unit) => True) (fun _ => gO D A (GW L y ad res)) A) args s 0 0 A) (F0 m 3 ls [])) {H : Heap} {locs : List Loc} {ls : Array Slot} (hY : gY D y A s L ad σ H locs) (hl : lv_has ls 14 [(0, .ref (ad 161)), (1, .ref (ad 172)), (2, .ref (ad 174)), (3, .ref (ad 175)), (4, .ref (ad 176)), (5, .ref (ad 177)), (6, .int x6), (7, .int x7), (8, .int x8)]) (h : fL_tells_39 N rec3 σ x6 x7 x8 = some res) : W p l e ({ frames := 2, cells := 0, slots := 0, locals := 51 } : Room) s m args below meth c H locs 0 0 (MQ below (va_Qv (fun (_ : Unit) => True) (fun _ => gO D A (GW L y ad res)) A) args s 0 0 A) (F0 m 39 ls []) := by
  unfold fL_tells_39 at h
  refine lv_iload hx hb dL_tells_39 (lv_at hl 8 rfl) ?_
  refine lv_if_lt (tgt := 324) hx hb dL_tells_41 (by decide) (fun z_1 => ?_) (fun z_1 => ?_)
  ·
    rw [if_pos z_1] at h
    exact wL_tells_324 hx hb hr hml hown hg hlocks hK hA hL hrec3 hY (lv_sub hl [0, 1, 2, 3, 4, 5, 6] rfl) h
  ·
    rw [if_neg z_1] at h
    refine lv_aload hx hb dL_tells_44 (lv_at hl 4 rfl) ?_
    refine lv_iload hx hb dL_tells_46 (lv_at hl 7 rfl) ?_
    refine lv_iconst (v := 1) hx hb dL_tells_48 (by decide) ?_
    refine lv_iadd hx hb dL_tells_49 ?_
    obtain ⟨z_2, h⟩ := g_guard h
    refine G_iald (j := (x7 + 1).toNatClampNeg) hx hb hK hY (hL 176 (by decide)) gk_176 (by rw [gl_176]; exact z_2) rfl dL_tells_50 ?_
    refine lv_if_ne (tgt := 324) hx hb dL_tells_51 (by decide) (fun z_3 => ?_) (fun z_3 => ?_)
    ·
      rw [if_neg z_3] at h
      exact wL_tells_324 hx hb hr hml hown hg hlocks hK hA hL hrec3 hY (lv_sub hl [0, 1, 2, 3, 4, 5, 6] rfl) h
    ·
      rw [if_pos z_3] at h
      refine lv_aload hx hb dL_tells_54 (lv_at hl 4 rfl) ?_
      refine lv_iload hx hb dL_tells_56 (lv_at hl 7 rfl) ?_
      refine lv_iconst (v := (-1)) hx hb dL_tells_58 (by decide) ?_
      obtain ⟨z_4, h⟩ := g_guard h
      refine G_iast (j := x7.toNatClampNeg) hx hb hK hY (hL 176 (by decide)) gk_176 (by rw [gl_176]; exact z_4) rfl dL_tells_59 ?_
      clear hY
      intro H locs hY
      refine lv_aload_n hx hb dL_tells_60 rfl (lv_at hl 0 rfl) ?_
      refine lv_aload_n hx hb dL_tells_61 rfl (lv_at hl 2 rfl) ?_
      refine lv_aload_n hx hb dL_tells_62 rfl (lv_at hl 1 rfl) ?_
      refine lv_iload hx hb dL_tells_63 (lv_at hl 8 rfl) ?_
      refine lv_aload hx hb dL_tells_65 (lv_at hl 5 rfl) ?_
      refine lv_iload hx hb dL_tells_67 (lv_at hl 6 rfl) ?_
      obtain ⟨z_5, h⟩ := g_guard h
      refine G_lald (j := x6.toNatClampNeg) hx hb hK hY (hL 177 (by decide)) gk_177 (by rw [gl_177]; exact z_5) rfl dL_tells_69 ?_
      obtain ⟨r_6, e_7, h⟩ := g_bind h
      refine G_al hY hA (va_runS (As := [.ref (ad 172), .int x8, .long ((sI σ 176 x7.toNatClampNeg (-1)).2.1 177 x6.toNatClampNeg)]) (rest := [.ref (ad 174), .ref (ad 161)]) ⟨hx, hb, hml, hown, hg⟩ (kL_key l D y aS H.size L hL ad N (sI σ 176 x7.toNatClampNeg (-1)) x8 ((sI σ 176 x7.toNatClampNeg (-1)).2.1 177 x6.toNatClampNeg) _ e_7) (va_cwS 3 hg ggS_RL_17_L_key rfl rfl rfl (by decide +kernel) ⟨Nat.le_of_ble_eq_true rfl, Nat.le_of_ble_eq_true rfl⟩) (G_pS hK hY) rfl rfl hl.1 rfl (lv_room (Nat.le_of_ble_eq_true rfl)) dL_tells_70 ⟨Nat.le_of_ble_eq_true rfl, Nat.le_of_ble_eq_true rfl⟩) ?_
      clear hY
      rintro _ H locs rfl hY
      obtain ⟨r_8, e_9, h⟩ := g_bind h
      refine G_ai hY hA (va_runS (As := [.ref (ad 161), .ref (ad 174), .long r_6]) (rest := []) ⟨hx, hb, hml, hown, hg⟩ (kL_entry l D y aS H.size L hL ad N (sI σ 176 x7.toNatClampNeg (-1)) r_6 _ e_9) (va_cwS 3 hg ggS_RL_21_L_entry rfl rfl rfl (by decide +kernel) ⟨Nat.le_of_ble_eq_true rfl, Nat.le_of_ble_eq_true rfl⟩) (G_pS hK hY) rfl rfl hl.1 rfl (lv_room (Nat.le_of_ble_eq_true rfl)) dL_tells_73 ⟨Nat.le_of_ble_eq_true rfl, Nat.le_of_ble_eq_true rfl⟩) ?_
      clear hY
      rintro _ H locs rfl hY
      refine lv_istore (lv' := [(9, .int r_8), (0, .ref (ad 161)), (1, .ref (ad 172)), (2, .ref (ad 174)), (3, .ref (ad 175)), (4, .ref (ad 176)), (5, .ref (ad 177)), (6, .int x6), (7, .int x7), (8, .int x8)]) hx hb dL_tells_76 hl (by decide) rfl ?_
      clear hl
      intro ls hl
      refine lv_aload hx hb dL_tells_78 (lv_at hl 5 rfl) ?_
      refine lv_iload hx hb dL_tells_80 (lv_at hl 8 rfl) ?_
      refine lv_iconst (v := 2) hx hb dL_tells_82 (by decide) ?_
      refine lv_iadd hx hb dL_tells_83 ?_
      obtain ⟨z_10, h⟩ := g_guard h
      refine G_iald (j := (x7 + 2).toNatClampNeg) hx hb hK hY (hL 176 (by decide)) gk_176 (by rw [gl_176]; exact z_10) rfl dL_tells_84 ?_
      refine lv_if_ne (tgt := 125) hx hb dL_tells_85 (by decide) (fun z_11 => ?_) (fun z_11 => ?_)
      ·
        rw [if_neg z_11] at h
        exact wL_tells_125 hx hb hr hml hown hg hlocks hK hA hL hrec3 hY (lv_sub hl [1, 2, 3, 4, 5, 6, 7, 8, 9, 0] rfl) h
      ·
        rw [if_pos z_11] at h
        refine lv_iload hx hb dL_tells_88 (lv_at hl 0 rfl) ?_
        refine lv_if_ge (tgt := 125) hx hb dL_tells_90 (by decide) (fun z_12 => ?_) (fun z_12 => ?_)
        ·
          rw [if_pos z_12] at h
          exact wL_tells_125 hx hb hr hml hown hg hlocks hK hA hL hrec3 hY (lv_sub hl [1, 2, 3, 4, 5, 6, 7, 8, 9, 0] rfl) h
        ·
          rw [if_neg z_12] at h
          refine lv_aload_n hx hb dL_tells_93 rfl (lv_at hl 1 rfl) ?_
          refine lv_iconst (v := 4) hx hb dL_tells_94 (by decide) ?_
          refine G_iald (j := 4) hx hb hK hY (hL 161 (by decide)) gk_161 (by rw [gl_161]; decide +kernel) (by decide +kernel) dL_tells_95 ?_
          refine lv_istore (lv' := [(9, .int ((sI σ 176 x7.toNatClampNeg (-1)).1 161 4)), (0, .ref (ad 161)), (1, .ref (ad 172)), (2, .ref (ad 174)), (3, .ref (ad 175)), (4, .ref (ad 176)), (5, .ref (ad 177)), (6, .int x6), (7, .int x7), (8, .int x8)]) hx hb dL_tells_96 hl (by decide) rfl ?_
          clear hl
          intro ls hl
          refine lv_aload_n hx hb dL_tells_98 rfl (lv_at hl 3 rfl) ?_
          refine lv_iload hx hb dL_tells_99 (lv_at hl 0 rfl) ?_
          refine lv_aload_n hx hb dL_tells_101 rfl (lv_at hl 2 rfl) ?_
          refine lv_iload hx hb dL_tells_102 (lv_at hl 9 rfl) ?_
          refine lv_aload hx hb dL_tells_104 (lv_at hl 6 rfl) ?_
          refine lv_iload hx hb dL_tells_106 (lv_at hl 7 rfl) ?_
          obtain ⟨z_13, h⟩ := g_guard h
          refine G_lald (j := x6.toNatClampNeg) hx hb hK hY (hL 177 (by decide)) gk_177 (by rw [gl_177]; exact z_13) rfl dL_tells_108 ?_
          obtain ⟨r_14, e_15, h⟩ := g_bind h
          refine G_al hY hA (va_runS (As := [.ref (ad 172), .int x8, .long ((sI σ 176 x7.toNatClampNeg (-1)).2.1 177 x6.toNatClampNeg)]) (rest := [.int ((sI σ 176 x7.toNatClampNeg (-1)).1 161 4), .ref (ad 174)]) ⟨hx, hb, hml, hown, hg⟩ (kL_key l D y aS H.size L hL ad N (sI σ 176 x7.toNatClampNeg (-1)) x8 ((sI σ 176 x7.toNatClampNeg (-1)).2.1 177 x6.toNatClampNeg) _ e_15) (va_cwS 3 hg ggS_RL_17_L_key rfl rfl rfl (by decide +kernel) ⟨Nat.le_of_ble_eq_true rfl, Nat.le_of_ble_eq_true rfl⟩) (G_pS hK hY) rfl rfl hl.1 rfl (lv_room (Nat.le_of_ble_eq_true rfl)) dL_tells_109 ⟨Nat.le_of_ble_eq_true rfl, Nat.le_of_ble_eq_true rfl⟩) ?_
          clear hY
          rintro _ H locs rfl hY
          obtain ⟨z_16, h⟩ := g_guard h
          refine G_last (j := ((sI σ 176 x7.toNatClampNeg (-1)).1 161 4).toNatClampNeg) hx hb hK hY (hL 174 (by decide)) gk_174 (by rw [gl_174]; exact z_16) rfl dL_tells_112 ?_
          clear hY
          intro H locs hY
          refine lv_aload_n hx hb dL_tells_113 rfl (lv_at hl 4 rfl) ?_
          refine lv_iload hx hb dL_tells_114 (lv_at hl 0 rfl) ?_
          refine lv_iconst (v := 0) hx hb dL_tells_116 (by decide) ?_
          obtain ⟨z_17, h⟩ := g_guard h
          refine G_iast (j := ((sI σ 176 x7.toNatClampNeg (-1)).1 161 4).toNatClampNeg) hx hb hK hY (hL 175 (by decide)) gk_175 (by rw [gl_175]; exact z_17) rfl dL_tells_117 ?_
          clear hY
          intro H locs hY
          refine lv_aload_n hx hb dL_tells_118 rfl (lv_at hl 1 rfl) ?_
          refine lv_iconst (v := 4) hx hb dL_tells_119 (by decide) ?_
          refine lv_dup2_11 hx hb dL_tells_120 rfl rfl ?_
          refine G_iald (j := 4) hx hb hK hY (hL 161 (by decide)) gk_161 (by rw [gl_161]; decide +kernel) (by decide +kernel) dL_tells_121 ?_
          refine lv_iconst (v := 1) hx hb dL_tells_122 (by decide) ?_
          refine lv_iadd hx hb dL_tells_123 ?_
          refine G_iast (j := 4) hx hb hK hY (hL 161 (by decide)) gk_161 (by rw [gl_161]; decide +kernel) (by decide +kernel) dL_tells_124 ?_
          clear hY
          intro H locs hY
          exact wL_tells_125 hx hb hr hml hown hg hlocks hK hA hL hrec3 hY (lv_sub hl [1, 2, 3, 4, 5, 6, 7, 8, 9, 0] rfl) h
def fL_tells_3 (N : Nat) (rec3 : (gS × Int32) → Option gS) (xx : gS × Int32) : Option gS := match xx with
  | (σ, x6) => if 3 ≤ x6 then (some σ) else (if (6 * x6) < 0 ∨ 18 ≤ (6 * x6).toNatClampNeg then none else (if (σ.1 176 ((6 * x6).toNatClampNeg)) < 0 then (fL_tells_39 N rec3 σ x6 (6 * x6) (σ.1 176 ((6 * x6).toNatClampNeg))) else (if ((6 * x6) + 1) < 0 ∨ 18 ≤ ((6 * x6) + 1).toNatClampNeg then none else (if ((6 * x6) + 1) < 0 ∨ 18 ≤ ((6 * x6) + 1).toNatClampNeg then none else (fL_tells_39 N rec3 (sI σ 176 (((6 * x6) + 1).toNatClampNeg) ((σ.1 176 (((6 * x6) + 1).toNatClampNeg)) - 1)) x6 (6 * x6) (σ.1 176 ((6 * x6).toNatClampNeg)))))))
set_option maxRecDepth 100000 in
set_option maxHeartbeats 4000000 in
theorem wL_tells_3 (hx : p.tables.exec = Jvm.exec) (hb : c.code = cL_tells) (hr : meth.sig.returnType = none) (hml : c.maxLocals = 14) (hown : s.vm.findClass RL = some m.cls) (hg : ∀ w ∈ wsL_law, w.before args s = true) (hlocks : meth.locks = false) (hK : gK D y aS s) (hA : ∀ q, s.heap.size ≤ q → A q) (hL : ∀ k, k < 179 → k ∈ L) : ∀ (n : Nat) {σ : gS} {x6 : Int32} (H : Heap) (locs : List Loc) (ls : Array Slot), gY D y A s L ad σ H locs → lv_has ls 14 [(0, .ref (ad 161)), (1, .ref (ad 172)), (2, .ref (ad 174)), (3, .ref (ad 175)), (4, .ref (ad 176)), (5, .ref (ad 177)), (6, .int x6)] → lp (fL_tells_3 N) n (σ, x6) = some res → W p l e ({ frames := 2, cells := 0, slots := 0, locals := 51 } : Room) s m args below meth c H locs 0 0 (MQ below (va_Qv (fun (_ : Unit) => True) (fun _ => gO D A (GW L y ad res)) A) args s 0 0 A) (F0 m 3 ls []) := by
  intro n
  induction n with
  | zero => intro σ x6 H locs ls hY hl h; exact nomatch (show none = some res from h)
  | succ n hrec3 =>
    intro σ x6 H locs ls hY hl h
    replace h : fL_tells_3 N (lp (fL_tells_3 N) n) (σ, x6) = some res := h
    generalize lp (fL_tells_3 N) n = rec3 at h hrec3
    unfold fL_tells_3 at h
    try dsimp only at h
    refine lv_iload hx hb dL_tells_3 (lv_at hl 6 rfl) ?_
    refine lv_iconst (v := 3) hx hb dL_tells_5 (by decide) ?_
    refine lv_icmp_ge (tgt := 330) hx hb dL_tells_6 (by decide) (fun z_1 => ?_) (fun z_1 => ?_)
    ·
      rw [if_pos z_1] at h
      cases h
      exact g_vret hx hb hr hlocks () hY.1 hY.2.1 hY.2.2 trivial (Nat.le_of_ble_eq_true rfl) (Nat.le_of_ble_eq_true rfl) dL_tells_330
    ·
      rw [if_neg z_1] at h
      refine lv_bipush (v := 6) hx hb dL_tells_9 (by decide +kernel) ?_
      refine lv_iload hx hb dL_tells_11 (lv_at hl 6 rfl) ?_
      refine lv_imul hx hb dL_tells_13 ?_
      refine lv_istore (lv' := [(7, .int (6 * x6)), (0, .ref (ad 161)), (1, .ref (ad 172)), (2, .ref (ad 174)), (3, .ref (ad 175)), (4, .ref (ad 176)), (5, .ref (ad 177)), (6, .int x6)]) hx hb dL_tells_14 hl (by decide) rfl ?_
      clear hl
      intro ls hl
      refine lv_aload hx hb dL_tells_16 (lv_at hl 5 rfl) ?_
      refine lv_iload hx hb dL_tells_18 (lv_at hl 0 rfl) ?_
      obtain ⟨z_2, h⟩ := g_guard h
      refine G_iald (j := (6 * x6).toNatClampNeg) hx hb hK hY (hL 176 (by decide)) gk_176 (by rw [gl_176]; exact z_2) rfl dL_tells_20 ?_
      refine lv_istore (lv' := [(8, .int (σ.1 176 ((6 * x6).toNatClampNeg))), (7, .int (6 * x6)), (0, .ref (ad 161)), (1, .ref (ad 172)), (2, .ref (ad 174)), (3, .ref (ad 175)), (4, .ref (ad 176)), (5, .ref (ad 177)), (6, .int x6)]) hx hb dL_tells_21 hl (by decide) rfl ?_
      clear hl
      intro ls hl
      refine lv_iload hx hb dL_tells_23 (lv_at hl 0 rfl) ?_
      refine lv_if_lt (tgt := 39) hx hb dL_tells_25 (by decide) (fun z_3 => ?_) (fun z_3 => ?_)
      ·
        rw [if_pos z_3] at h
        exact wL_tells_39 hx hb hr hml hown hg hlocks hK hA hL hrec3 hY (lv_sub hl [2, 3, 4, 5, 6, 7, 8, 1, 0] rfl) h
      ·
        rw [if_neg z_3] at h
        refine lv_aload hx hb dL_tells_28 (lv_at hl 6 rfl) ?_
        refine lv_iload hx hb dL_tells_30 (lv_at hl 1 rfl) ?_
        refine lv_iconst (v := 1) hx hb dL_tells_32 (by decide) ?_
        refine lv_iadd hx hb dL_tells_33 ?_
        refine lv_dup2_11 hx hb dL_tells_34 rfl rfl ?_
        obtain ⟨z_4, h⟩ := g_guard h
        refine G_iald (j := ((6 * x6) + 1).toNatClampNeg) hx hb hK hY (hL 176 (by decide)) gk_176 (by rw [gl_176]; exact z_4) rfl dL_tells_35 ?_
        refine lv_iconst (v := 1) hx hb dL_tells_36 (by decide) ?_
        refine lv_isub hx hb dL_tells_37 ?_
        obtain ⟨z_5, h⟩ := g_guard h
        refine G_iast (j := ((6 * x6) + 1).toNatClampNeg) hx hb hK hY (hL 176 (by decide)) gk_176 (by rw [gl_176]; exact z_5) rfl dL_tells_38 ?_
        clear hY
        intro H locs hY
        exact wL_tells_39 hx hb hr hml hown hg hlocks hK hA hL hrec3 hY (lv_sub hl [2, 3, 4, 5, 6, 7, 8, 1, 0] rfl) h
end
def fL_tells (N : Nat) (σ : gS) : Option gS := lp (fL_tells_3 N) N (σ, 0)
set_option maxRecDepth 100000 in
set_option maxHeartbeats 4000000 in
theorem kL_tells (l : Launch) (D : va_G) (y : Nat → ClassId) (aS : Nat → Nat) (sz : Nat) (L : List Nat) (hL : ∀ k, k < 179 → k ∈ L) (ad : Nat → Nat) (N : Nat) (σ : gS) (res : gS) (h : fL_tells N σ = some res) : Met l yL_tells (Cond.code yL_tells cL_tells 14 none :: wsL_law) ({ frames := 2, cells := 0, slots := 0, locals := 51 } : Room) (va_Pc [.ref (ad 161), .ref (ad 172), .ref (ad 174), .ref (ad 175), .ref (ad 176), .ref (ad 177)] (gI D y aS (GW L y ad σ) sz)) (va_Qv (fun (_ : Unit) => True) (fun _ => gO D (va_A (GW L y ad σ) sz) (GW L y ad res)) (va_A (GW L y ad σ) sz)) 0 0 (va_A (GW L y ad σ) sz) := by
  refine g_of (by decide) (Nat.le_of_ble_eq_true rfl) ?_
  intro p e s m below meth c ls A hx hb hr hml hown hg hlocks hin hsz hK hP hD hS hA hAe hl
  rw [← hAe]
  replace hown : s.vm.findClass RL = some m.cls := hown
  have hY : gY D y A s L ad σ s.heap [] := ⟨hP, hD, hS⟩
  clear hP hD hS
  replace hl : lv_has ls 14 [(0, .ref (ad 161)), (1, .ref (ad 172)), (2, .ref (ad 174)), (3, .ref (ad 175)), (4, .ref (ad 176)), (5, .ref (ad 177))] := hl
  unfold fL_tells at h
  refine lv_iconst (v := 0) hx hb dL_tells_0 (by decide) ?_
  refine lv_istore (lv' := [(6, .int 0), (0, .ref (ad 161)), (1, .ref (ad 172)), (2, .ref (ad 174)), (3, .ref (ad 175)), (4, .ref (ad 176)), (5, .ref (ad 177))]) hx hb dL_tells_1 hl (by decide) rfl ?_
  clear hl
  intro ls hl
  exact wL_tells_3 hx hb hr hml hown hg hlocks hK hA hL N _ _ _ hY (lv_sub hl [1, 2, 3, 4, 5, 6, 0] rfl) h
section
variable {p : Program} {l : Launch} {e : Env} {s : State} {m : MethodId} {args : Array Value} {below : List Frame} {meth : Method} {c : Code} {D : va_G} {y : Nat → ClassId} {aS : Nat → Nat} {A : Nat → Prop} {L : List Nat} {ad : Nat → Nat} {N : Nat} {res : Int32}
def fL_isFree_89 (N : Nat) (rec24 : (Int32 × Int32) → Option Int32) (σ : gS) (x6 : Int32) (x7 : Int64) (x10 : Int32) (xs0 : Int32) : Option Int32 := rec24 (xs0, (x10 + 1))
set_option maxRecDepth 100000 in
set_option maxHeartbeats 4000000 in
theorem wL_isFree_89 {rec24 : (Int32 × Int32) → Option Int32} {σ : gS} {x6 : Int32} {x7 : Int64} {x10 : Int32} {xs0 : Int32} (hx : p.tables.exec = Jvm.exec) (hb : c.code = cL_isFree) (hr : meth.sig.returnType = (some .boolean)) (hml : c.maxLocals = 11) (hown : s.vm.findClass RL = some m.cls) (hg : ∀ w ∈ wsL_law, w.before args s = true) (hlocks : meth.locks = false) (hK : gK D y aS s) (hA : ∀ q, s.heap.size ≤ q → A q) (hL : ∀ k, k < 179 → k ∈ L) (hrec24 : ∀ {x9n9 : Int32} {x10n9 : Int32} (H : Heap) (locs : List Loc) (ls : Array Slot), gY D y A s L ad σ H locs → lv_has ls 11 [(1, .ref (ad 172)), (4, .ref (ad 176)), (5, .ref (ad 177)), (6, .int x6), (7, .long x7), (9, .int x9n9), (10, .int x10n9)] → rec24 (x9n9, x10n9) = some res → W p l e ({ frames := 3, cells := 0, slots := 0, locals := 73 } : Room) s m args below meth c H locs 0 0 (MQ below (va_Qi (fun (r : Int32) (_ : Unit) => r = res) (fun _ => gO D A (GW L y ad σ)) A) args s 0 0 A) (F0 m 24 ls [])) {H : Heap} {locs : List Loc} {ls : Array Slot} (hY : gY D y A s L ad σ H locs) (hl : lv_has ls 11 [(1, .ref (ad 172)), (4, .ref (ad 176)), (5, .ref (ad 177)), (6, .int x6), (7, .long x7), (10, .int x10)]) (h : fL_isFree_89 N rec24 σ x6 x7 x10 xs0 = some res) : W p l e ({ frames := 3, cells := 0, slots := 0, locals := 73 } : Room) s m args below meth c H locs 0 0 (MQ below (va_Qi (fun (r : Int32) (_ : Unit) => r = res) (fun _ => gO D A (GW L y ad σ)) A) args s 0 0 A) (F0 m 89 ls [.int xs0]) := by
  unfold fL_isFree_89 at h
  refine lv_istore (lv' := [(9, .int xs0), (1, .ref (ad 172)), (4, .ref (ad 176)), (5, .ref (ad 177)), (6, .int x6), (7, .long x7), (10, .int x10)]) hx hb dL_isFree_89 hl (by decide) rfl ?_
  clear hl
  intro ls hl
  refine lv_iinc (v := (x10 + 1)) (lv' := [(10, .int (x10 + 1)), (9, .int xs0), (1, .ref (ad 172)), (4, .ref (ad 176)), (5, .ref (ad 177)), (6, .int x6), (7, .long x7)]) hx hb dL_isFree_91 hl (k := 6) rfl rfl (by decide) rfl ?_
  clear hl
  intro ls hl
  refine lv_goto (tgt := 24) hx hb dL_isFree_94 (by decide) ?_
  exact hrec24 _ _ _ hY (lv_sub hl [2, 3, 4, 5, 6, 1, 0] rfl) h
def fL_isFree_88 (N : Nat) (rec24 : (Int32 × Int32) → Option Int32) (σ : gS) (x6 : Int32) (x7 : Int64) (x10 : Int32) : Option Int32 := fL_isFree_89 N rec24 σ x6 x7 x10 0
set_option maxRecDepth 100000 in
set_option maxHeartbeats 4000000 in
theorem wL_isFree_88 {rec24 : (Int32 × Int32) → Option Int32} {σ : gS} {x6 : Int32} {x7 : Int64} {x10 : Int32} (hx : p.tables.exec = Jvm.exec) (hb : c.code = cL_isFree) (hr : meth.sig.returnType = (some .boolean)) (hml : c.maxLocals = 11) (hown : s.vm.findClass RL = some m.cls) (hg : ∀ w ∈ wsL_law, w.before args s = true) (hlocks : meth.locks = false) (hK : gK D y aS s) (hA : ∀ q, s.heap.size ≤ q → A q) (hL : ∀ k, k < 179 → k ∈ L) (hrec24 : ∀ {x9n9 : Int32} {x10n9 : Int32} (H : Heap) (locs : List Loc) (ls : Array Slot), gY D y A s L ad σ H locs → lv_has ls 11 [(1, .ref (ad 172)), (4, .ref (ad 176)), (5, .ref (ad 177)), (6, .int x6), (7, .long x7), (9, .int x9n9), (10, .int x10n9)] → rec24 (x9n9, x10n9) = some res → W p l e ({ frames := 3, cells := 0, slots := 0, locals := 73 } : Room) s m args below meth c H locs 0 0 (MQ below (va_Qi (fun (r : Int32) (_ : Unit) => r = res) (fun _ => gO D A (GW L y ad σ)) A) args s 0 0 A) (F0 m 24 ls [])) {H : Heap} {locs : List Loc} {ls : Array Slot} (hY : gY D y A s L ad σ H locs) (hl : lv_has ls 11 [(1, .ref (ad 172)), (4, .ref (ad 176)), (5, .ref (ad 177)), (6, .int x6), (7, .long x7), (10, .int x10)]) (h : fL_isFree_88 N rec24 σ x6 x7 x10 = some res) : W p l e ({ frames := 3, cells := 0, slots := 0, locals := 73 } : Room) s m args below meth c H locs 0 0 (MQ below (va_Qi (fun (r : Int32) (_ : Unit) => r = res) (fun _ => gO D A (GW L y ad σ)) A) args s 0 0 A) (F0 m 88 ls []) := by
  unfold fL_isFree_88 at h
  refine lv_iconst (v := 0) hx hb dL_isFree_88 (by decide) ?_
  exact wL_isFree_89 hx hb hr hml hown hg hlocks hK hA hL hrec24 hY (lv_sub hl [0, 1, 2, 3, 4, 5] rfl) h
def fL_isFree_84 (N : Nat) (rec24 : (Int32 × Int32) → Option Int32) (σ : gS) (x6 : Int32) (x7 : Int64) (x10 : Int32) : Option Int32 := fL_isFree_89 N rec24 σ x6 x7 x10 1
set_option maxRecDepth 100000 in
set_option maxHeartbeats 4000000 in
theorem wL_isFree_84 {rec24 : (Int32 × Int32) → Option Int32} {σ : gS} {x6 : Int32} {x7 : Int64} {x10 : Int32} (hx : p.tables.exec = Jvm.exec) (hb : c.code = cL_isFree) (hr : meth.sig.returnType = (some .boolean)) (hml : c.maxLocals = 11) (hown : s.vm.findClass RL = some m.cls) (hg : ∀ w ∈ wsL_law, w.before args s = true) (hlocks : meth.locks = false) (hK : gK D y aS s) (hA : ∀ q, s.heap.size ≤ q → A q) (hL : ∀ k, k < 179 → k ∈ L) (hrec24 : ∀ {x9n9 : Int32} {x10n9 : Int32} (H : Heap) (locs : List Loc) (ls : Array Slot), gY D y A s L ad σ H locs → lv_has ls 11 [(1, .ref (ad 172)), (4, .ref (ad 176)), (5, .ref (ad 177)), (6, .int x6), (7, .long x7), (9, .int x9n9), (10, .int x10n9)] → rec24 (x9n9, x10n9) = some res → W p l e ({ frames := 3, cells := 0, slots := 0, locals := 73 } : Room) s m args below meth c H locs 0 0 (MQ below (va_Qi (fun (r : Int32) (_ : Unit) => r = res) (fun _ => gO D A (GW L y ad σ)) A) args s 0 0 A) (F0 m 24 ls [])) {H : Heap} {locs : List Loc} {ls : Array Slot} (hY : gY D y A s L ad σ H locs) (hl : lv_has ls 11 [(1, .ref (ad 172)), (4, .ref (ad 176)), (5, .ref (ad 177)), (6, .int x6), (7, .long x7), (10, .int x10)]) (h : fL_isFree_84 N rec24 σ x6 x7 x10 = some res) : W p l e ({ frames := 3, cells := 0, slots := 0, locals := 73 } : Room) s m args below meth c H locs 0 0 (MQ below (va_Qi (fun (r : Int32) (_ : Unit) => r = res) (fun _ => gO D A (GW L y ad σ)) A) args s 0 0 A) (F0 m 84 ls []) := by
  unfold fL_isFree_84 at h
  refine lv_iconst (v := 1) hx hb dL_isFree_84 (by decide) ?_
  refine lv_goto (tgt := 89) hx hb dL_isFree_85 (by decide) ?_
  exact wL_isFree_89 hx hb hr hml hown hg hlocks hK hA hL hrec24 hY (lv_sub hl [0, 1, 2, 3, 4, 5] rfl) h
def fL_isFree_24 (N : Nat) (σ : gS) (x6 : Int32) (x7 : Int64) (rec24 : (Int32 × Int32) → Option Int32) (xx : Int32 × Int32) : Option Int32 := match xx with
  | (x9, x10) => if 3 ≤ x10 then (if ¬ (x9 = 0 ∨ x9 = 1) then none else (some x9)) else (if x9 = 0 then (fL_isFree_88 N rec24 σ x6 x7 x10) else (if (6 * x10) < 0 ∨ 18 ≤ (6 * x10).toNatClampNeg then none else (if (σ.1 176 ((6 * x10).toNatClampNeg)) = x6 then (if ((6 * x10) + 2) < 0 ∨ 18 ≤ ((6 * x10) + 2).toNatClampNeg then none else (if (σ.1 176 (((6 * x10) + 2).toNatClampNeg)) = 0 then (if x10 < 0 ∨ 3 ≤ x10.toNatClampNeg then none else ((fL_key N σ x6 (σ.2.1 177 x10.toNatClampNeg)).bind fun r_9 => (fL_key N σ x6 x7).bind fun r_11 => if (lg_cmp r_9 r_11) = 0 then (fL_isFree_88 N rec24 σ x6 x7 x10) else (fL_isFree_84 N rec24 σ x6 x7 x10))) else (fL_isFree_84 N rec24 σ x6 x7 x10))) else (fL_isFree_84 N rec24 σ x6 x7 x10))))
set_option maxRecDepth 100000 in
set_option maxHeartbeats 4000000 in
theorem wL_isFree_24 {σ : gS} {x6 : Int32} {x7 : Int64} (hx : p.tables.exec = Jvm.exec) (hb : c.code = cL_isFree) (hr : meth.sig.returnType = (some .boolean)) (hml : c.maxLocals = 11) (hown : s.vm.findClass RL = some m.cls) (hg : ∀ w ∈ wsL_law, w.before args s = true) (hlocks : meth.locks = false) (hK : gK D y aS s) (hA : ∀ q, s.heap.size ≤ q → A q) (hL : ∀ k, k < 179 → k ∈ L) : ∀ (n : Nat) {x9 : Int32} {x10 : Int32} (H : Heap) (locs : List Loc) (ls : Array Slot), gY D y A s L ad σ H locs → lv_has ls 11 [(1, .ref (ad 172)), (4, .ref (ad 176)), (5, .ref (ad 177)), (6, .int x6), (7, .long x7), (9, .int x9), (10, .int x10)] → lp (fL_isFree_24 N σ x6 x7) n (x9, x10) = some res → W p l e ({ frames := 3, cells := 0, slots := 0, locals := 73 } : Room) s m args below meth c H locs 0 0 (MQ below (va_Qi (fun (r : Int32) (_ : Unit) => r = res) (fun _ => gO D A (GW L y ad σ)) A) args s 0 0 A) (F0 m 24 ls []) := by
  intro n
  induction n with
  | zero => intro x9 x10 H locs ls hY hl h; exact nomatch (show none = some res from h)
  | succ n hrec24 =>
    intro x9 x10 H locs ls hY hl h
    replace h : fL_isFree_24 N σ x6 x7 (lp (fL_isFree_24 N σ x6 x7) n) (x9, x10) = some res := h
    generalize lp (fL_isFree_24 N σ x6 x7) n = rec24 at h hrec24
    unfold fL_isFree_24 at h
    try dsimp only at h
    refine lv_iload hx hb dL_isFree_24 (lv_at hl 6 rfl) ?_
    refine lv_iconst (v := 3) hx hb dL_isFree_26 (by decide) ?_
    refine lv_icmp_ge (tgt := 97) hx hb dL_isFree_27 (by decide) (fun z_1 => ?_) (fun z_1 => ?_)
    ·
      rw [if_pos z_1] at h
      refine lv_iload hx hb dL_isFree_97 (lv_at hl 5 rfl) ?_
      obtain ⟨z_2, h⟩ := g_guard h
      cases h
      exact g_iret hx hb hr hlocks () hY.1 hY.2.1 hY.2.2 (g_nz (Classical.not_not.mp z_2)) rfl (Nat.le_of_ble_eq_true rfl) (Nat.le_of_ble_eq_true rfl) dL_isFree_99
    ·
      rw [if_neg z_1] at h
      refine lv_iload hx hb dL_isFree_30 (lv_at hl 5 rfl) ?_
      refine lv_if_eq (tgt := 88) hx hb dL_isFree_32 (by decide) (fun z_3 => ?_) (fun z_3 => ?_)
      ·
        rw [if_pos z_3] at h
        exact wL_isFree_88 hx hb hr hml hown hg hlocks hK hA hL hrec24 hY (lv_sub hl [0, 1, 2, 3, 4, 6] rfl) h
      ·
        rw [if_neg z_3] at h
        refine lv_aload hx hb dL_isFree_35 (lv_at hl 1 rfl) ?_
        refine lv_bipush (v := 6) hx hb dL_isFree_37 (by decide +kernel) ?_
        refine lv_iload hx hb dL_isFree_39 (lv_at hl 6 rfl) ?_
        refine lv_imul hx hb dL_isFree_41 ?_
        obtain ⟨z_4, h⟩ := g_guard h
        refine G_iald (j := (6 * x10).toNatClampNeg) hx hb hK hY (hL 176 (by decide)) gk_176 (by rw [gl_176]; exact z_4) rfl dL_isFree_42 ?_
        refine lv_iload hx hb dL_isFree_43 (lv_at hl 3 rfl) ?_
        refine lv_icmp_ne (tgt := 84) hx hb dL_isFree_45 (by decide) (fun z_5 => ?_) (fun z_5 => ?_)
        ·
          rw [if_neg z_5] at h
          exact wL_isFree_84 hx hb hr hml hown hg hlocks hK hA hL hrec24 hY (lv_sub hl [0, 1, 2, 3, 4, 6] rfl) h
        ·
          rw [if_pos z_5] at h
          refine lv_aload hx hb dL_isFree_48 (lv_at hl 1 rfl) ?_
          refine lv_bipush (v := 6) hx hb dL_isFree_50 (by decide +kernel) ?_
          refine lv_iload hx hb dL_isFree_52 (lv_at hl 6 rfl) ?_
          refine lv_imul hx hb dL_isFree_54 ?_
          refine lv_iconst (v := 2) hx hb dL_isFree_55 (by decide) ?_
          refine lv_iadd hx hb dL_isFree_56 ?_
          obtain ⟨z_6, h⟩ := g_guard h
          refine G_iald (j := ((6 * x10) + 2).toNatClampNeg) hx hb hK hY (hL 176 (by decide)) gk_176 (by rw [gl_176]; exact z_6) rfl dL_isFree_57 ?_
          refine lv_if_ne (tgt := 84) hx hb dL_isFree_58 (by decide) (fun z_7 => ?_) (fun z_7 => ?_)
          ·
            rw [if_neg z_7] at h
            exact wL_isFree_84 hx hb hr hml hown hg hlocks hK hA hL hrec24 hY (lv_sub hl [0, 1, 2, 3, 4, 6] rfl) h
          ·
            rw [if_pos z_7] at h
            refine lv_aload_n hx hb dL_isFree_61 rfl (lv_at hl 0 rfl) ?_
            refine lv_iload hx hb dL_isFree_62 (lv_at hl 3 rfl) ?_
            refine lv_aload hx hb dL_isFree_64 (lv_at hl 2 rfl) ?_
            refine lv_iload hx hb dL_isFree_66 (lv_at hl 6 rfl) ?_
            obtain ⟨z_8, h⟩ := g_guard h
            refine G_lald (j := x10.toNatClampNeg) hx hb hK hY (hL 177 (by decide)) gk_177 (by rw [gl_177]; exact z_8) rfl dL_isFree_68 ?_
            obtain ⟨r_9, e_10, h⟩ := g_bind h
            refine G_al hY hA (va_runS (As := [.ref (ad 172), .int x6, .long (σ.2.1 177 x10.toNatClampNeg)]) (rest := []) ⟨hx, hb, hml, hown, hg⟩ (kL_key l D y aS H.size L hL ad N σ x6 (σ.2.1 177 x10.toNatClampNeg) _ e_10) (va_cwS 3 hg ggS_RL_17_L_key rfl rfl rfl (by decide +kernel) ⟨Nat.le_of_ble_eq_true rfl, Nat.le_of_ble_eq_true rfl⟩) (G_pS hK hY) rfl rfl hl.1 rfl (lv_room (Nat.le_of_ble_eq_true rfl)) dL_isFree_69 ⟨Nat.le_of_ble_eq_true rfl, Nat.le_of_ble_eq_true rfl⟩) ?_
            clear hY
            rintro _ H locs rfl hY
            refine lv_aload_n hx hb dL_isFree_72 rfl (lv_at hl 0 rfl) ?_
            refine lv_iload hx hb dL_isFree_73 (lv_at hl 3 rfl) ?_
            refine lv_lload hx hb dL_isFree_75 (lv_at hl 4 rfl) ?_
            obtain ⟨r_11, e_12, h⟩ := g_bind h
            refine G_al hY hA (va_runS (As := [.ref (ad 172), .int x6, .long x7]) (rest := [.long r_9]) ⟨hx, hb, hml, hown, hg⟩ (kL_key l D y aS H.size L hL ad N σ x6 x7 _ e_12) (va_cwS 3 hg ggS_RL_17_L_key rfl rfl rfl (by decide +kernel) ⟨Nat.le_of_ble_eq_true rfl, Nat.le_of_ble_eq_true rfl⟩) (G_pS hK hY) rfl rfl hl.1 rfl (lv_room (Nat.le_of_ble_eq_true rfl)) dL_isFree_77 ⟨Nat.le_of_ble_eq_true rfl, Nat.le_of_ble_eq_true rfl⟩) ?_
            clear hY
            rintro _ H locs rfl hY
            refine W.lcmp hx hb dL_isFree_80 ?_
            refine lv_if_eq (tgt := 88) hx hb dL_isFree_81 (by decide) (fun z_13 => ?_) (fun z_13 => ?_)
            ·
              rw [if_pos z_13] at h
              exact wL_isFree_88 hx hb hr hml hown hg hlocks hK hA hL hrec24 hY (lv_sub hl [0, 1, 2, 3, 4, 6] rfl) h
            ·
              rw [if_neg z_13] at h
              exact wL_isFree_84 hx hb hr hml hown hg hlocks hK hA hL hrec24 hY (lv_sub hl [0, 1, 2, 3, 4, 6] rfl) h
def fL_isFree_19 (N : Nat) (σ : gS) (x6 : Int32) (x7 : Int64) (xs0 : Int32) : Option Int32 := lp (fL_isFree_24 N σ x6 x7) N (xs0, 0)
set_option maxRecDepth 100000 in
set_option maxHeartbeats 4000000 in
theorem wL_isFree_19 {σ : gS} {x6 : Int32} {x7 : Int64} {xs0 : Int32} (hx : p.tables.exec = Jvm.exec) (hb : c.code = cL_isFree) (hr : meth.sig.returnType = (some .boolean)) (hml : c.maxLocals = 11) (hown : s.vm.findClass RL = some m.cls) (hg : ∀ w ∈ wsL_law, w.before args s = true) (hlocks : meth.locks = false) (hK : gK D y aS s) (hA : ∀ q, s.heap.size ≤ q → A q) (hL : ∀ k, k < 179 → k ∈ L) {H : Heap} {locs : List Loc} {ls : Array Slot} (hY : gY D y A s L ad σ H locs) (hl : lv_has ls 11 [(1, .ref (ad 172)), (4, .ref (ad 176)), (5, .ref (ad 177)), (6, .int x6), (7, .long x7)]) (h : fL_isFree_19 N σ x6 x7 xs0 = some res) : W p l e ({ frames := 3, cells := 0, slots := 0, locals := 73 } : Room) s m args below meth c H locs 0 0 (MQ below (va_Qi (fun (r : Int32) (_ : Unit) => r = res) (fun _ => gO D A (GW L y ad σ)) A) args s 0 0 A) (F0 m 19 ls [.int xs0]) := by
  unfold fL_isFree_19 at h
  refine lv_istore (lv' := [(9, .int xs0), (1, .ref (ad 172)), (4, .ref (ad 176)), (5, .ref (ad 177)), (6, .int x6), (7, .long x7)]) hx hb dL_isFree_19 hl (by decide) rfl ?_
  clear hl
  intro ls hl
  refine lv_iconst (v := 0) hx hb dL_isFree_21 (by decide) ?_
  refine lv_istore (lv' := [(10, .int 0), (9, .int xs0), (1, .ref (ad 172)), (4, .ref (ad 176)), (5, .ref (ad 177)), (6, .int x6), (7, .long x7)]) hx hb dL_isFree_22 hl (by decide) rfl ?_
  clear hl
  intro ls hl
  exact wL_isFree_24 hx hb hr hml hown hg hlocks hK hA hL N _ _ _ hY (lv_sub hl [2, 3, 4, 5, 6, 1, 0] rfl) h
end
def fL_isFree (N : Nat) (σ : gS) (x6 : Int32) (x7 : Int64) : Option Int32 := (fL_verdict N σ x6 x7).bind fun r_1 => if r_1 = 0 then (fL_isFree_19 N σ x6 x7 1) else (fL_isFree_19 N σ x6 x7 0)
set_option maxRecDepth 100000 in
set_option maxHeartbeats 4000000 in
theorem kL_isFree (l : Launch) (D : va_G) (y : Nat → ClassId) (aS : Nat → Nat) (sz : Nat) (L : List Nat) (hL : ∀ k, k < 179 → k ∈ L) (ad : Nat → Nat) (N : Nat) (σ : gS) (x6 : Int32) (x7 : Int64) (res : Int32) (h : fL_isFree N σ x6 x7 = some res) : Met l yL_isFree (Cond.code yL_isFree cL_isFree 11 (some .boolean) :: wsL_law) ({ frames := 3, cells := 0, slots := 0, locals := 73 } : Room) (va_Pc [.ref (ad 161), .ref (ad 172), .ref (ad 174), .ref (ad 175), .ref (ad 176), .ref (ad 177), .int x6, .long x7] (gI D y aS (GW L y ad σ) sz)) (va_Qi (fun (r : Int32) (_ : Unit) => r = res) (fun _ => gO D (va_A (GW L y ad σ) sz) (GW L y ad σ)) (va_A (GW L y ad σ) sz)) 0 0 (va_A (GW L y ad σ) sz) := by
  refine g_of (by decide) (Nat.le_of_ble_eq_true rfl) ?_
  intro p e s m below meth c ls A hx hb hr hml hown hg hlocks hin hsz hK hP hD hS hA hAe hl
  rw [← hAe]
  replace hown : s.vm.findClass RL = some m.cls := hown
  have hY : gY D y A s L ad σ s.heap [] := ⟨hP, hD, hS⟩
  clear hP hD hS
  replace hl : lv_has ls 11 [(0, .ref (ad 161)), (1, .ref (ad 172)), (2, .ref (ad 174)), (3, .ref (ad 175)), (4, .ref (ad 176)), (5, .ref (ad 177)), (6, .int x6), (7, .long x7)] := hl
  unfold fL_isFree at h
  refine lv_aload_n hx hb dL_isFree_0 rfl (lv_at hl 0 rfl) ?_
  refine lv_aload_n hx hb dL_isFree_1 rfl (lv_at hl 1 rfl) ?_
  refine lv_aload_n hx hb dL_isFree_2 rfl (lv_at hl 2 rfl) ?_
  refine lv_aload_n hx hb dL_isFree_3 rfl (lv_at hl 3 rfl) ?_
  refine lv_iload hx hb dL_isFree_4 (lv_at hl 6 rfl) ?_
  refine lv_lload hx hb dL_isFree_6 (lv_at hl 7 rfl) ?_
  obtain ⟨r_1, e_2, h⟩ := g_bind h
  refine G_ai hY hA (va_runS (As := [.ref (ad 161), .ref (ad 172), .ref (ad 174), .ref (ad 175), .int x6, .long x7]) (rest := []) ⟨hx, hb, hml, hown, hg⟩ (kL_verdict l D y aS s.heap.size L hL ad N σ x6 x7 _ e_2) (va_cwS 6 hg ggS_RL_25_L_verdict rfl rfl rfl (by decide +kernel) ⟨Nat.le_of_ble_eq_true rfl, Nat.le_of_ble_eq_true rfl⟩) (G_pS hK hY) rfl rfl hl.1 rfl (lv_room (Nat.le_of_ble_eq_true rfl)) dL_isFree_8 ⟨Nat.le_of_ble_eq_true rfl, Nat.le_of_ble_eq_true rfl⟩) ?_
  clear hY
  rintro _ H locs rfl hY
  refine lv_if_ne (tgt := 18) hx hb dL_isFree_11 (by decide) (fun z_3 => ?_) (fun z_3 => ?_)
  ·
    rw [if_neg z_3] at h
    refine lv_iconst (v := 0) hx hb dL_isFree_18 (by decide) ?_
    exact wL_isFree_19 hx hb hr hml hown hg hlocks hK hA hL hY (lv_sub hl [1, 4, 5, 6, 7] rfl) h
  ·
    rw [if_pos z_3] at h
    refine lv_iconst (v := 1) hx hb dL_isFree_14 (by decide) ?_
    refine lv_goto (tgt := 19) hx hb dL_isFree_15 (by decide) ?_
    exact wL_isFree_19 hx hb hr hml hown hg hlocks hK hA hL hY (lv_sub hl [1, 4, 5, 6, 7] rfl) h
theorem ggS_RL_114_L_isFree : GoodIn wsL_law (va_wsS RL 114 yL_isFree (Cond.code yL_isFree cL_isFree 11 (some .boolean) :: wsL_law)) := g_gi (fun _ h => h) gW_good (List.forall_mem_cons.mpr ⟨⟨gw_729, rfl⟩, List.forall_mem_cons.mpr ⟨⟨gw_730, rfl⟩, List.forall_mem_cons.mpr ⟨⟨gw_162, rfl⟩, fun _ h => nomatch h⟩⟩⟩) ⟨gw_731, rfl⟩
section
variable {p : Program} {l : Launch} {e : Env} {s : State} {m : MethodId} {args : Array Value} {below : List Frame} {meth : Method} {c : Code} {D : va_G} {y : Nat → ClassId} {aS : Nat → Nat} {A : Nat → Prop} {L : List Nat} {ad : Nat → Nat} {N : Nat} {res : Int32}
def fL_isAhead_92 (N : Nat) (rec6 : (Int32 × Int32) → Option Int32) (σ : gS) (x6 : Int32) (x7 : Int32) (x9 : Int32) (x11 : Int32) (xs0 : Int32) : Option Int32 := rec6 (xs0, (x11 + 1))
set_option maxRecDepth 100000 in
set_option maxHeartbeats 4000000 in
theorem wL_isAhead_92 {rec6 : (Int32 × Int32) → Option Int32} {σ : gS} {x6 : Int32} {x7 : Int32} {x9 : Int32} {x11 : Int32} {xs0 : Int32} (hx : p.tables.exec = Jvm.exec) (hb : c.code = cL_isAhead) (hr : meth.sig.returnType = (some .boolean)) (hml : c.maxLocals = 13) (hown : s.vm.findClass RL = some m.cls) (hg : ∀ w ∈ wsL_law, w.before args s = true) (hlocks : meth.locks = false) (hK : gK D y aS s) (hA : ∀ q, s.heap.size ≤ q → A q) (hL : ∀ k, k < 179 → k ∈ L) (hT : 179 ∈ L ∧ 180 ∈ L ∧ 181 ∈ L) (hrec6 : ∀ {x10n9 : Int32} {x11n9 : Int32} (H : Heap) (locs : List Loc) (ls : Array Slot), gY D y A s L ad σ H locs → lv_has ls 13 [(0, .ref (ad 161)), (1, .ref (ad 162)), (2, .ref (ad 168)), (3, .ref (ad 172)), (4, .ref (ad 173)), (5, .ref (ad 179)), (6, .int x6), (7, .int x7), (8, .ref (ad 180)), (9, .int x9), (10, .int x10n9), (11, .int x11n9)] → rec6 (x10n9, x11n9) = some res → W p l e ({ frames := 2, cells := 0, slots := 0, locals := 46 } : Room) s m args below meth c H locs 0 0 (MQ below (va_Qi (fun (r : Int32) (_ : Unit) => r = res) (fun _ => gO D A (GW L y ad σ)) A) args s 0 0 A) (F0 m 6 ls [])) {H : Heap} {locs : List Loc} {ls : Array Slot} (hY : gY D y A s L ad σ H locs) (hl : lv_has ls 13 [(0, .ref (ad 161)), (1, .ref (ad 162)), (2, .ref (ad 168)), (3, .ref (ad 172)), (4, .ref (ad 173)), (5, .ref (ad 179)), (6, .int x6), (7, .int x7), (8, .ref (ad 180)), (9, .int x9), (11, .int x11)]) (h : fL_isAhead_92 N rec6 σ x6 x7 x9 x11 xs0 = some res) : W p l e ({ frames := 2, cells := 0, slots := 0, locals := 46 } : Room) s m args below meth c H locs 0 0 (MQ below (va_Qi (fun (r : Int32) (_ : Unit) => r = res) (fun _ => gO D A (GW L y ad σ)) A) args s 0 0 A) (F0 m 92 ls [.int xs0]) := by
  unfold fL_isAhead_92 at h
  refine lv_istore (lv' := [(10, .int xs0), (0, .ref (ad 161)), (1, .ref (ad 162)), (2, .ref (ad 168)), (3, .ref (ad 172)), (4, .ref (ad 173)), (5, .ref (ad 179)), (6, .int x6), (7, .int x7), (8, .ref (ad 180)), (9, .int x9), (11, .int x11)]) hx hb dL_isAhead_92 hl (by decide) rfl ?_
  clear hl
  intro ls hl
  refine lv_iinc (v := (x11 + 1)) (lv' := [(11, .int (x11 + 1)), (10, .int xs0), (0, .ref (ad 161)), (1, .ref (ad 162)), (2, .ref (ad 168)), (3, .ref (ad 172)), (4, .ref (ad 173)), (5, .ref (ad 179)), (6, .int x6), (7, .int x7), (8, .ref (ad 180)), (9, .int x9)]) hx hb dL_isAhead_94 hl (k := 11) rfl rfl (by decide) rfl ?_
  clear hl
  intro ls hl
  refine lv_goto (tgt := 6) hx hb dL_isAhead_97 (by decide) ?_
  exact hrec6 _ _ _ hY (lv_sub hl [2, 3, 4, 5, 6, 7, 8, 9, 10, 11, 1, 0] rfl) h
def fL_isAhead_87 (N : Nat) (rec6 : (Int32 × Int32) → Option Int32) (σ : gS) (x6 : Int32) (x7 : Int32) (x9 : Int32) (x11 : Int32) : Option Int32 := fL_isAhead_92 N rec6 σ x6 x7 x9 x11 1
set_option maxRecDepth 100000 in
set_option maxHeartbeats 4000000 in
theorem wL_isAhead_87 {rec6 : (Int32 × Int32) → Option Int32} {σ : gS} {x6 : Int32} {x7 : Int32} {x9 : Int32} {x11 : Int32} (hx : p.tables.exec = Jvm.exec) (hb : c.code = cL_isAhead) (hr : meth.sig.returnType = (some .boolean)) (hml : c.maxLocals = 13) (hown : s.vm.findClass RL = some m.cls) (hg : ∀ w ∈ wsL_law, w.before args s = true) (hlocks : meth.locks = false) (hK : gK D y aS s) (hA : ∀ q, s.heap.size ≤ q → A q) (hL : ∀ k, k < 179 → k ∈ L) (hT : 179 ∈ L ∧ 180 ∈ L ∧ 181 ∈ L) (hrec6 : ∀ {x10n9 : Int32} {x11n9 : Int32} (H : Heap) (locs : List Loc) (ls : Array Slot), gY D y A s L ad σ H locs → lv_has ls 13 [(0, .ref (ad 161)), (1, .ref (ad 162)), (2, .ref (ad 168)), (3, .ref (ad 172)), (4, .ref (ad 173)), (5, .ref (ad 179)), (6, .int x6), (7, .int x7), (8, .ref (ad 180)), (9, .int x9), (10, .int x10n9), (11, .int x11n9)] → rec6 (x10n9, x11n9) = some res → W p l e ({ frames := 2, cells := 0, slots := 0, locals := 46 } : Room) s m args below meth c H locs 0 0 (MQ below (va_Qi (fun (r : Int32) (_ : Unit) => r = res) (fun _ => gO D A (GW L y ad σ)) A) args s 0 0 A) (F0 m 6 ls [])) {H : Heap} {locs : List Loc} {ls : Array Slot} (hY : gY D y A s L ad σ H locs) (hl : lv_has ls 13 [(0, .ref (ad 161)), (1, .ref (ad 162)), (2, .ref (ad 168)), (3, .ref (ad 172)), (4, .ref (ad 173)), (5, .ref (ad 179)), (6, .int x6), (7, .int x7), (8, .ref (ad 180)), (9, .int x9), (11, .int x11)]) (h : fL_isAhead_87 N rec6 σ x6 x7 x9 x11 = some res) : W p l e ({ frames := 2, cells := 0, slots := 0, locals := 46 } : Room) s m args below meth c H locs 0 0 (MQ below (va_Qi (fun (r : Int32) (_ : Unit) => r = res) (fun _ => gO D A (GW L y ad σ)) A) args s 0 0 A) (F0 m 87 ls []) := by
  unfold fL_isAhead_87 at h
  refine lv_iconst (v := 1) hx hb dL_isAhead_87 (by decide) ?_
  refine lv_goto (tgt := 92) hx hb dL_isAhead_88 (by decide) ?_
  exact wL_isAhead_92 hx hb hr hml hown hg hlocks hK hA hL hT hrec6 hY (lv_sub hl [0, 1, 2, 3, 4, 5, 6, 7, 8, 9, 10] rfl) h
def fL_isAhead_91 (N : Nat) (rec6 : (Int32 × Int32) → Option Int32) (σ : gS) (x6 : Int32) (x7 : Int32) (x9 : Int32) (x11 : Int32) : Option Int32 := fL_isAhead_92 N rec6 σ x6 x7 x9 x11 0
set_option maxRecDepth 100000 in
set_option maxHeartbeats 4000000 in
theorem wL_isAhead_91 {rec6 : (Int32 × Int32) → Option Int32} {σ : gS} {x6 : Int32} {x7 : Int32} {x9 : Int32} {x11 : Int32} (hx : p.tables.exec = Jvm.exec) (hb : c.code = cL_isAhead) (hr : meth.sig.returnType = (some .boolean)) (hml : c.maxLocals = 13) (hown : s.vm.findClass RL = some m.cls) (hg : ∀ w ∈ wsL_law, w.before args s = true) (hlocks : meth.locks = false) (hK : gK D y aS s) (hA : ∀ q, s.heap.size ≤ q → A q) (hL : ∀ k, k < 179 → k ∈ L) (hT : 179 ∈ L ∧ 180 ∈ L ∧ 181 ∈ L) (hrec6 : ∀ {x10n9 : Int32} {x11n9 : Int32} (H : Heap) (locs : List Loc) (ls : Array Slot), gY D y A s L ad σ H locs → lv_has ls 13 [(0, .ref (ad 161)), (1, .ref (ad 162)), (2, .ref (ad 168)), (3, .ref (ad 172)), (4, .ref (ad 173)), (5, .ref (ad 179)), (6, .int x6), (7, .int x7), (8, .ref (ad 180)), (9, .int x9), (10, .int x10n9), (11, .int x11n9)] → rec6 (x10n9, x11n9) = some res → W p l e ({ frames := 2, cells := 0, slots := 0, locals := 46 } : Room) s m args below meth c H locs 0 0 (MQ below (va_Qi (fun (r : Int32) (_ : Unit) => r = res) (fun _ => gO D A (GW L y ad σ)) A) args s 0 0 A) (F0 m 6 ls [])) {H : Heap} {locs : List Loc} {ls : Array Slot} (hY : gY D y A s L ad σ H locs) (hl : lv_has ls 13 [(0, .ref (ad 161)), (1, .ref (ad 162)), (2, .ref (ad 168)), (3, .ref (ad 172)), (4, .ref (ad 173)), (5, .ref (ad 179)), (6, .int x6), (7, .int x7), (8, .ref (ad 180)), (9, .int x9), (11, .int x11)]) (h : fL_isAhead_91 N rec6 σ x6 x7 x9 x11 = some res) : W p l e ({ frames := 2, cells := 0, slots := 0, locals := 46 } : Room) s m args below meth c H locs 0 0 (MQ below (va_Qi (fun (r : Int32) (_ : Unit) => r = res) (fun _ => gO D A (GW L y ad σ)) A) args s 0 0 A) (F0 m 91 ls []) := by
  unfold fL_isAhead_91 at h
  refine lv_iconst (v := 0) hx hb dL_isAhead_91 (by decide) ?_
  exact wL_isAhead_92 hx hb hr hml hown hg hlocks hK hA hL hT hrec6 hY (lv_sub hl [0, 1, 2, 3, 4, 5, 6, 7, 8, 9, 10] rfl) h
def fL_isAhead_6 (N : Nat) (σ : gS) (x6 : Int32) (x7 : Int32) (x9 : Int32) (rec6 : (Int32 × Int32) → Option Int32) (xx : Int32 × Int32) : Option Int32 := match xx with
  | (x10, x11) => if x6 ≤ x11 then (if ¬ (x10 = 0 ∨ x10 = 1) then none else (some x10)) else (if x11 < 0 ∨ 32 ≤ x11.toNatClampNeg then none else (if x10 = 0 then (if x7 ≤ ((σ.1 179 x11.toNatClampNeg) / 100) then (fL_isAhead_91 N rec6 σ x6 x7 x9 x11) else (if x11 < 0 ∨ 32 ≤ x11.toNatClampNeg then none else ((fL_required N σ ((σ.1 179 x11.toNatClampNeg) - (σ.1 179 x11.toNatClampNeg) / 100 * 100)).bind fun r_7 => if ((r_7 >>> (x9 &&& 31)) &&& 1) = 1 then (if ((σ.1 179 x11.toNatClampNeg) / 100) < 0 ∨ 5 ≤ ((σ.1 179 x11.toNatClampNeg) / 100).toNatClampNeg then none else ((fL_key N σ x9 (σ.2.1 180 (((σ.1 179 x11.toNatClampNeg) / 100).toNatClampNeg))).bind fun r_11 => if x7 < 0 ∨ 5 ≤ x7.toNatClampNeg then none else ((fL_key N σ x9 (σ.2.1 180 x7.toNatClampNeg)).bind fun r_14 => if (lg_cmp r_11 r_14) = 0 then (fL_isAhead_87 N rec6 σ x6 x7 x9 x11) else (fL_isAhead_91 N rec6 σ x6 x7 x9 x11)))) else (fL_isAhead_91 N rec6 σ x6 x7 x9 x11)))) else (fL_isAhead_87 N rec6 σ x6 x7 x9 x11)))
set_option maxRecDepth 100000 in
set_option maxHeartbeats 4000000 in
theorem wL_isAhead_6 {σ : gS} {x6 : Int32} {x7 : Int32} {x9 : Int32} (hx : p.tables.exec = Jvm.exec) (hb : c.code = cL_isAhead) (hr : meth.sig.returnType = (some .boolean)) (hml : c.maxLocals = 13) (hown : s.vm.findClass RL = some m.cls) (hg : ∀ w ∈ wsL_law, w.before args s = true) (hlocks : meth.locks = false) (hK : gK D y aS s) (hA : ∀ q, s.heap.size ≤ q → A q) (hL : ∀ k, k < 179 → k ∈ L) (hT : 179 ∈ L ∧ 180 ∈ L ∧ 181 ∈ L) : ∀ (n : Nat) {x10 : Int32} {x11 : Int32} (H : Heap) (locs : List Loc) (ls : Array Slot), gY D y A s L ad σ H locs → lv_has ls 13 [(0, .ref (ad 161)), (1, .ref (ad 162)), (2, .ref (ad 168)), (3, .ref (ad 172)), (4, .ref (ad 173)), (5, .ref (ad 179)), (6, .int x6), (7, .int x7), (8, .ref (ad 180)), (9, .int x9), (10, .int x10), (11, .int x11)] → lp (fL_isAhead_6 N σ x6 x7 x9) n (x10, x11) = some res → W p l e ({ frames := 2, cells := 0, slots := 0, locals := 46 } : Room) s m args below meth c H locs 0 0 (MQ below (va_Qi (fun (r : Int32) (_ : Unit) => r = res) (fun _ => gO D A (GW L y ad σ)) A) args s 0 0 A) (F0 m 6 ls []) := by
  intro n
  induction n with
  | zero => intro x10 x11 H locs ls hY hl h; exact nomatch (show none = some res from h)
  | succ n hrec6 =>
    intro x10 x11 H locs ls hY hl h
    replace h : fL_isAhead_6 N σ x6 x7 x9 (lp (fL_isAhead_6 N σ x6 x7 x9) n) (x10, x11) = some res := h
    generalize lp (fL_isAhead_6 N σ x6 x7 x9) n = rec6 at h hrec6
    unfold fL_isAhead_6 at h
    try dsimp only at h
    refine lv_iload hx hb dL_isAhead_6 (lv_at hl 11 rfl) ?_
    refine lv_iload hx hb dL_isAhead_8 (lv_at hl 6 rfl) ?_
    refine lv_icmp_ge (tgt := 100) hx hb dL_isAhead_10 (by decide) (fun z_1 => ?_) (fun z_1 => ?_)
    ·
      rw [if_pos z_1] at h
      refine lv_iload hx hb dL_isAhead_100 (lv_at hl 10 rfl) ?_
      obtain ⟨z_2, h⟩ := g_guard h
      cases h
      exact g_iret hx hb hr hlocks () hY.1 hY.2.1 hY.2.2 (g_nz (Classical.not_not.mp z_2)) rfl (Nat.le_of_ble_eq_true rfl) (Nat.le_of_ble_eq_true rfl) dL_isAhead_102
    ·
      rw [if_neg z_1] at h
      refine lv_aload hx hb dL_isAhead_13 (lv_at hl 5 rfl) ?_
      refine lv_iload hx hb dL_isAhead_15 (lv_at hl 11 rfl) ?_
      obtain ⟨z_3, h⟩ := g_guard h
      refine G_iald (j := x11.toNatClampNeg) hx hb hK hY hT.1 gk_179 (by rw [gl_179]; exact z_3) rfl dL_isAhead_17 ?_
      refine lv_bipush (v := 100) hx hb dL_isAhead_18 (by decide +kernel) ?_
      refine lv_idiv hx hb dL_isAhead_20 (by decide +kernel) ?_
      refine lv_istore (lv' := [(12, .int ((σ.1 179 x11.toNatClampNeg) / 100)), (0, .ref (ad 161)), (1, .ref (ad 162)), (2, .ref (ad 168)), (3, .ref (ad 172)), (4, .ref (ad 173)), (5, .ref (ad 179)), (6, .int x6), (7, .int x7), (8, .ref (ad 180)), (9, .int x9), (10, .int x10), (11, .int x11)]) hx hb dL_isAhead_21 hl (by decide) rfl ?_
      clear hl
      intro ls hl
      refine lv_iload hx hb dL_isAhead_23 (lv_at hl 11 rfl) ?_
      refine lv_if_ne (tgt := 87) hx hb dL_isAhead_25 (by decide) (fun z_4 => ?_) (fun z_4 => ?_)
      ·
        rw [if_neg z_4] at h
        exact wL_isAhead_87 hx hb hr hml hown hg hlocks hK hA hL hT hrec6 hY (lv_sub hl [1, 2, 3, 4, 5, 6, 7, 8, 9, 10, 12] rfl) h
      ·
        rw [if_pos z_4] at h
        refine lv_iload hx hb dL_isAhead_28 (lv_at hl 0 rfl) ?_
        refine lv_iload hx hb dL_isAhead_30 (lv_at hl 8 rfl) ?_
        refine lv_icmp_ge (tgt := 91) hx hb dL_isAhead_32 (by decide) (fun z_5 => ?_) (fun z_5 => ?_)
        ·
          rw [if_pos z_5] at h
          exact wL_isAhead_91 hx hb hr hml hown hg hlocks hK hA hL hT hrec6 hY (lv_sub hl [1, 2, 3, 4, 5, 6, 7, 8, 9, 10, 12] rfl) h
        ·
          rw [if_neg z_5] at h
          refine lv_aload_n hx hb dL_isAhead_35 rfl (lv_at hl 1 rfl) ?_
          refine lv_aload_n hx hb dL_isAhead_36 rfl (lv_at hl 2 rfl) ?_
          refine lv_aload_n hx hb dL_isAhead_37 rfl (lv_at hl 3 rfl) ?_
          refine lv_aload_n hx hb dL_isAhead_38 rfl (lv_at hl 4 rfl) ?_
          refine lv_aload hx hb dL_isAhead_39 (lv_at hl 5 rfl) ?_
          refine lv_aload hx hb dL_isAhead_41 (lv_at hl 6 rfl) ?_
          refine lv_iload hx hb dL_isAhead_43 (lv_at hl 12 rfl) ?_
          obtain ⟨z_6, h⟩ := g_guard h
          refine G_iald (j := x11.toNatClampNeg) hx hb hK hY hT.1 gk_179 (by rw [gl_179]; exact z_6) rfl dL_isAhead_45 ?_
          refine lv_bipush (v := 100) hx hb dL_isAhead_46 (by decide +kernel) ?_
          refine lv_irem hx hb dL_isAhead_48 (by decide +kernel) ?_
          obtain ⟨r_7, e_8, h⟩ := g_bind h
          refine G_ai hY hA (va_runS (As := [.ref (ad 161), .ref (ad 162), .ref (ad 168), .ref (ad 172), .ref (ad 173), .int ((σ.1 179 x11.toNatClampNeg) - (σ.1 179 x11.toNatClampNeg) / 100 * 100)]) (rest := []) ⟨hx, hb, hml, hown, hg⟩ (kL_required l D y aS H.size L hL ad N σ ((σ.1 179 x11.toNatClampNeg) - (σ.1 179 x11.toNatClampNeg) / 100 * 100) _ e_8) (va_cwS 6 hg ggS_RL_53_L_required rfl rfl rfl (by decide +kernel) ⟨Nat.le_of_ble_eq_true rfl, Nat.le_of_ble_eq_true rfl⟩) (G_pS hK hY) rfl rfl hl.1 rfl (lv_room (Nat.le_of_ble_eq_true rfl)) dL_isAhead_49 ⟨Nat.le_of_ble_eq_true rfl, Nat.le_of_ble_eq_true rfl⟩) ?_
          clear hY
          rintro _ H locs rfl hY
          refine lv_iload hx hb dL_isAhead_52 (lv_at hl 10 rfl) ?_
          refine lv_ishr hx hb dL_isAhead_54 ?_
          refine lv_iconst (v := 1) hx hb dL_isAhead_55 (by decide) ?_
          refine lv_iand hx hb dL_isAhead_56 ?_
          refine lv_iconst (v := 1) hx hb dL_isAhead_57 (by decide) ?_
          refine lv_icmp_ne (tgt := 91) hx hb dL_isAhead_58 (by decide) (fun z_9 => ?_) (fun z_9 => ?_)
          ·
            rw [if_neg z_9] at h
            exact wL_isAhead_91 hx hb hr hml hown hg hlocks hK hA hL hT hrec6 hY (lv_sub hl [1, 2, 3, 4, 5, 6, 7, 8, 9, 10, 12] rfl) h
          ·
            rw [if_pos z_9] at h
            refine lv_aload_n hx hb dL_isAhead_61 rfl (lv_at hl 4 rfl) ?_
            refine lv_iload hx hb dL_isAhead_62 (lv_at hl 10 rfl) ?_
            refine lv_aload hx hb dL_isAhead_64 (lv_at hl 9 rfl) ?_
            refine lv_iload hx hb dL_isAhead_66 (lv_at hl 0 rfl) ?_
            obtain ⟨z_10, h⟩ := g_guard h
            refine G_lald (j := ((σ.1 179 x11.toNatClampNeg) / 100).toNatClampNeg) hx hb hK hY hT.2.1 gk_180 (by rw [gl_180]; exact z_10) rfl dL_isAhead_68 ?_
            obtain ⟨r_11, e_12, h⟩ := g_bind h
            refine G_al hY hA (va_runS (As := [.ref (ad 172), .int x9, .long (σ.2.1 180 (((σ.1 179 x11.toNatClampNeg) / 100).toNatClampNeg))]) (rest := []) ⟨hx, hb, hml, hown, hg⟩ (kL_key l D y aS H.size L hL ad N σ x9 (σ.2.1 180 (((σ.1 179 x11.toNatClampNeg) / 100).toNatClampNeg)) _ e_12) (va_cwS 3 hg ggS_RL_17_L_key rfl rfl rfl (by decide +kernel) ⟨Nat.le_of_ble_eq_true rfl, Nat.le_of_ble_eq_true rfl⟩) (G_pS hK hY) rfl rfl hl.1 rfl (lv_room (Nat.le_of_ble_eq_true rfl)) dL_isAhead_69 ⟨Nat.le_of_ble_eq_true rfl, Nat.le_of_ble_eq_true rfl⟩) ?_
            clear hY
            rintro _ H locs rfl hY
            refine lv_aload_n hx hb dL_isAhead_72 rfl (lv_at hl 4 rfl) ?_
            refine lv_iload hx hb dL_isAhead_73 (lv_at hl 10 rfl) ?_
            refine lv_aload hx hb dL_isAhead_75 (lv_at hl 9 rfl) ?_
            refine lv_iload hx hb dL_isAhead_77 (lv_at hl 8 rfl) ?_
            obtain ⟨z_13, h⟩ := g_guard h
            refine G_lald (j := x7.toNatClampNeg) hx hb hK hY hT.2.1 gk_180 (by rw [gl_180]; exact z_13) rfl dL_isAhead_79 ?_
            obtain ⟨r_14, e_15, h⟩ := g_bind h
            refine G_al hY hA (va_runS (As := [.ref (ad 172), .int x9, .long (σ.2.1 180 x7.toNatClampNeg)]) (rest := [.long r_11]) ⟨hx, hb, hml, hown, hg⟩ (kL_key l D y aS H.size L hL ad N σ x9 (σ.2.1 180 x7.toNatClampNeg) _ e_15) (va_cwS 3 hg ggS_RL_17_L_key rfl rfl rfl (by decide +kernel) ⟨Nat.le_of_ble_eq_true rfl, Nat.le_of_ble_eq_true rfl⟩) (G_pS hK hY) rfl rfl hl.1 rfl (lv_room (Nat.le_of_ble_eq_true rfl)) dL_isAhead_80 ⟨Nat.le_of_ble_eq_true rfl, Nat.le_of_ble_eq_true rfl⟩) ?_
            clear hY
            rintro _ H locs rfl hY
            refine W.lcmp hx hb dL_isAhead_83 ?_
            refine lv_if_ne (tgt := 91) hx hb dL_isAhead_84 (by decide) (fun z_16 => ?_) (fun z_16 => ?_)
            ·
              rw [if_neg z_16] at h
              exact wL_isAhead_91 hx hb hr hml hown hg hlocks hK hA hL hT hrec6 hY (lv_sub hl [1, 2, 3, 4, 5, 6, 7, 8, 9, 10, 12] rfl) h
            ·
              rw [if_pos z_16] at h
              exact wL_isAhead_87 hx hb hr hml hown hg hlocks hK hA hL hT hrec6 hY (lv_sub hl [1, 2, 3, 4, 5, 6, 7, 8, 9, 10, 12] rfl) h
end
def fL_isAhead (N : Nat) (σ : gS) (x6 : Int32) (x7 : Int32) (x9 : Int32) : Option Int32 := lp (fL_isAhead_6 N σ x6 x7 x9) N (0, 0)
set_option maxRecDepth 100000 in
set_option maxHeartbeats 4000000 in
theorem kL_isAhead (l : Launch) (D : va_G) (y : Nat → ClassId) (aS : Nat → Nat) (sz : Nat) (L : List Nat) (hL : ∀ k, k < 179 → k ∈ L) (hT : 179 ∈ L ∧ 180 ∈ L ∧ 181 ∈ L) (ad : Nat → Nat) (N : Nat) (σ : gS) (x6 : Int32) (x7 : Int32) (x9 : Int32) (res : Int32) (h : fL_isAhead N σ x6 x7 x9 = some res) : Met l yL_isAhead (Cond.code yL_isAhead cL_isAhead 13 (some .boolean) :: wsL_law) ({ frames := 2, cells := 0, slots := 0, locals := 46 } : Room) (va_Pc [.ref (ad 161), .ref (ad 162), .ref (ad 168), .ref (ad 172), .ref (ad 173), .ref (ad 179), .int x6, .int x7, .ref (ad 180), .int x9] (gI D y aS (GW L y ad σ) sz)) (va_Qi (fun (r : Int32) (_ : Unit) => r = res) (fun _ => gO D (va_A (GW L y ad σ) sz) (GW L y ad σ)) (va_A (GW L y ad σ) sz)) 0 0 (va_A (GW L y ad σ) sz) := by
  refine g_of (by decide) (Nat.le_of_ble_eq_true rfl) ?_
  intro p e s m below meth c ls A hx hb hr hml hown hg hlocks hin hsz hK hP hD hS hA hAe hl
  rw [← hAe]
  replace hown : s.vm.findClass RL = some m.cls := hown
  have hY : gY D y A s L ad σ s.heap [] := ⟨hP, hD, hS⟩
  clear hP hD hS
  replace hl : lv_has ls 13 [(0, .ref (ad 161)), (1, .ref (ad 162)), (2, .ref (ad 168)), (3, .ref (ad 172)), (4, .ref (ad 173)), (5, .ref (ad 179)), (6, .int x6), (7, .int x7), (8, .ref (ad 180)), (9, .int x9)] := hl
  unfold fL_isAhead at h
  refine lv_iconst (v := 0) hx hb dL_isAhead_0 (by decide) ?_
  refine lv_istore (lv' := [(10, .int 0), (0, .ref (ad 161)), (1, .ref (ad 162)), (2, .ref (ad 168)), (3, .ref (ad 172)), (4, .ref (ad 173)), (5, .ref (ad 179)), (6, .int x6), (7, .int x7), (8, .ref (ad 180)), (9, .int x9)]) hx hb dL_isAhead_1 hl (by decide) rfl ?_
  clear hl
  intro ls hl
  refine lv_iconst (v := 0) hx hb dL_isAhead_3 (by decide) ?_
  refine lv_istore (lv' := [(11, .int 0), (10, .int 0), (0, .ref (ad 161)), (1, .ref (ad 162)), (2, .ref (ad 168)), (3, .ref (ad 172)), (4, .ref (ad 173)), (5, .ref (ad 179)), (6, .int x6), (7, .int x7), (8, .ref (ad 180)), (9, .int x9)]) hx hb dL_isAhead_4 hl (by decide) rfl ?_
  clear hl
  intro ls hl
  exact wL_isAhead_6 hx hb hr hml hown hg hlocks hK hA hL hT N _ _ _ hY (lv_sub hl [2, 3, 4, 5, 6, 7, 8, 9, 10, 11, 1, 0] rfl) h
theorem ggS_RL_118_L_isAhead : GoodIn wsL_law (va_wsS RL 118 yL_isAhead (Cond.code yL_isAhead cL_isAhead 13 (some .boolean) :: wsL_law)) := g_gi (fun _ h => h) gW_good (List.forall_mem_cons.mpr ⟨⟨gw_735, rfl⟩, List.forall_mem_cons.mpr ⟨⟨gw_736, rfl⟩, List.forall_mem_cons.mpr ⟨⟨gw_162, rfl⟩, fun _ h => nomatch h⟩⟩⟩) ⟨gw_737, rfl⟩
theorem ggS_RL_110_L_many : GoodIn wsL_law (va_wsS RL 110 yL_many (Cond.code yL_many cL_many 5 (some .int) :: wsL_law)) := g_gi (fun _ h => h) gW_good (List.forall_mem_cons.mpr ⟨⟨gw_551, rfl⟩, List.forall_mem_cons.mpr ⟨⟨gw_552, rfl⟩, List.forall_mem_cons.mpr ⟨⟨gw_162, rfl⟩, fun _ h => nomatch h⟩⟩⟩) ⟨gw_553, rfl⟩
section
variable {p : Program} {l : Launch} {e : Env} {s : State} {m : MethodId} {args : Array Value} {below : List Frame} {meth : Method} {c : Code} {D : va_G} {y : Nat → ClassId} {aS : Nat → Nat} {A : Nat → Prop} {L : List Nat} {ad : Nat → Nat} {N : Nat} {res : Int32}
def fL_wanted_218 (N : Nat) (rec3 : Int32 → Option Int32) (σ : gS) (x10 : Int32) (x12 : Int32) (x13 : Int32) : Option Int32 := rec3 (x13 + 1)
set_option maxRecDepth 100000 in
set_option maxHeartbeats 4000000 in
theorem wL_wanted_218 {rec3 : Int32 → Option Int32} {σ : gS} {x10 : Int32} {x12 : Int32} {x13 : Int32} (hx : p.tables.exec = Jvm.exec) (hb : c.code = cL_wanted) (hr : meth.sig.returnType = (some .int)) (hml : c.maxLocals = 19) (hown : s.vm.findClass RL = some m.cls) (hg : ∀ w ∈ wsL_law, w.before args s = true) (hlocks : meth.locks = false) (hK : gK D y aS s) (hA : ∀ q, s.heap.size ≤ q → A q) (hL : ∀ k, k < 179 → k ∈ L) (hT : 179 ∈ L ∧ 180 ∈ L ∧ 181 ∈ L) (hrec3 : ∀ {x13n9 : Int32} (H : Heap) (locs : List Loc) (ls : Array Slot), gY D y A s L ad σ H locs → lv_has ls 19 [(0, .ref (ad 161)), (1, .ref (ad 162)), (2, .ref (ad 168)), (3, .ref (ad 172)), (4, .ref (ad 173)), (5, .ref (ad 174)), (6, .ref (ad 175)), (7, .ref (ad 176)), (8, .ref (ad 177)), (9, .ref (ad 179)), (10, .int x10), (11, .ref (ad 180)), (12, .int x12), (13, .int x13n9)] → rec3 x13n9 = some res → W p l e ({ frames := 4, cells := 0, slots := 0, locals := 103 } : Room) s m args below meth c H locs 0 0 (MQ below (va_Qi (fun (r : Int32) (_ : Unit) => r = res) (fun _ => gO D A (GW L y ad σ)) A) args s 0 0 A) (F0 m 3 ls [])) {H : Heap} {locs : List Loc} {ls : Array Slot} (hY : gY D y A s L ad σ H locs) (hl : lv_has ls 19 [(0, .ref (ad 161)), (1, .ref (ad 162)), (2, .ref (ad 168)), (3, .ref (ad 172)), (4, .ref (ad 173)), (5, .ref (ad 174)), (6, .ref (ad 175)), (7, .ref (ad 176)), (8, .ref (ad 177)), (9, .ref (ad 179)), (10, .int x10), (11, .ref (ad 180)), (12, .int x12), (13, .int x13)]) (h : fL_wanted_218 N rec3 σ x10 x12 x13 = some res) : W p l e ({ frames := 4, cells := 0, slots := 0, locals := 103 } : Room) s m args below meth c H locs 0 0 (MQ below (va_Qi (fun (r : Int32) (_ : Unit) => r = res) (fun _ => gO D A (GW L y ad σ)) A) args s 0 0 A) (F0 m 218 ls []) := by
  unfold fL_wanted_218 at h
  refine lv_iinc (v := (x13 + 1)) (lv' := [(13, .int (x13 + 1)), (0, .ref (ad 161)), (1, .ref (ad 162)), (2, .ref (ad 168)), (3, .ref (ad 172)), (4, .ref (ad 173)), (5, .ref (ad 174)), (6, .ref (ad 175)), (7, .ref (ad 176)), (8, .ref (ad 177)), (9, .ref (ad 179)), (10, .int x10), (11, .ref (ad 180)), (12, .int x12)]) hx hb dL_wanted_218 hl (k := 13) rfl rfl (by decide) rfl ?_
  clear hl
  intro ls hl
  refine lv_goto (tgt := 3) hx hb dL_wanted_221 (by decide) ?_
  exact hrec3 _ _ _ hY (lv_sub hl [1, 2, 3, 4, 5, 6, 7, 8, 9, 10, 11, 12, 13, 0] rfl) h
def fL_wanted_212 (N : Nat) (rec3 : Int32 → Option Int32) (rec68 : Int32 → Option Int32) (σ : gS) (x10 : Int32) (x12 : Int32) (x13 : Int32) (x14 : Int32) (x15 : Int32) (x16 : Int32) : Option Int32 := rec68 (x16 + 1)
set_option maxRecDepth 100000 in
set_option maxHeartbeats 4000000 in
theorem wL_wanted_212 {rec3 : Int32 → Option Int32} {rec68 : Int32 → Option Int32} {σ : gS} {x10 : Int32} {x12 : Int32} {x13 : Int32} {x14 : Int32} {x15 : Int32} {x16 : Int32} (hx : p.tables.exec = Jvm.exec) (hb : c.code = cL_wanted) (hr : meth.sig.returnType = (some .int)) (hml : c.maxLocals = 19) (hown : s.vm.findClass RL = some m.cls) (hg : ∀ w ∈ wsL_law, w.before args s = true) (hlocks : meth.locks = false) (hK : gK D y aS s) (hA : ∀ q, s.heap.size ≤ q → A q) (hL : ∀ k, k < 179 → k ∈ L) (hT : 179 ∈ L ∧ 180 ∈ L ∧ 181 ∈ L) (hrec3 : ∀ {x13n9 : Int32} (H : Heap) (locs : List Loc) (ls : Array Slot), gY D y A s L ad σ H locs → lv_has ls 19 [(0, .ref (ad 161)), (1, .ref (ad 162)), (2, .ref (ad 168)), (3, .ref (ad 172)), (4, .ref (ad 173)), (5, .ref (ad 174)), (6, .ref (ad 175)), (7, .ref (ad 176)), (8, .ref (ad 177)), (9, .ref (ad 179)), (10, .int x10), (11, .ref (ad 180)), (12, .int x12), (13, .int x13n9)] → rec3 x13n9 = some res → W p l e ({ frames := 4, cells := 0, slots := 0, locals := 103 } : Room) s m args below meth c H locs 0 0 (MQ below (va_Qi (fun (r : Int32) (_ : Unit) => r = res) (fun _ => gO D A (GW L y ad σ)) A) args s 0 0 A) (F0 m 3 ls [])) (hrec68 : ∀ {x16n9 : Int32} (H : Heap) (locs : List Loc) (ls : Array Slot), gY D y A s L ad σ H locs → lv_has ls 19 [(0, .ref (ad 161)), (1, .ref (ad 162)), (2, .ref (ad 168)), (3, .ref (ad 172)), (4, .ref (ad 173)), (5, .ref (ad 174)), (6, .ref (ad 175)), (7, .ref (ad 176)), (8, .ref (ad 177)), (9, .ref (ad 179)), (10, .int x10), (11, .ref (ad 180)), (12, .int x12), (13, .int x13), (14, .int x14), (15, .int x15), (16, .int x16n9)] → rec68 x16n9 = some res → W p l e ({ frames := 4, cells := 0, slots := 0, locals := 103 } : Room) s m args below meth c H locs 0 0 (MQ below (va_Qi (fun (r : Int32) (_ : Unit) => r = res) (fun _ => gO D A (GW L y ad σ)) A) args s 0 0 A) (F0 m 68 ls [])) {H : Heap} {locs : List Loc} {ls : Array Slot} (hY : gY D y A s L ad σ H locs) (hl : lv_has ls 19 [(0, .ref (ad 161)), (1, .ref (ad 162)), (2, .ref (ad 168)), (3, .ref (ad 172)), (4, .ref (ad 173)), (5, .ref (ad 174)), (6, .ref (ad 175)), (7, .ref (ad 176)), (8, .ref (ad 177)), (9, .ref (ad 179)), (10, .int x10), (11, .ref (ad 180)), (12, .int x12), (13, .int x13), (14, .int x14), (15, .int x15), (16, .int x16)]) (h : fL_wanted_212 N rec3 rec68 σ x10 x12 x13 x14 x15 x16 = some res) : W p l e ({ frames := 4, cells := 0, slots := 0, locals := 103 } : Room) s m args below meth c H locs 0 0 (MQ below (va_Qi (fun (r : Int32) (_ : Unit) => r = res) (fun _ => gO D A (GW L y ad σ)) A) args s 0 0 A) (F0 m 212 ls []) := by
  unfold fL_wanted_212 at h
  refine lv_iinc (v := (x16 + 1)) (lv' := [(16, .int (x16 + 1)), (0, .ref (ad 161)), (1, .ref (ad 162)), (2, .ref (ad 168)), (3, .ref (ad 172)), (4, .ref (ad 173)), (5, .ref (ad 174)), (6, .ref (ad 175)), (7, .ref (ad 176)), (8, .ref (ad 177)), (9, .ref (ad 179)), (10, .int x10), (11, .ref (ad 180)), (12, .int x12), (13, .int x13), (14, .int x14), (15, .int x15)]) hx hb dL_wanted_212 hl (k := 16) rfl rfl (by decide) rfl ?_
  clear hl
  intro ls hl
  refine lv_goto (tgt := 68) hx hb dL_wanted_215 (by decide) ?_
  exact hrec68 _ _ _ hY (lv_sub hl [1, 2, 3, 4, 5, 6, 7, 8, 9, 10, 11, 12, 13, 14, 15, 16, 0] rfl) h
def fL_wanted_143 (N : Nat) (rec3 : Int32 → Option Int32) (rec68 : Int32 → Option Int32) (rec93 : (Int32 × Int32) → Option Int32) (σ : gS) (x10 : Int32) (x12 : Int32) (x13 : Int32) (x14 : Int32) (x15 : Int32) (x16 : Int32) (x18 : Int32) (xs0 : Int32) : Option Int32 := rec93 (xs0, (x18 + (-1)))
set_option maxRecDepth 100000 in
set_option maxHeartbeats 4000000 in
theorem wL_wanted_143 {rec3 : Int32 → Option Int32} {rec68 : Int32 → Option Int32} {rec93 : (Int32 × Int32) → Option Int32} {σ : gS} {x10 : Int32} {x12 : Int32} {x13 : Int32} {x14 : Int32} {x15 : Int32} {x16 : Int32} {x18 : Int32} {xs0 : Int32} (hx : p.tables.exec = Jvm.exec) (hb : c.code = cL_wanted) (hr : meth.sig.returnType = (some .int)) (hml : c.maxLocals = 19) (hown : s.vm.findClass RL = some m.cls) (hg : ∀ w ∈ wsL_law, w.before args s = true) (hlocks : meth.locks = false) (hK : gK D y aS s) (hA : ∀ q, s.heap.size ≤ q → A q) (hL : ∀ k, k < 179 → k ∈ L) (hT : 179 ∈ L ∧ 180 ∈ L ∧ 181 ∈ L) (hrec3 : ∀ {x13n9 : Int32} (H : Heap) (locs : List Loc) (ls : Array Slot), gY D y A s L ad σ H locs → lv_has ls 19 [(0, .ref (ad 161)), (1, .ref (ad 162)), (2, .ref (ad 168)), (3, .ref (ad 172)), (4, .ref (ad 173)), (5, .ref (ad 174)), (6, .ref (ad 175)), (7, .ref (ad 176)), (8, .ref (ad 177)), (9, .ref (ad 179)), (10, .int x10), (11, .ref (ad 180)), (12, .int x12), (13, .int x13n9)] → rec3 x13n9 = some res → W p l e ({ frames := 4, cells := 0, slots := 0, locals := 103 } : Room) s m args below meth c H locs 0 0 (MQ below (va_Qi (fun (r : Int32) (_ : Unit) => r = res) (fun _ => gO D A (GW L y ad σ)) A) args s 0 0 A) (F0 m 3 ls [])) (hrec68 : ∀ {x16n9 : Int32} (H : Heap) (locs : List Loc) (ls : Array Slot), gY D y A s L ad σ H locs → lv_has ls 19 [(0, .ref (ad 161)), (1, .ref (ad 162)), (2, .ref (ad 168)), (3, .ref (ad 172)), (4, .ref (ad 173)), (5, .ref (ad 174)), (6, .ref (ad 175)), (7, .ref (ad 176)), (8, .ref (ad 177)), (9, .ref (ad 179)), (10, .int x10), (11, .ref (ad 180)), (12, .int x12), (13, .int x13), (14, .int x14), (15, .int x15), (16, .int x16n9)] → rec68 x16n9 = some res → W p l e ({ frames := 4, cells := 0, slots := 0, locals := 103 } : Room) s m args below meth c H locs 0 0 (MQ below (va_Qi (fun (r : Int32) (_ : Unit) => r = res) (fun _ => gO D A (GW L y ad σ)) A) args s 0 0 A) (F0 m 68 ls [])) (hrec93 : ∀ {x17n9 : Int32} {x18n9 : Int32} (H : Heap) (locs : List Loc) (ls : Array Slot), gY D y A s L ad σ H locs → lv_has ls 19 [(0, .ref (ad 161)), (1, .ref (ad 162)), (2, .ref (ad 168)), (3, .ref (ad 172)), (4, .ref (ad 173)), (5, .ref (ad 174)), (6, .ref (ad 175)), (7, .ref (ad 176)), (8, .ref (ad 177)), (9, .ref (ad 179)), (10, .int x10), (11, .ref (ad 180)), (12, .int x12), (13, .int x13), (14, .int x14), (15, .int x15), (16, .int x16), (17, .int x17n9), (18, .int x18n9)] → rec93 (x17n9, x18n9) = some res → W p l e ({ frames := 4, cells := 0, slots := 0, locals := 103 } : Room) s m args below meth c H locs 0 0 (MQ below (va_Qi (fun (r : Int32) (_ : Unit) => r = res) (fun _ => gO D A (GW L y ad σ)) A) args s 0 0 A) (F0 m 93 ls [])) {H : Heap} {locs : List Loc} {ls : Array Slot} (hY : gY D y A s L ad σ H locs) (hl : lv_has ls 19 [(0, .ref (ad 161)), (1, .ref (ad 162)), (2, .ref (ad 168)), (3, .ref (ad 172)), (4, .ref (ad 173)), (5, .ref (ad 174)), (6, .ref (ad 175)), (7, .ref (ad 176)), (8, .ref (ad 177)), (9, .ref (ad 179)), (10, .int x10), (11, .ref (ad 180)), (12, .int x12), (13, .int x13), (14, .int x14), (15, .int x15), (16, .int x16), (18, .int x18)]) (h : fL_wanted_143 N rec3 rec68 rec93 σ x10 x12 x13 x14 x15 x16 x18 xs0 = some res) : W p l e ({ frames := 4, cells := 0, slots := 0, locals := 103 } : Room) s m args below meth c H locs 0 0 (MQ below (va_Qi (fun (r : Int32) (_ : Unit) => r = res) (fun _ => gO D A (GW L y ad σ)) A) args s 0 0 A) (F0 m 143 ls [.int xs0]) := by
  unfold fL_wanted_143 at h
  refine lv_istore (lv' := [(17, .int xs0), (0, .ref (ad 161)), (1, .ref (ad 162)), (2, .ref (ad 168)), (3, .ref (ad 172)), (4, .ref (ad 173)), (5, .ref (ad 174)), (6, .ref (ad 175)), (7, .ref (ad 176)), (8, .ref (ad 177)), (9, .ref (ad 179)), (10, .int x10), (11, .ref (ad 180)), (12, .int x12), (13, .int x13), (14, .int x14), (15, .int x15), (16, .int x16), (18, .int x18)]) hx hb dL_wanted_143 hl (by decide) rfl ?_
  clear hl
  intro ls hl
  refine lv_iinc (v := (x18 + (-1))) (lv' := [(18, .int (x18 + (-1))), (17, .int xs0), (0, .ref (ad 161)), (1, .ref (ad 162)), (2, .ref (ad 168)), (3, .ref (ad 172)), (4, .ref (ad 173)), (5, .ref (ad 174)), (6, .ref (ad 175)), (7, .ref (ad 176)), (8, .ref (ad 177)), (9, .ref (ad 179)), (10, .int x10), (11, .ref (ad 180)), (12, .int x12), (13, .int x13), (14, .int x14), (15, .int x15), (16, .int x16)]) hx hb dL_wanted_145 hl (k := 18) rfl rfl (by decide) rfl ?_
  clear hl
  intro ls hl
  refine lv_goto (tgt := 93) hx hb dL_wanted_148 (by decide) ?_
  exact hrec93 _ _ _ hY (lv_sub hl [2, 3, 4, 5, 6, 7, 8, 9, 10, 11, 12, 13, 14, 15, 16, 17, 18, 1, 0] rfl) h
def fL_wanted_93 (N : Nat) (rec3 : Int32 → Option Int32) (rec68 : Int32 → Option Int32) (σ : gS) (x10 : Int32) (x12 : Int32) (x13 : Int32) (x14 : Int32) (x15 : Int32) (x16 : Int32) (rec93 : (Int32 × Int32) → Option Int32) (xx : Int32 × Int32) : Option Int32 := match xx with
  | (x17, x18) => if x18 < x14 then (if x17 = x12 then (if x13 < 0 ∨ 5 ≤ x13.toNatClampNeg then none else ((fL_isFree N σ x16 (σ.2.1 180 x13.toNatClampNeg)).bind fun r_4 => if r_4 = 0 then (fL_wanted_212 N rec3 rec68 σ x10 x12 x13 x14 x15 x16) else ((fL_isAhead N σ x10 x13 x16).bind fun r_7 => if r_7 = 0 then (some ((100 * x13) + x16)) else (fL_wanted_212 N rec3 rec68 σ x10 x12 x13 x14 x15 x16)))) else (fL_wanted_212 N rec3 rec68 σ x10 x12 x13 x14 x15 x16)) else (if x18 < 0 ∨ 32 ≤ x18.toNatClampNeg then none else ((fL_required N σ ((σ.1 179 x18.toNatClampNeg) - (σ.1 179 x18.toNatClampNeg) / 100 * 100)).bind fun r_11 => if ((r_11 >>> (x16 &&& 31)) &&& 1) = 1 then (if x18 < 0 ∨ 32 ≤ x18.toNatClampNeg then none else (if ((σ.1 179 x18.toNatClampNeg) - (σ.1 179 x18.toNatClampNeg) / 100 * 100) < 0 ∨ 24 ≤ ((σ.1 179 x18.toNatClampNeg) - (σ.1 179 x18.toNatClampNeg) / 100 * 100).toNatClampNeg then none else (fL_wanted_143 N rec3 rec68 rec93 σ x10 x12 x13 x14 x15 x16 x18 ((σ.1 162 (((σ.1 179 x18.toNatClampNeg) - (σ.1 179 x18.toNatClampNeg) / 100 * 100).toNatClampNeg)) - (σ.1 162 (((σ.1 179 x18.toNatClampNeg) - (σ.1 179 x18.toNatClampNeg) / 100 * 100).toNatClampNeg)) / 3 * 3)))) else (fL_wanted_143 N rec3 rec68 rec93 σ x10 x12 x13 x14 x15 x16 x18 x17)))
set_option maxRecDepth 100000 in
set_option maxHeartbeats 4000000 in
theorem wL_wanted_93 {rec3 : Int32 → Option Int32} {rec68 : Int32 → Option Int32} {σ : gS} {x10 : Int32} {x12 : Int32} {x13 : Int32} {x14 : Int32} {x15 : Int32} {x16 : Int32} (hx : p.tables.exec = Jvm.exec) (hb : c.code = cL_wanted) (hr : meth.sig.returnType = (some .int)) (hml : c.maxLocals = 19) (hown : s.vm.findClass RL = some m.cls) (hg : ∀ w ∈ wsL_law, w.before args s = true) (hlocks : meth.locks = false) (hK : gK D y aS s) (hA : ∀ q, s.heap.size ≤ q → A q) (hL : ∀ k, k < 179 → k ∈ L) (hT : 179 ∈ L ∧ 180 ∈ L ∧ 181 ∈ L) (hrec3 : ∀ {x13n9 : Int32} (H : Heap) (locs : List Loc) (ls : Array Slot), gY D y A s L ad σ H locs → lv_has ls 19 [(0, .ref (ad 161)), (1, .ref (ad 162)), (2, .ref (ad 168)), (3, .ref (ad 172)), (4, .ref (ad 173)), (5, .ref (ad 174)), (6, .ref (ad 175)), (7, .ref (ad 176)), (8, .ref (ad 177)), (9, .ref (ad 179)), (10, .int x10), (11, .ref (ad 180)), (12, .int x12), (13, .int x13n9)] → rec3 x13n9 = some res → W p l e ({ frames := 4, cells := 0, slots := 0, locals := 103 } : Room) s m args below meth c H locs 0 0 (MQ below (va_Qi (fun (r : Int32) (_ : Unit) => r = res) (fun _ => gO D A (GW L y ad σ)) A) args s 0 0 A) (F0 m 3 ls [])) (hrec68 : ∀ {x16n9 : Int32} (H : Heap) (locs : List Loc) (ls : Array Slot), gY D y A s L ad σ H locs → lv_has ls 19 [(0, .ref (ad 161)), (1, .ref (ad 162)), (2, .ref (ad 168)), (3, .ref (ad 172)), (4, .ref (ad 173)), (5, .ref (ad 174)), (6, .ref (ad 175)), (7, .ref (ad 176)), (8, .ref (ad 177)), (9, .ref (ad 179)), (10, .int x10), (11, .ref (ad 180)), (12, .int x12), (13, .int x13), (14, .int x14), (15, .int x15), (16, .int x16n9)] → rec68 x16n9 = some res → W p l e ({ frames := 4, cells := 0, slots := 0, locals := 103 } : Room) s m args below meth c H locs 0 0 (MQ below (va_Qi (fun (r : Int32) (_ : Unit) => r = res) (fun _ => gO D A (GW L y ad σ)) A) args s 0 0 A) (F0 m 68 ls [])) : ∀ (n : Nat) {x17 : Int32} {x18 : Int32} (H : Heap) (locs : List Loc) (ls : Array Slot), gY D y A s L ad σ H locs → lv_has ls 19 [(0, .ref (ad 161)), (1, .ref (ad 162)), (2, .ref (ad 168)), (3, .ref (ad 172)), (4, .ref (ad 173)), (5, .ref (ad 174)), (6, .ref (ad 175)), (7, .ref (ad 176)), (8, .ref (ad 177)), (9, .ref (ad 179)), (10, .int x10), (11, .ref (ad 180)), (12, .int x12), (13, .int x13), (14, .int x14), (15, .int x15), (16, .int x16), (17, .int x17), (18, .int x18)] → lp (fL_wanted_93 N rec3 rec68 σ x10 x12 x13 x14 x15 x16) n (x17, x18) = some res → W p l e ({ frames := 4, cells := 0, slots := 0, locals := 103 } : Room) s m args below meth c H locs 0 0 (MQ below (va_Qi (fun (r : Int32) (_ : Unit) => r = res) (fun _ => gO D A (GW L y ad σ)) A) args s 0 0 A) (F0 m 93 ls []) := by
  intro n
  induction n with
  | zero => intro x17 x18 H locs ls hY hl h; exact nomatch (show none = some res from h)
  | succ n hrec93 =>
    intro x17 x18 H locs ls hY hl h
    replace h : fL_wanted_93 N rec3 rec68 σ x10 x12 x13 x14 x15 x16 (lp (fL_wanted_93 N rec3 rec68 σ x10 x12 x13 x14 x15 x16) n) (x17, x18) = some res := h
    generalize lp (fL_wanted_93 N rec3 rec68 σ x10 x12 x13 x14 x15 x16) n = rec93 at h hrec93
    unfold fL_wanted_93 at h
    try dsimp only at h
    refine lv_iload hx hb dL_wanted_93 (lv_at hl 18 rfl) ?_
    refine lv_iload hx hb dL_wanted_95 (lv_at hl 14 rfl) ?_
    refine lv_icmp_lt (tgt := 151) hx hb dL_wanted_97 (by decide) (fun z_1 => ?_) (fun z_1 => ?_)
    ·
      rw [if_pos z_1] at h
      refine lv_iload hx hb dL_wanted_151 (lv_at hl 17 rfl) ?_
      refine lv_iload hx hb dL_wanted_153 (lv_at hl 12 rfl) ?_
      refine lv_icmp_ne (tgt := 212) hx hb dL_wanted_155 (by decide) (fun z_2 => ?_) (fun z_2 => ?_)
      ·
        rw [if_neg z_2] at h
        exact wL_wanted_212 hx hb hr hml hown hg hlocks hK hA hL hT hrec3 hrec68 hY (lv_sub hl [0, 1, 2, 3, 4, 5, 6, 7, 8, 9, 10, 11, 12, 13, 14, 15, 16] rfl) h
      ·
        rw [if_pos z_2] at h
        refine lv_aload_n hx hb dL_wanted_158 rfl (lv_at hl 0 rfl) ?_
        refine lv_aload_n hx hb dL_wanted_159 rfl (lv_at hl 3 rfl) ?_
        refine lv_aload hx hb dL_wanted_160 (lv_at hl 5 rfl) ?_
        refine lv_aload hx hb dL_wanted_162 (lv_at hl 6 rfl) ?_
        refine lv_aload hx hb dL_wanted_164 (lv_at hl 7 rfl) ?_
        refine lv_aload hx hb dL_wanted_166 (lv_at hl 8 rfl) ?_
        refine lv_iload hx hb dL_wanted_168 (lv_at hl 16 rfl) ?_
        refine lv_aload hx hb dL_wanted_170 (lv_at hl 11 rfl) ?_
        refine lv_iload hx hb dL_wanted_172 (lv_at hl 13 rfl) ?_
        obtain ⟨z_3, h⟩ := g_guard h
        refine G_lald (j := x13.toNatClampNeg) hx hb hK hY hT.2.1 gk_180 (by rw [gl_180]; exact z_3) rfl dL_wanted_174 ?_
        obtain ⟨r_4, e_5, h⟩ := g_bind h
        refine G_ai hY hA (va_runS (As := [.ref (ad 161), .ref (ad 172), .ref (ad 174), .ref (ad 175), .ref (ad 176), .ref (ad 177), .int x16, .long (σ.2.1 180 x13.toNatClampNeg)]) (rest := []) ⟨hx, hb, hml, hown, hg⟩ (kL_isFree l D y aS H.size L hL ad N σ x16 (σ.2.1 180 x13.toNatClampNeg) _ e_5) (va_cwS 8 hg ggS_RL_114_L_isFree rfl rfl rfl (by decide +kernel) ⟨Nat.le_of_ble_eq_true rfl, Nat.le_of_ble_eq_true rfl⟩) (G_pS hK hY) rfl rfl hl.1 rfl (lv_room (Nat.le_of_ble_eq_true rfl)) dL_wanted_175 ⟨Nat.le_of_ble_eq_true rfl, Nat.le_of_ble_eq_true rfl⟩) ?_
        clear hY
        rintro _ H locs rfl hY
        refine lv_if_eq (tgt := 212) hx hb dL_wanted_178 (by decide) (fun z_6 => ?_) (fun z_6 => ?_)
        ·
          rw [if_pos z_6] at h
          exact wL_wanted_212 hx hb hr hml hown hg hlocks hK hA hL hT hrec3 hrec68 hY (lv_sub hl [0, 1, 2, 3, 4, 5, 6, 7, 8, 9, 10, 11, 12, 13, 14, 15, 16] rfl) h
        ·
          rw [if_neg z_6] at h
          refine lv_aload_n hx hb dL_wanted_181 rfl (lv_at hl 0 rfl) ?_
          refine lv_aload_n hx hb dL_wanted_182 rfl (lv_at hl 1 rfl) ?_
          refine lv_aload_n hx hb dL_wanted_183 rfl (lv_at hl 2 rfl) ?_
          refine lv_aload_n hx hb dL_wanted_184 rfl (lv_at hl 3 rfl) ?_
          refine lv_aload hx hb dL_wanted_185 (lv_at hl 4 rfl) ?_
          refine lv_aload hx hb dL_wanted_187 (lv_at hl 9 rfl) ?_
          refine lv_iload hx hb dL_wanted_189 (lv_at hl 10 rfl) ?_
          refine lv_iload hx hb dL_wanted_191 (lv_at hl 13 rfl) ?_
          refine lv_aload hx hb dL_wanted_193 (lv_at hl 11 rfl) ?_
          refine lv_iload hx hb dL_wanted_195 (lv_at hl 16 rfl) ?_
          obtain ⟨r_7, e_8, h⟩ := g_bind h
          refine G_ai hY hA (va_runS (As := [.ref (ad 161), .ref (ad 162), .ref (ad 168), .ref (ad 172), .ref (ad 173), .ref (ad 179), .int x10, .int x13, .ref (ad 180), .int x16]) (rest := []) ⟨hx, hb, hml, hown, hg⟩ (kL_isAhead l D y aS H.size L hL hT ad N σ x10 x13 x16 _ e_8) (va_cwS 10 hg ggS_RL_118_L_isAhead rfl rfl rfl (by decide +kernel) ⟨Nat.le_of_ble_eq_true rfl, Nat.le_of_ble_eq_true rfl⟩) (G_pS hK hY) rfl rfl hl.1 rfl (lv_room (Nat.le_of_ble_eq_true rfl)) dL_wanted_197 ⟨Nat.le_of_ble_eq_true rfl, Nat.le_of_ble_eq_true rfl⟩) ?_
          clear hY
          rintro _ H locs rfl hY
          refine lv_if_ne (tgt := 212) hx hb dL_wanted_200 (by decide) (fun z_9 => ?_) (fun z_9 => ?_)
          ·
            rw [if_neg z_9] at h
            exact wL_wanted_212 hx hb hr hml hown hg hlocks hK hA hL hT hrec3 hrec68 hY (lv_sub hl [0, 1, 2, 3, 4, 5, 6, 7, 8, 9, 10, 11, 12, 13, 14, 15, 16] rfl) h
          ·
            rw [if_pos z_9] at h
            refine lv_bipush (v := 100) hx hb dL_wanted_203 (by decide +kernel) ?_
            refine lv_iload hx hb dL_wanted_205 (lv_at hl 13 rfl) ?_
            refine lv_imul hx hb dL_wanted_207 ?_
            refine lv_iload hx hb dL_wanted_208 (lv_at hl 16 rfl) ?_
            refine lv_iadd hx hb dL_wanted_210 ?_
            cases h
            exact g_iret hx hb hr hlocks () hY.1 hY.2.1 hY.2.2 rfl rfl (Nat.le_of_ble_eq_true rfl) (Nat.le_of_ble_eq_true rfl) dL_wanted_211
    ·
      rw [if_neg z_1] at h
      refine lv_aload_n hx hb dL_wanted_100 rfl (lv_at hl 0 rfl) ?_
      refine lv_aload_n hx hb dL_wanted_101 rfl (lv_at hl 1 rfl) ?_
      refine lv_aload_n hx hb dL_wanted_102 rfl (lv_at hl 2 rfl) ?_
      refine lv_aload_n hx hb dL_wanted_103 rfl (lv_at hl 3 rfl) ?_
      refine lv_aload hx hb dL_wanted_104 (lv_at hl 4 rfl) ?_
      refine lv_aload hx hb dL_wanted_106 (lv_at hl 9 rfl) ?_
      refine lv_iload hx hb dL_wanted_108 (lv_at hl 18 rfl) ?_
      obtain ⟨z_10, h⟩ := g_guard h
      refine G_iald (j := x18.toNatClampNeg) hx hb hK hY hT.1 gk_179 (by rw [gl_179]; exact z_10) rfl dL_wanted_110 ?_
      refine lv_bipush (v := 100) hx hb dL_wanted_111 (by decide +kernel) ?_
      refine lv_irem hx hb dL_wanted_113 (by decide +kernel) ?_
      obtain ⟨r_11, e_12, h⟩ := g_bind h
      refine G_ai hY hA (va_runS (As := [.ref (ad 161), .ref (ad 162), .ref (ad 168), .ref (ad 172), .ref (ad 173), .int ((σ.1 179 x18.toNatClampNeg) - (σ.1 179 x18.toNatClampNeg) / 100 * 100)]) (rest := []) ⟨hx, hb, hml, hown, hg⟩ (kL_required l D y aS H.size L hL ad N σ ((σ.1 179 x18.toNatClampNeg) - (σ.1 179 x18.toNatClampNeg) / 100 * 100) _ e_12) (va_cwS 6 hg ggS_RL_53_L_required rfl rfl rfl (by decide +kernel) ⟨Nat.le_of_ble_eq_true rfl, Nat.le_of_ble_eq_true rfl⟩) (G_pS hK hY) rfl rfl hl.1 rfl (lv_room (Nat.le_of_ble_eq_true rfl)) dL_wanted_114 ⟨Nat.le_of_ble_eq_true rfl, Nat.le_of_ble_eq_true rfl⟩) ?_
      clear hY
      rintro _ H locs rfl hY
      refine lv_iload hx hb dL_wanted_117 (lv_at hl 16 rfl) ?_
      refine lv_ishr hx hb dL_wanted_119 ?_
      refine lv_iconst (v := 1) hx hb dL_wanted_120 (by decide) ?_
      refine lv_iand hx hb dL_wanted_121 ?_
      refine lv_iconst (v := 1) hx hb dL_wanted_122 (by decide) ?_
      refine lv_icmp_ne (tgt := 141) hx hb dL_wanted_123 (by decide) (fun z_13 => ?_) (fun z_13 => ?_)
      ·
        rw [if_neg z_13] at h
        refine lv_iload hx hb dL_wanted_141 (lv_at hl 17 rfl) ?_
        exact wL_wanted_143 hx hb hr hml hown hg hlocks hK hA hL hT hrec3 hrec68 hrec93 hY (lv_sub hl [0, 1, 2, 3, 4, 5, 6, 7, 8, 9, 10, 11, 12, 13, 14, 15, 16, 18] rfl) h
      ·
        rw [if_pos z_13] at h
        refine lv_aload_n hx hb dL_wanted_126 rfl (lv_at hl 1 rfl) ?_
        refine lv_aload hx hb dL_wanted_127 (lv_at hl 9 rfl) ?_
        refine lv_iload hx hb dL_wanted_129 (lv_at hl 18 rfl) ?_
        obtain ⟨z_14, h⟩ := g_guard h
        refine G_iald (j := x18.toNatClampNeg) hx hb hK hY hT.1 gk_179 (by rw [gl_179]; exact z_14) rfl dL_wanted_131 ?_
        refine lv_bipush (v := 100) hx hb dL_wanted_132 (by decide +kernel) ?_
        refine lv_irem hx hb dL_wanted_134 (by decide +kernel) ?_
        obtain ⟨z_15, h⟩ := g_guard h
        refine G_iald (j := ((σ.1 179 x18.toNatClampNeg) - (σ.1 179 x18.toNatClampNeg) / 100 * 100).toNatClampNeg) hx hb hK hY (hL 162 (by decide)) gk_162 (by rw [gl_162]; exact z_15) rfl dL_wanted_135 ?_
        refine lv_iconst (v := 3) hx hb dL_wanted_136 (by decide) ?_
        refine lv_irem hx hb dL_wanted_137 (by decide +kernel) ?_
        refine lv_goto (tgt := 143) hx hb dL_wanted_138 (by decide) ?_
        exact wL_wanted_143 hx hb hr hml hown hg hlocks hK hA hL hT hrec3 hrec68 hrec93 hY (lv_sub hl [0, 1, 2, 3, 4, 5, 6, 7, 8, 9, 10, 11, 12, 13, 14, 15, 16, 18] rfl) h
def fL_wanted_68 (N : Nat) (rec3 : Int32 → Option Int32) (σ : gS) (x10 : Int32) (x12 : Int32) (x13 : Int32) (x14 : Int32) (x15 : Int32) (rec68 : Int32 → Option Int32) (x16 : Int32) : Option Int32 := if (σ.1 161 2) ≤ x16 then (fL_wanted_218 N rec3 σ x10 x12 x13) else (if x15 ≤ 0 then (fL_wanted_218 N rec3 σ x10 x12 x13) else (lp (fL_wanted_93 N rec3 rec68 σ x10 x12 x13 x14 x15 x16) N (3, ((x14 + x15) - 1))))
set_option maxRecDepth 100000 in
set_option maxHeartbeats 4000000 in
theorem wL_wanted_68 {rec3 : Int32 → Option Int32} {σ : gS} {x10 : Int32} {x12 : Int32} {x13 : Int32} {x14 : Int32} {x15 : Int32} (hx : p.tables.exec = Jvm.exec) (hb : c.code = cL_wanted) (hr : meth.sig.returnType = (some .int)) (hml : c.maxLocals = 19) (hown : s.vm.findClass RL = some m.cls) (hg : ∀ w ∈ wsL_law, w.before args s = true) (hlocks : meth.locks = false) (hK : gK D y aS s) (hA : ∀ q, s.heap.size ≤ q → A q) (hL : ∀ k, k < 179 → k ∈ L) (hT : 179 ∈ L ∧ 180 ∈ L ∧ 181 ∈ L) (hrec3 : ∀ {x13n9 : Int32} (H : Heap) (locs : List Loc) (ls : Array Slot), gY D y A s L ad σ H locs → lv_has ls 19 [(0, .ref (ad 161)), (1, .ref (ad 162)), (2, .ref (ad 168)), (3, .ref (ad 172)), (4, .ref (ad 173)), (5, .ref (ad 174)), (6, .ref (ad 175)), (7, .ref (ad 176)), (8, .ref (ad 177)), (9, .ref (ad 179)), (10, .int x10), (11, .ref (ad 180)), (12, .int x12), (13, .int x13n9)] → rec3 x13n9 = some res → W p l e ({ frames := 4, cells := 0, slots := 0, locals := 103 } : Room) s m args below meth c H locs 0 0 (MQ below (va_Qi (fun (r : Int32) (_ : Unit) => r = res) (fun _ => gO D A (GW L y ad σ)) A) args s 0 0 A) (F0 m 3 ls [])) : ∀ (n : Nat) {x16 : Int32} (H : Heap) (locs : List Loc) (ls : Array Slot), gY D y A s L ad σ H locs → lv_has ls 19 [(0, .ref (ad 161)), (1, .ref (ad 162)), (2, .ref (ad 168)), (3, .ref (ad 172)), (4, .ref (ad 173)), (5, .ref (ad 174)), (6, .ref (ad 175)), (7, .ref (ad 176)), (8, .ref (ad 177)), (9, .ref (ad 179)), (10, .int x10), (11, .ref (ad 180)), (12, .int x12), (13, .int x13), (14, .int x14), (15, .int x15), (16, .int x16)] → lp (fL_wanted_68 N rec3 σ x10 x12 x13 x14 x15) n x16 = some res → W p l e ({ frames := 4, cells := 0, slots := 0, locals := 103 } : Room) s m args below meth c H locs 0 0 (MQ below (va_Qi (fun (r : Int32) (_ : Unit) => r = res) (fun _ => gO D A (GW L y ad σ)) A) args s 0 0 A) (F0 m 68 ls []) := by
  intro n
  induction n with
  | zero => intro x16 H locs ls hY hl h; exact nomatch (show none = some res from h)
  | succ n hrec68 =>
    intro x16 H locs ls hY hl h
    replace h : fL_wanted_68 N rec3 σ x10 x12 x13 x14 x15 (lp (fL_wanted_68 N rec3 σ x10 x12 x13 x14 x15) n) x16 = some res := h
    generalize lp (fL_wanted_68 N rec3 σ x10 x12 x13 x14 x15) n = rec68 at h hrec68
    unfold fL_wanted_68 at h
    try dsimp only at h
    refine lv_iload hx hb dL_wanted_68 (lv_at hl 16 rfl) ?_
    refine lv_aload_n hx hb dL_wanted_70 rfl (lv_at hl 0 rfl) ?_
    refine lv_iconst (v := 2) hx hb dL_wanted_71 (by decide) ?_
    refine G_iald (j := 2) hx hb hK hY (hL 161 (by decide)) gk_161 (by rw [gl_161]; decide +kernel) (by decide +kernel) dL_wanted_72 ?_
    refine lv_icmp_ge (tgt := 218) hx hb dL_wanted_73 (by decide) (fun z_1 => ?_) (fun z_1 => ?_)
    ·
      rw [if_pos z_1] at h
      exact wL_wanted_218 hx hb hr hml hown hg hlocks hK hA hL hT hrec3 hY (lv_sub hl [0, 1, 2, 3, 4, 5, 6, 7, 8, 9, 10, 11, 12, 13] rfl) h
    ·
      rw [if_neg z_1] at h
      refine lv_iload hx hb dL_wanted_76 (lv_at hl 15 rfl) ?_
      refine lv_if_le (tgt := 218) hx hb dL_wanted_78 (by decide) (fun z_2 => ?_) (fun z_2 => ?_)
      ·
        rw [if_pos z_2] at h
        exact wL_wanted_218 hx hb hr hml hown hg hlocks hK hA hL hT hrec3 hY (lv_sub hl [0, 1, 2, 3, 4, 5, 6, 7, 8, 9, 10, 11, 12, 13] rfl) h
      ·
        rw [if_neg z_2] at h
        refine lv_iconst (v := 3) hx hb dL_wanted_81 (by decide) ?_
        refine lv_istore (lv' := [(17, .int 3), (0, .ref (ad 161)), (1, .ref (ad 162)), (2, .ref (ad 168)), (3, .ref (ad 172)), (4, .ref (ad 173)), (5, .ref (ad 174)), (6, .ref (ad 175)), (7, .ref (ad 176)), (8, .ref (ad 177)), (9, .ref (ad 179)), (10, .int x10), (11, .ref (ad 180)), (12, .int x12), (13, .int x13), (14, .int x14), (15, .int x15), (16, .int x16)]) hx hb dL_wanted_82 hl (by decide) rfl ?_
        clear hl
        intro ls hl
        refine lv_iload hx hb dL_wanted_84 (lv_at hl 15 rfl) ?_
        refine lv_iload hx hb dL_wanted_86 (lv_at hl 16 rfl) ?_
        refine lv_iadd hx hb dL_wanted_88 ?_
        refine lv_iconst (v := 1) hx hb dL_wanted_89 (by decide) ?_
        refine lv_isub hx hb dL_wanted_90 ?_
        refine lv_istore (lv' := [(18, .int ((x14 + x15) - 1)), (17, .int 3), (0, .ref (ad 161)), (1, .ref (ad 162)), (2, .ref (ad 168)), (3, .ref (ad 172)), (4, .ref (ad 173)), (5, .ref (ad 174)), (6, .ref (ad 175)), (7, .ref (ad 176)), (8, .ref (ad 177)), (9, .ref (ad 179)), (10, .int x10), (11, .ref (ad 180)), (12, .int x12), (13, .int x13), (14, .int x14), (15, .int x15), (16, .int x16)]) hx hb dL_wanted_91 hl (by decide) rfl ?_
        clear hl
        intro ls hl
        exact wL_wanted_93 hx hb hr hml hown hg hlocks hK hA hL hT hrec3 hrec68 N _ _ _ hY (lv_sub hl [2, 3, 4, 5, 6, 7, 8, 9, 10, 11, 12, 13, 14, 15, 16, 17, 18, 1, 0] rfl) h
def fL_wanted_45 (N : Nat) (rec3 : Int32 → Option Int32) (rec18 : (Int32 × Int32) → Option Int32) (σ : gS) (x10 : Int32) (x12 : Int32) (x13 : Int32) (x15 : Int32) (xs0 : Int32) (xs1 : Int32) : Option Int32 := rec18 ((xs1 + xs0), (x15 + 1))
set_option maxRecDepth 100000 in
set_option maxHeartbeats 4000000 in
theorem wL_wanted_45 {rec3 : Int32 → Option Int32} {rec18 : (Int32 × Int32) → Option Int32} {σ : gS} {x10 : Int32} {x12 : Int32} {x13 : Int32} {x15 : Int32} {xs0 : Int32} {xs1 : Int32} (hx : p.tables.exec = Jvm.exec) (hb : c.code = cL_wanted) (hr : meth.sig.returnType = (some .int)) (hml : c.maxLocals = 19) (hown : s.vm.findClass RL = some m.cls) (hg : ∀ w ∈ wsL_law, w.before args s = true) (hlocks : meth.locks = false) (hK : gK D y aS s) (hA : ∀ q, s.heap.size ≤ q → A q) (hL : ∀ k, k < 179 → k ∈ L) (hT : 179 ∈ L ∧ 180 ∈ L ∧ 181 ∈ L) (hrec3 : ∀ {x13n9 : Int32} (H : Heap) (locs : List Loc) (ls : Array Slot), gY D y A s L ad σ H locs → lv_has ls 19 [(0, .ref (ad 161)), (1, .ref (ad 162)), (2, .ref (ad 168)), (3, .ref (ad 172)), (4, .ref (ad 173)), (5, .ref (ad 174)), (6, .ref (ad 175)), (7, .ref (ad 176)), (8, .ref (ad 177)), (9, .ref (ad 179)), (10, .int x10), (11, .ref (ad 180)), (12, .int x12), (13, .int x13n9)] → rec3 x13n9 = some res → W p l e ({ frames := 4, cells := 0, slots := 0, locals := 103 } : Room) s m args below meth c H locs 0 0 (MQ below (va_Qi (fun (r : Int32) (_ : Unit) => r = res) (fun _ => gO D A (GW L y ad σ)) A) args s 0 0 A) (F0 m 3 ls [])) (hrec18 : ∀ {x14n9 : Int32} {x15n9 : Int32} (H : Heap) (locs : List Loc) (ls : Array Slot), gY D y A s L ad σ H locs → lv_has ls 19 [(0, .ref (ad 161)), (1, .ref (ad 162)), (2, .ref (ad 168)), (3, .ref (ad 172)), (4, .ref (ad 173)), (5, .ref (ad 174)), (6, .ref (ad 175)), (7, .ref (ad 176)), (8, .ref (ad 177)), (9, .ref (ad 179)), (10, .int x10), (11, .ref (ad 180)), (12, .int x12), (13, .int x13), (14, .int x14n9), (15, .int x15n9)] → rec18 (x14n9, x15n9) = some res → W p l e ({ frames := 4, cells := 0, slots := 0, locals := 103 } : Room) s m args below meth c H locs 0 0 (MQ below (va_Qi (fun (r : Int32) (_ : Unit) => r = res) (fun _ => gO D A (GW L y ad σ)) A) args s 0 0 A) (F0 m 18 ls [])) {H : Heap} {locs : List Loc} {ls : Array Slot} (hY : gY D y A s L ad σ H locs) (hl : lv_has ls 19 [(0, .ref (ad 161)), (1, .ref (ad 162)), (2, .ref (ad 168)), (3, .ref (ad 172)), (4, .ref (ad 173)), (5, .ref (ad 174)), (6, .ref (ad 175)), (7, .ref (ad 176)), (8, .ref (ad 177)), (9, .ref (ad 179)), (10, .int x10), (11, .ref (ad 180)), (12, .int x12), (13, .int x13), (15, .int x15)]) (h : fL_wanted_45 N rec3 rec18 σ x10 x12 x13 x15 xs0 xs1 = some res) : W p l e ({ frames := 4, cells := 0, slots := 0, locals := 103 } : Room) s m args below meth c H locs 0 0 (MQ below (va_Qi (fun (r : Int32) (_ : Unit) => r = res) (fun _ => gO D A (GW L y ad σ)) A) args s 0 0 A) (F0 m 45 ls [.int xs0, .int xs1]) := by
  unfold fL_wanted_45 at h
  refine lv_iadd hx hb dL_wanted_45 ?_
  refine lv_istore (lv' := [(14, .int (xs1 + xs0)), (0, .ref (ad 161)), (1, .ref (ad 162)), (2, .ref (ad 168)), (3, .ref (ad 172)), (4, .ref (ad 173)), (5, .ref (ad 174)), (6, .ref (ad 175)), (7, .ref (ad 176)), (8, .ref (ad 177)), (9, .ref (ad 179)), (10, .int x10), (11, .ref (ad 180)), (12, .int x12), (13, .int x13), (15, .int x15)]) hx hb dL_wanted_46 hl (by decide) rfl ?_
  clear hl
  intro ls hl
  refine lv_iinc (v := (x15 + 1)) (lv' := [(15, .int (x15 + 1)), (14, .int (xs1 + xs0)), (0, .ref (ad 161)), (1, .ref (ad 162)), (2, .ref (ad 168)), (3, .ref (ad 172)), (4, .ref (ad 173)), (5, .ref (ad 174)), (6, .ref (ad 175)), (7, .ref (ad 176)), (8, .ref (ad 177)), (9, .ref (ad 179)), (10, .int x10), (11, .ref (ad 180)), (12, .int x12), (13, .int x13)]) hx hb dL_wanted_48 hl (k := 15) rfl rfl (by decide) rfl ?_
  clear hl
  intro ls hl
  refine lv_goto (tgt := 18) hx hb dL_wanted_51 (by decide) ?_
  exact hrec18 _ _ _ hY (lv_sub hl [2, 3, 4, 5, 6, 7, 8, 9, 10, 11, 12, 13, 14, 15, 1, 0] rfl) h
def fL_wanted_18 (N : Nat) (rec3 : Int32 → Option Int32) (σ : gS) (x10 : Int32) (x12 : Int32) (x13 : Int32) (rec18 : (Int32 × Int32) → Option Int32) (xx : Int32 × Int32) : Option Int32 := match xx with
  | (x14, x15) => if x10 ≤ x15 then ((fL_many N σ x10 x13).bind fun r_2 => lp (fL_wanted_68 N rec3 σ x10 x12 x13 x14 r_2) N 0) else (if x15 < 0 ∨ 32 ≤ x15.toNatClampNeg then none else (if x13 ≤ ((σ.1 179 x15.toNatClampNeg) / 100) then (fL_wanted_45 N rec3 rec18 σ x10 x12 x13 x15 0 x14) else (fL_wanted_45 N rec3 rec18 σ x10 x12 x13 x15 1 x14)))
set_option maxRecDepth 100000 in
set_option maxHeartbeats 4000000 in
theorem wL_wanted_18 {rec3 : Int32 → Option Int32} {σ : gS} {x10 : Int32} {x12 : Int32} {x13 : Int32} (hx : p.tables.exec = Jvm.exec) (hb : c.code = cL_wanted) (hr : meth.sig.returnType = (some .int)) (hml : c.maxLocals = 19) (hown : s.vm.findClass RL = some m.cls) (hg : ∀ w ∈ wsL_law, w.before args s = true) (hlocks : meth.locks = false) (hK : gK D y aS s) (hA : ∀ q, s.heap.size ≤ q → A q) (hL : ∀ k, k < 179 → k ∈ L) (hT : 179 ∈ L ∧ 180 ∈ L ∧ 181 ∈ L) (hrec3 : ∀ {x13n9 : Int32} (H : Heap) (locs : List Loc) (ls : Array Slot), gY D y A s L ad σ H locs → lv_has ls 19 [(0, .ref (ad 161)), (1, .ref (ad 162)), (2, .ref (ad 168)), (3, .ref (ad 172)), (4, .ref (ad 173)), (5, .ref (ad 174)), (6, .ref (ad 175)), (7, .ref (ad 176)), (8, .ref (ad 177)), (9, .ref (ad 179)), (10, .int x10), (11, .ref (ad 180)), (12, .int x12), (13, .int x13n9)] → rec3 x13n9 = some res → W p l e ({ frames := 4, cells := 0, slots := 0, locals := 103 } : Room) s m args below meth c H locs 0 0 (MQ below (va_Qi (fun (r : Int32) (_ : Unit) => r = res) (fun _ => gO D A (GW L y ad σ)) A) args s 0 0 A) (F0 m 3 ls [])) : ∀ (n : Nat) {x14 : Int32} {x15 : Int32} (H : Heap) (locs : List Loc) (ls : Array Slot), gY D y A s L ad σ H locs → lv_has ls 19 [(0, .ref (ad 161)), (1, .ref (ad 162)), (2, .ref (ad 168)), (3, .ref (ad 172)), (4, .ref (ad 173)), (5, .ref (ad 174)), (6, .ref (ad 175)), (7, .ref (ad 176)), (8, .ref (ad 177)), (9, .ref (ad 179)), (10, .int x10), (11, .ref (ad 180)), (12, .int x12), (13, .int x13), (14, .int x14), (15, .int x15)] → lp (fL_wanted_18 N rec3 σ x10 x12 x13) n (x14, x15) = some res → W p l e ({ frames := 4, cells := 0, slots := 0, locals := 103 } : Room) s m args below meth c H locs 0 0 (MQ below (va_Qi (fun (r : Int32) (_ : Unit) => r = res) (fun _ => gO D A (GW L y ad σ)) A) args s 0 0 A) (F0 m 18 ls []) := by
  intro n
  induction n with
  | zero => intro x14 x15 H locs ls hY hl h; exact nomatch (show none = some res from h)
  | succ n hrec18 =>
    intro x14 x15 H locs ls hY hl h
    replace h : fL_wanted_18 N rec3 σ x10 x12 x13 (lp (fL_wanted_18 N rec3 σ x10 x12 x13) n) (x14, x15) = some res := h
    generalize lp (fL_wanted_18 N rec3 σ x10 x12 x13) n = rec18 at h hrec18
    unfold fL_wanted_18 at h
    try dsimp only at h
    refine lv_iload hx hb dL_wanted_18 (lv_at hl 15 rfl) ?_
    refine lv_iload hx hb dL_wanted_20 (lv_at hl 10 rfl) ?_
    refine lv_icmp_ge (tgt := 54) hx hb dL_wanted_22 (by decide) (fun z_1 => ?_) (fun z_1 => ?_)
    ·
      rw [if_pos z_1] at h
      refine lv_aload hx hb dL_wanted_54 (lv_at hl 9 rfl) ?_
      refine lv_iload hx hb dL_wanted_56 (lv_at hl 10 rfl) ?_
      refine lv_iload hx hb dL_wanted_58 (lv_at hl 13 rfl) ?_
      obtain ⟨r_2, e_3, h⟩ := g_bind h
      refine G_ai hY hA (va_runS (As := [.ref (ad 179), .int x10, .int x13]) (rest := []) ⟨hx, hb, hml, hown, hg⟩ (kL_many l D y aS H.size L hL hT ad N σ x10 x13 _ e_3) (va_cwS 3 hg ggS_RL_110_L_many rfl rfl rfl (by decide +kernel) ⟨Nat.le_of_ble_eq_true rfl, Nat.le_of_ble_eq_true rfl⟩) (G_pS hK hY) rfl rfl hl.1 rfl (lv_room (Nat.le_of_ble_eq_true rfl)) dL_wanted_60 ⟨Nat.le_of_ble_eq_true rfl, Nat.le_of_ble_eq_true rfl⟩) ?_
      clear hY
      rintro _ H locs rfl hY
      refine lv_istore (lv' := [(15, .int r_2), (0, .ref (ad 161)), (1, .ref (ad 162)), (2, .ref (ad 168)), (3, .ref (ad 172)), (4, .ref (ad 173)), (5, .ref (ad 174)), (6, .ref (ad 175)), (7, .ref (ad 176)), (8, .ref (ad 177)), (9, .ref (ad 179)), (10, .int x10), (11, .ref (ad 180)), (12, .int x12), (13, .int x13), (14, .int x14)]) hx hb dL_wanted_63 hl (by decide) rfl ?_
      clear hl
      intro ls hl
      refine lv_iconst (v := 0) hx hb dL_wanted_65 (by decide) ?_
      refine lv_istore (lv' := [(16, .int 0), (15, .int r_2), (0, .ref (ad 161)), (1, .ref (ad 162)), (2, .ref (ad 168)), (3, .ref (ad 172)), (4, .ref (ad 173)), (5, .ref (ad 174)), (6, .ref (ad 175)), (7, .ref (ad 176)), (8, .ref (ad 177)), (9, .ref (ad 179)), (10, .int x10), (11, .ref (ad 180)), (12, .int x12), (13, .int x13), (14, .int x14)]) hx hb dL_wanted_66 hl (by decide) rfl ?_
      clear hl
      intro ls hl
      exact wL_wanted_68 hx hb hr hml hown hg hlocks hK hA hL hT hrec3 N _ _ _ hY (lv_sub hl [2, 3, 4, 5, 6, 7, 8, 9, 10, 11, 12, 13, 14, 15, 16, 1, 0] rfl) h
    ·
      rw [if_neg z_1] at h
      refine lv_iload hx hb dL_wanted_25 (lv_at hl 14 rfl) ?_
      refine lv_aload hx hb dL_wanted_27 (lv_at hl 9 rfl) ?_
      refine lv_iload hx hb dL_wanted_29 (lv_at hl 15 rfl) ?_
      obtain ⟨z_4, h⟩ := g_guard h
      refine G_iald (j := x15.toNatClampNeg) hx hb hK hY hT.1 gk_179 (by rw [gl_179]; exact z_4) rfl dL_wanted_31 ?_
      refine lv_bipush (v := 100) hx hb dL_wanted_32 (by decide +kernel) ?_
      refine lv_idiv hx hb dL_wanted_34 (by decide +kernel) ?_
      refine lv_iload hx hb dL_wanted_35 (lv_at hl 13 rfl) ?_
      refine lv_icmp_ge (tgt := 44) hx hb dL_wanted_37 (by decide) (fun z_5 => ?_) (fun z_5 => ?_)
      ·
        rw [if_pos z_5] at h
        refine lv_iconst (v := 0) hx hb dL_wanted_44 (by decide) ?_
        exact wL_wanted_45 hx hb hr hml hown hg hlocks hK hA hL hT hrec3 hrec18 hY (lv_sub hl [0, 1, 2, 3, 4, 5, 6, 7, 8, 9, 10, 11, 12, 13, 15] rfl) h
      ·
        rw [if_neg z_5] at h
        refine lv_iconst (v := 1) hx hb dL_wanted_40 (by decide) ?_
        refine lv_goto (tgt := 45) hx hb dL_wanted_41 (by decide) ?_
        exact wL_wanted_45 hx hb hr hml hown hg hlocks hK hA hL hT hrec3 hrec18 hY (lv_sub hl [0, 1, 2, 3, 4, 5, 6, 7, 8, 9, 10, 11, 12, 13, 15] rfl) h
def fL_wanted_3 (N : Nat) (σ : gS) (x10 : Int32) (x12 : Int32) (rec3 : Int32 → Option Int32) (x13 : Int32) : Option Int32 := if (σ.1 161 6) ≤ x13 then (some (-1)) else (lp (fL_wanted_18 N rec3 σ x10 x12 x13) N (0, 0))
set_option maxRecDepth 100000 in
set_option maxHeartbeats 4000000 in
theorem wL_wanted_3 {σ : gS} {x10 : Int32} {x12 : Int32} (hx : p.tables.exec = Jvm.exec) (hb : c.code = cL_wanted) (hr : meth.sig.returnType = (some .int)) (hml : c.maxLocals = 19) (hown : s.vm.findClass RL = some m.cls) (hg : ∀ w ∈ wsL_law, w.before args s = true) (hlocks : meth.locks = false) (hK : gK D y aS s) (hA : ∀ q, s.heap.size ≤ q → A q) (hL : ∀ k, k < 179 → k ∈ L) (hT : 179 ∈ L ∧ 180 ∈ L ∧ 181 ∈ L) : ∀ (n : Nat) {x13 : Int32} (H : Heap) (locs : List Loc) (ls : Array Slot), gY D y A s L ad σ H locs → lv_has ls 19 [(0, .ref (ad 161)), (1, .ref (ad 162)), (2, .ref (ad 168)), (3, .ref (ad 172)), (4, .ref (ad 173)), (5, .ref (ad 174)), (6, .ref (ad 175)), (7, .ref (ad 176)), (8, .ref (ad 177)), (9, .ref (ad 179)), (10, .int x10), (11, .ref (ad 180)), (12, .int x12), (13, .int x13)] → lp (fL_wanted_3 N σ x10 x12) n x13 = some res → W p l e ({ frames := 4, cells := 0, slots := 0, locals := 103 } : Room) s m args below meth c H locs 0 0 (MQ below (va_Qi (fun (r : Int32) (_ : Unit) => r = res) (fun _ => gO D A (GW L y ad σ)) A) args s 0 0 A) (F0 m 3 ls []) := by
  intro n
  induction n with
  | zero => intro x13 H locs ls hY hl h; exact nomatch (show none = some res from h)
  | succ n hrec3 =>
    intro x13 H locs ls hY hl h
    replace h : fL_wanted_3 N σ x10 x12 (lp (fL_wanted_3 N σ x10 x12) n) x13 = some res := h
    generalize lp (fL_wanted_3 N σ x10 x12) n = rec3 at h hrec3
    unfold fL_wanted_3 at h
    try dsimp only at h
    refine lv_iload hx hb dL_wanted_3 (lv_at hl 13 rfl) ?_
    refine lv_aload_n hx hb dL_wanted_5 rfl (lv_at hl 0 rfl) ?_
    refine lv_bipush (v := 6) hx hb dL_wanted_6 (by decide +kernel) ?_
    refine G_iald (j := 6) hx hb hK hY (hL 161 (by decide)) gk_161 (by rw [gl_161]; decide +kernel) (by decide +kernel) dL_wanted_8 ?_
    refine lv_icmp_ge (tgt := 224) hx hb dL_wanted_9 (by decide) (fun z_1 => ?_) (fun z_1 => ?_)
    ·
      rw [if_pos z_1] at h
      refine lv_iconst (v := (-1)) hx hb dL_wanted_224 (by decide) ?_
      cases h
      exact g_iret hx hb hr hlocks () hY.1 hY.2.1 hY.2.2 rfl rfl (Nat.le_of_ble_eq_true rfl) (Nat.le_of_ble_eq_true rfl) dL_wanted_225
    ·
      rw [if_neg z_1] at h
      refine lv_iconst (v := 0) hx hb dL_wanted_12 (by decide) ?_
      refine lv_istore (lv' := [(14, .int 0), (0, .ref (ad 161)), (1, .ref (ad 162)), (2, .ref (ad 168)), (3, .ref (ad 172)), (4, .ref (ad 173)), (5, .ref (ad 174)), (6, .ref (ad 175)), (7, .ref (ad 176)), (8, .ref (ad 177)), (9, .ref (ad 179)), (10, .int x10), (11, .ref (ad 180)), (12, .int x12), (13, .int x13)]) hx hb dL_wanted_13 hl (by decide) rfl ?_
      clear hl
      intro ls hl
      refine lv_iconst (v := 0) hx hb dL_wanted_15 (by decide) ?_
      refine lv_istore (lv' := [(15, .int 0), (14, .int 0), (0, .ref (ad 161)), (1, .ref (ad 162)), (2, .ref (ad 168)), (3, .ref (ad 172)), (4, .ref (ad 173)), (5, .ref (ad 174)), (6, .ref (ad 175)), (7, .ref (ad 176)), (8, .ref (ad 177)), (9, .ref (ad 179)), (10, .int x10), (11, .ref (ad 180)), (12, .int x12), (13, .int x13)]) hx hb dL_wanted_16 hl (by decide) rfl ?_
      clear hl
      intro ls hl
      exact wL_wanted_18 hx hb hr hml hown hg hlocks hK hA hL hT hrec3 N _ _ _ hY (lv_sub hl [2, 3, 4, 5, 6, 7, 8, 9, 10, 11, 12, 13, 14, 15, 1, 0] rfl) h
end
def fL_wanted (N : Nat) (σ : gS) (x10 : Int32) (x12 : Int32) : Option Int32 := lp (fL_wanted_3 N σ x10 x12) N 1
set_option maxRecDepth 100000 in
set_option maxHeartbeats 4000000 in
theorem kL_wanted (l : Launch) (D : va_G) (y : Nat → ClassId) (aS : Nat → Nat) (sz : Nat) (L : List Nat) (hL : ∀ k, k < 179 → k ∈ L) (hT : 179 ∈ L ∧ 180 ∈ L ∧ 181 ∈ L) (ad : Nat → Nat) (N : Nat) (σ : gS) (x10 : Int32) (x12 : Int32) (res : Int32) (h : fL_wanted N σ x10 x12 = some res) : Met l yL_wanted (Cond.code yL_wanted cL_wanted 19 (some .int) :: wsL_law) ({ frames := 4, cells := 0, slots := 0, locals := 103 } : Room) (va_Pc [.ref (ad 161), .ref (ad 162), .ref (ad 168), .ref (ad 172), .ref (ad 173), .ref (ad 174), .ref (ad 175), .ref (ad 176), .ref (ad 177), .ref (ad 179), .int x10, .ref (ad 180), .int x12] (gI D y aS (GW L y ad σ) sz)) (va_Qi (fun (r : Int32) (_ : Unit) => r = res) (fun _ => gO D (va_A (GW L y ad σ) sz) (GW L y ad σ)) (va_A (GW L y ad σ) sz)) 0 0 (va_A (GW L y ad σ) sz) := by
  refine g_of (by decide) (Nat.le_of_ble_eq_true rfl) ?_
  intro p e s m below meth c ls A hx hb hr hml hown hg hlocks hin hsz hK hP hD hS hA hAe hl
  rw [← hAe]
  replace hown : s.vm.findClass RL = some m.cls := hown
  have hY : gY D y A s L ad σ s.heap [] := ⟨hP, hD, hS⟩
  clear hP hD hS
  replace hl : lv_has ls 19 [(0, .ref (ad 161)), (1, .ref (ad 162)), (2, .ref (ad 168)), (3, .ref (ad 172)), (4, .ref (ad 173)), (5, .ref (ad 174)), (6, .ref (ad 175)), (7, .ref (ad 176)), (8, .ref (ad 177)), (9, .ref (ad 179)), (10, .int x10), (11, .ref (ad 180)), (12, .int x12)] := hl
  unfold fL_wanted at h
  refine lv_iconst (v := 1) hx hb dL_wanted_0 (by decide) ?_
  refine lv_istore (lv' := [(13, .int 1), (0, .ref (ad 161)), (1, .ref (ad 162)), (2, .ref (ad 168)), (3, .ref (ad 172)), (4, .ref (ad 173)), (5, .ref (ad 174)), (6, .ref (ad 175)), (7, .ref (ad 176)), (8, .ref (ad 177)), (9, .ref (ad 179)), (10, .int x10), (11, .ref (ad 180)), (12, .int x12)]) hx hb dL_wanted_1 hl (by decide) rfl ?_
  clear hl
  intro ls hl
  exact wL_wanted_3 hx hb hr hml hown hg hlocks hK hA hL hT N _ _ _ hY (lv_sub hl [1, 2, 3, 4, 5, 6, 7, 8, 9, 10, 11, 12, 13, 0] rfl) h
section
variable {p : Program} {l : Launch} {e : Env} {s : State} {m : MethodId} {args : Array Value} {below : List Frame} {meth : Method} {c : Code} {D : va_G} {y : Nat → ClassId} {aS : Nat → Nat} {A : Nat → Prop} {L : List Nat} {ad : Nat → Nat} {N : Nat} {res : Int32}
def fL_free_51 (N : Nat) (rec10 : (Int32 × Int32) → Option Int32) (σ : gS) (x6 : Int32) (x7 : Int64) (x10 : Int32) (xs0 : Int32) : Option Int32 := rec10 (xs0, (x10 + (-1)))
set_option maxRecDepth 100000 in
set_option maxHeartbeats 4000000 in
theorem wL_free_51 {rec10 : (Int32 × Int32) → Option Int32} {σ : gS} {x6 : Int32} {x7 : Int64} {x10 : Int32} {xs0 : Int32} (hx : p.tables.exec = Jvm.exec) (hb : c.code = cL_free) (hr : meth.sig.returnType = (some .int)) (hml : c.maxLocals = 11) (hown : s.vm.findClass RL = some m.cls) (hg : ∀ w ∈ wsL_law, w.before args s = true) (hlocks : meth.locks = false) (hK : gK D y aS s) (hA : ∀ q, s.heap.size ≤ q → A q) (hL : ∀ k, k < 179 → k ∈ L) (hrec10 : ∀ {x9n9 : Int32} {x10n9 : Int32} (H : Heap) (locs : List Loc) (ls : Array Slot), gY D y A s L ad σ H locs → lv_has ls 11 [(0, .ref (ad 161)), (1, .ref (ad 172)), (2, .ref (ad 174)), (3, .ref (ad 175)), (4, .ref (ad 176)), (5, .ref (ad 177)), (6, .int x6), (7, .long x7), (9, .int x9n9), (10, .int x10n9)] → rec10 (x9n9, x10n9) = some res → W p l e ({ frames := 4, cells := 0, slots := 0, locals := 103 } : Room) s m args below meth c H locs 0 0 (MQ below (va_Qi (fun (r : Int32) (_ : Unit) => r = res) (fun _ => gO D A (GW L y ad σ)) A) args s 0 0 A) (F0 m 10 ls [])) {H : Heap} {locs : List Loc} {ls : Array Slot} (hY : gY D y A s L ad σ H locs) (hl : lv_has ls 11 [(0, .ref (ad 161)), (1, .ref (ad 172)), (2, .ref (ad 174)), (3, .ref (ad 175)), (4, .ref (ad 176)), (5, .ref (ad 177)), (6, .int x6), (7, .long x7), (10, .int x10)]) (h : fL_free_51 N rec10 σ x6 x7 x10 xs0 = some res) : W p l e ({ frames := 4, cells := 0, slots := 0, locals := 103 } : Room) s m args below meth c H locs 0 0 (MQ below (va_Qi (fun (r : Int32) (_ : Unit) => r = res) (fun _ => gO D A (GW L y ad σ)) A) args s 0 0 A) (F0 m 51 ls [.int xs0]) := by
  unfold fL_free_51 at h
  refine lv_istore (lv' := [(9, .int xs0), (0, .ref (ad 161)), (1, .ref (ad 172)), (2, .ref (ad 174)), (3, .ref (ad 175)), (4, .ref (ad 176)), (5, .ref (ad 177)), (6, .int x6), (7, .long x7), (10, .int x10)]) hx hb dL_free_51 hl (by decide) rfl ?_
  clear hl
  intro ls hl
  refine lv_iinc (v := (x10 + (-1))) (lv' := [(10, .int (x10 + (-1))), (9, .int xs0), (0, .ref (ad 161)), (1, .ref (ad 172)), (2, .ref (ad 174)), (3, .ref (ad 175)), (4, .ref (ad 176)), (5, .ref (ad 177)), (6, .int x6), (7, .long x7)]) hx hb dL_free_53 hl (k := 9) rfl rfl (by decide) rfl ?_
  clear hl
  intro ls hl
  refine lv_goto (tgt := 10) hx hb dL_free_56 (by decide) ?_
  exact hrec10 _ _ _ hY (lv_sub hl [2, 3, 4, 5, 6, 7, 8, 9, 1, 0] rfl) h
def fL_free_49 (N : Nat) (rec10 : (Int32 × Int32) → Option Int32) (σ : gS) (x6 : Int32) (x7 : Int64) (x9 : Int32) (x10 : Int32) : Option Int32 := fL_free_51 N rec10 σ x6 x7 x10 x9
set_option maxRecDepth 100000 in
set_option maxHeartbeats 4000000 in
theorem wL_free_49 {rec10 : (Int32 × Int32) → Option Int32} {σ : gS} {x6 : Int32} {x7 : Int64} {x9 : Int32} {x10 : Int32} (hx : p.tables.exec = Jvm.exec) (hb : c.code = cL_free) (hr : meth.sig.returnType = (some .int)) (hml : c.maxLocals = 11) (hown : s.vm.findClass RL = some m.cls) (hg : ∀ w ∈ wsL_law, w.before args s = true) (hlocks : meth.locks = false) (hK : gK D y aS s) (hA : ∀ q, s.heap.size ≤ q → A q) (hL : ∀ k, k < 179 → k ∈ L) (hrec10 : ∀ {x9n9 : Int32} {x10n9 : Int32} (H : Heap) (locs : List Loc) (ls : Array Slot), gY D y A s L ad σ H locs → lv_has ls 11 [(0, .ref (ad 161)), (1, .ref (ad 172)), (2, .ref (ad 174)), (3, .ref (ad 175)), (4, .ref (ad 176)), (5, .ref (ad 177)), (6, .int x6), (7, .long x7), (9, .int x9n9), (10, .int x10n9)] → rec10 (x9n9, x10n9) = some res → W p l e ({ frames := 4, cells := 0, slots := 0, locals := 103 } : Room) s m args below meth c H locs 0 0 (MQ below (va_Qi (fun (r : Int32) (_ : Unit) => r = res) (fun _ => gO D A (GW L y ad σ)) A) args s 0 0 A) (F0 m 10 ls [])) {H : Heap} {locs : List Loc} {ls : Array Slot} (hY : gY D y A s L ad σ H locs) (hl : lv_has ls 11 [(0, .ref (ad 161)), (1, .ref (ad 172)), (2, .ref (ad 174)), (3, .ref (ad 175)), (4, .ref (ad 176)), (5, .ref (ad 177)), (6, .int x6), (7, .long x7), (9, .int x9), (10, .int x10)]) (h : fL_free_49 N rec10 σ x6 x7 x9 x10 = some res) : W p l e ({ frames := 4, cells := 0, slots := 0, locals := 103 } : Room) s m args below meth c H locs 0 0 (MQ below (va_Qi (fun (r : Int32) (_ : Unit) => r = res) (fun _ => gO D A (GW L y ad σ)) A) args s 0 0 A) (F0 m 49 ls []) := by
  unfold fL_free_49 at h
  refine lv_iload hx hb dL_free_49 (lv_at hl 8 rfl) ?_
  exact wL_free_51 hx hb hr hml hown hg hlocks hK hA hL hrec10 hY (lv_sub hl [0, 1, 2, 3, 4, 5, 6, 7, 9] rfl) h
def fL_free_10 (N : Nat) (σ : gS) (x6 : Int32) (x7 : Int64) (rec10 : (Int32 × Int32) → Option Int32) (xx : Int32 × Int32) : Option Int32 := match xx with
  | (x9, x10) => if x10 < 0 then (some x9) else (if ((x6 >>> (x10 &&& 31)) &&& 1) = 1 then ((fL_isFree N σ x10 x7).bind fun r_3 => if r_3 = 0 then (fL_free_49 N rec10 σ x6 x7 x9 x10) else (fL_free_51 N rec10 σ x6 x7 x10 x10)) else (fL_free_49 N rec10 σ x6 x7 x9 x10))
set_option maxRecDepth 100000 in
set_option maxHeartbeats 4000000 in
theorem wL_free_10 {σ : gS} {x6 : Int32} {x7 : Int64} (hx : p.tables.exec = Jvm.exec) (hb : c.code = cL_free) (hr : meth.sig.returnType = (some .int)) (hml : c.maxLocals = 11) (hown : s.vm.findClass RL = some m.cls) (hg : ∀ w ∈ wsL_law, w.before args s = true) (hlocks : meth.locks = false) (hK : gK D y aS s) (hA : ∀ q, s.heap.size ≤ q → A q) (hL : ∀ k, k < 179 → k ∈ L) : ∀ (n : Nat) {x9 : Int32} {x10 : Int32} (H : Heap) (locs : List Loc) (ls : Array Slot), gY D y A s L ad σ H locs → lv_has ls 11 [(0, .ref (ad 161)), (1, .ref (ad 172)), (2, .ref (ad 174)), (3, .ref (ad 175)), (4, .ref (ad 176)), (5, .ref (ad 177)), (6, .int x6), (7, .long x7), (9, .int x9), (10, .int x10)] → lp (fL_free_10 N σ x6 x7) n (x9, x10) = some res → W p l e ({ frames := 4, cells := 0, slots := 0, locals := 103 } : Room) s m args below meth c H locs 0 0 (MQ below (va_Qi (fun (r : Int32) (_ : Unit) => r = res) (fun _ => gO D A (GW L y ad σ)) A) args s 0 0 A) (F0 m 10 ls []) := by
  intro n
  induction n with
  | zero => intro x9 x10 H locs ls hY hl h; exact nomatch (show none = some res from h)
  | succ n hrec10 =>
    intro x9 x10 H locs ls hY hl h
    replace h : fL_free_10 N σ x6 x7 (lp (fL_free_10 N σ x6 x7) n) (x9, x10) = some res := h
    generalize lp (fL_free_10 N σ x6 x7) n = rec10 at h hrec10
    unfold fL_free_10 at h
    try dsimp only at h
    refine lv_iload hx hb dL_free_10 (lv_at hl 9 rfl) ?_
    refine lv_if_lt (tgt := 59) hx hb dL_free_12 (by decide) (fun z_1 => ?_) (fun z_1 => ?_)
    ·
      rw [if_pos z_1] at h
      refine lv_iload hx hb dL_free_59 (lv_at hl 8 rfl) ?_
      cases h
      exact g_iret hx hb hr hlocks () hY.1 hY.2.1 hY.2.2 rfl rfl (Nat.le_of_ble_eq_true rfl) (Nat.le_of_ble_eq_true rfl) dL_free_61
    ·
      rw [if_neg z_1] at h
      refine lv_iload hx hb dL_free_15 (lv_at hl 6 rfl) ?_
      refine lv_iload hx hb dL_free_17 (lv_at hl 9 rfl) ?_
      refine lv_ishr hx hb dL_free_19 ?_
      refine lv_iconst (v := 1) hx hb dL_free_20 (by decide) ?_
      refine lv_iand hx hb dL_free_21 ?_
      refine lv_iconst (v := 1) hx hb dL_free_22 (by decide) ?_
      refine lv_icmp_ne (tgt := 49) hx hb dL_free_23 (by decide) (fun z_2 => ?_) (fun z_2 => ?_)
      ·
        rw [if_neg z_2] at h
        exact wL_free_49 hx hb hr hml hown hg hlocks hK hA hL hrec10 hY (lv_sub hl [0, 1, 2, 3, 4, 5, 6, 7, 8, 9] rfl) h
      ·
        rw [if_pos z_2] at h
        refine lv_aload_n hx hb dL_free_26 rfl (lv_at hl 0 rfl) ?_
        refine lv_aload_n hx hb dL_free_27 rfl (lv_at hl 1 rfl) ?_
        refine lv_aload_n hx hb dL_free_28 rfl (lv_at hl 2 rfl) ?_
        refine lv_aload_n hx hb dL_free_29 rfl (lv_at hl 3 rfl) ?_
        refine lv_aload hx hb dL_free_30 (lv_at hl 4 rfl) ?_
        refine lv_aload hx hb dL_free_32 (lv_at hl 5 rfl) ?_
        refine lv_iload hx hb dL_free_34 (lv_at hl 9 rfl) ?_
        refine lv_lload hx hb dL_free_36 (lv_at hl 7 rfl) ?_
        obtain ⟨r_3, e_4, h⟩ := g_bind h
        refine G_ai hY hA (va_runS (As := [.ref (ad 161), .ref (ad 172), .ref (ad 174), .ref (ad 175), .ref (ad 176), .ref (ad 177), .int x10, .long x7]) (rest := []) ⟨hx, hb, hml, hown, hg⟩ (kL_isFree l D y aS H.size L hL ad N σ x10 x7 _ e_4) (va_cwS 8 hg ggS_RL_114_L_isFree rfl rfl rfl (by decide +kernel) ⟨Nat.le_of_ble_eq_true rfl, Nat.le_of_ble_eq_true rfl⟩) (G_pS hK hY) rfl rfl hl.1 rfl (lv_room (Nat.le_of_ble_eq_true rfl)) dL_free_38 ⟨Nat.le_of_ble_eq_true rfl, Nat.le_of_ble_eq_true rfl⟩) ?_
        clear hY
        rintro _ H locs rfl hY
        refine lv_if_eq (tgt := 49) hx hb dL_free_41 (by decide) (fun z_5 => ?_) (fun z_5 => ?_)
        ·
          rw [if_pos z_5] at h
          exact wL_free_49 hx hb hr hml hown hg hlocks hK hA hL hrec10 hY (lv_sub hl [0, 1, 2, 3, 4, 5, 6, 7, 8, 9] rfl) h
        ·
          rw [if_neg z_5] at h
          refine lv_iload hx hb dL_free_44 (lv_at hl 9 rfl) ?_
          refine lv_goto (tgt := 51) hx hb dL_free_46 (by decide) ?_
          exact wL_free_51 hx hb hr hml hown hg hlocks hK hA hL hrec10 hY (lv_sub hl [0, 1, 2, 3, 4, 5, 6, 7, 9] rfl) h
end
def fL_free (N : Nat) (σ : gS) (x6 : Int32) (x7 : Int64) : Option Int32 := lp (fL_free_10 N σ x6 x7) N ((-1), ((σ.1 161 2) - 1))
set_option maxRecDepth 100000 in
set_option maxHeartbeats 4000000 in
theorem kL_free (l : Launch) (D : va_G) (y : Nat → ClassId) (aS : Nat → Nat) (sz : Nat) (L : List Nat) (hL : ∀ k, k < 179 → k ∈ L) (ad : Nat → Nat) (N : Nat) (σ : gS) (x6 : Int32) (x7 : Int64) (res : Int32) (h : fL_free N σ x6 x7 = some res) : Met l yL_free (Cond.code yL_free cL_free 11 (some .int) :: wsL_law) ({ frames := 4, cells := 0, slots := 0, locals := 103 } : Room) (va_Pc [.ref (ad 161), .ref (ad 172), .ref (ad 174), .ref (ad 175), .ref (ad 176), .ref (ad 177), .int x6, .long x7] (gI D y aS (GW L y ad σ) sz)) (va_Qi (fun (r : Int32) (_ : Unit) => r = res) (fun _ => gO D (va_A (GW L y ad σ) sz) (GW L y ad σ)) (va_A (GW L y ad σ) sz)) 0 0 (va_A (GW L y ad σ) sz) := by
  refine g_of (by decide) (Nat.le_of_ble_eq_true rfl) ?_
  intro p e s m below meth c ls A hx hb hr hml hown hg hlocks hin hsz hK hP hD hS hA hAe hl
  rw [← hAe]
  replace hown : s.vm.findClass RL = some m.cls := hown
  have hY : gY D y A s L ad σ s.heap [] := ⟨hP, hD, hS⟩
  clear hP hD hS
  replace hl : lv_has ls 11 [(0, .ref (ad 161)), (1, .ref (ad 172)), (2, .ref (ad 174)), (3, .ref (ad 175)), (4, .ref (ad 176)), (5, .ref (ad 177)), (6, .int x6), (7, .long x7)] := hl
  unfold fL_free at h
  refine lv_iconst (v := (-1)) hx hb dL_free_0 (by decide) ?_
  refine lv_istore (lv' := [(9, .int (-1)), (0, .ref (ad 161)), (1, .ref (ad 172)), (2, .ref (ad 174)), (3, .ref (ad 175)), (4, .ref (ad 176)), (5, .ref (ad 177)), (6, .int x6), (7, .long x7)]) hx hb dL_free_1 hl (by decide) rfl ?_
  clear hl
  intro ls hl
  refine lv_aload_n hx hb dL_free_3 rfl (lv_at hl 1 rfl) ?_
  refine lv_iconst (v := 2) hx hb dL_free_4 (by decide) ?_
  refine G_iald (j := 2) hx hb hK hY (hL 161 (by decide)) gk_161 (by rw [gl_161]; decide +kernel) (by decide +kernel) dL_free_5 ?_
  refine lv_iconst (v := 1) hx hb dL_free_6 (by decide) ?_
  refine lv_isub hx hb dL_free_7 ?_
  refine lv_istore (lv' := [(10, .int ((σ.1 161 2) - 1)), (9, .int (-1)), (0, .ref (ad 161)), (1, .ref (ad 172)), (2, .ref (ad 174)), (3, .ref (ad 175)), (4, .ref (ad 176)), (5, .ref (ad 177)), (6, .int x6), (7, .long x7)]) hx hb dL_free_8 hl (by decide) rfl ?_
  clear hl
  intro ls hl
  exact wL_free_10 hx hb hr hml hown hg hlocks hK hA hL N _ _ _ hY (lv_sub hl [2, 3, 4, 5, 6, 7, 8, 9, 1, 0] rfl) h
section
variable {p : Program} {l : Launch} {e : Env} {s : State} {m : MethodId} {args : Array Value} {below : List Frame} {meth : Method} {c : Code} {D : va_G} {y : Nat → ClassId} {aS : Nat → Nat} {A : Nat → Prop} {L : List Nat} {ad : Nat → Nat} {N : Nat} {res : gS}
def fL_reopens_107 (N : Nat) (rec68 : (gS × Int32) → Option gS) (σ : gS) (x4 : Int32) (x6 : Int32) (xs0 : Int32) (xs1 : Int32) : Option gS := if xs1 < 0 ∨ 18 ≤ xs1.toNatClampNeg then none else (rec68 ((sI σ 176 xs1.toNatClampNeg xs0), (x6 + 1)))
set_option maxRecDepth 100000 in
set_option maxHeartbeats 4000000 in
theorem wL_reopens_107 {rec68 : (gS × Int32) → Option gS} {σ : gS} {x4 : Int32} {x6 : Int32} {xs0 : Int32} {xs1 : Int32} (hx : p.tables.exec = Jvm.exec) (hb : c.code = cL_reopens) (hr : meth.sig.returnType = none) (hml : c.maxLocals = 7) (hown : s.vm.findClass RL = some m.cls) (hg : ∀ w ∈ wsL_law, w.before args s = true) (hlocks : meth.locks = false) (hK : gK D y aS s) (hA : ∀ q, s.heap.size ≤ q → A q) (hL : ∀ k, k < 179 → k ∈ L) (hrec68 : ∀ {σ9 : gS} {x6n9 : Int32} (H : Heap) (locs : List Loc) (ls : Array Slot), gY D y A s L ad σ9 H locs → lv_has ls 7 [(3, .ref (ad 176)), (4, .int x4), (6, .int x6n9)] → rec68 (σ9, x6n9) = some res → W p l e ({ frames := 0, cells := 0, slots := 0, locals := 0 } : Room) s m args below meth c H locs 0 0 (MQ below (va_Qv (fun (_ : Unit) => True) (fun _ => gO D A (GW L y ad res)) A) args s 0 0 A) (F0 m 68 ls [])) {H : Heap} {locs : List Loc} {ls : Array Slot} (hY : gY D y A s L ad σ H locs) (hl : lv_has ls 7 [(3, .ref (ad 176)), (4, .int x4), (6, .int x6)]) (h : fL_reopens_107 N rec68 σ x4 x6 xs0 xs1 = some res) : W p l e ({ frames := 0, cells := 0, slots := 0, locals := 0 } : Room) s m args below meth c H locs 0 0 (MQ below (va_Qv (fun (_ : Unit) => True) (fun _ => gO D A (GW L y ad res)) A) args s 0 0 A) (F0 m 107 ls [.int xs0, .int xs1, .ref (ad 176)]) := by
  unfold fL_reopens_107 at h
  obtain ⟨z_1, h⟩ := g_guard h
  refine G_iast (j := xs1.toNatClampNeg) hx hb hK hY (hL 176 (by decide)) gk_176 (by rw [gl_176]; exact z_1) rfl dL_reopens_107 ?_
  clear hY
  intro H locs hY
  refine lv_iinc (v := (x6 + 1)) (lv' := [(6, .int (x6 + 1)), (3, .ref (ad 176)), (4, .int x4)]) hx hb dL_reopens_108 hl (k := 2) rfl rfl (by decide) rfl ?_
  clear hl
  intro ls hl
  refine lv_goto (tgt := 68) hx hb dL_reopens_111 (by decide) ?_
  exact hrec68 _ _ _ hY (lv_sub hl [1, 2, 0] rfl) h
def fL_reopens_68 (N : Nat) (x4 : Int32) (rec68 : (gS × Int32) → Option gS) (xx : gS × Int32) : Option gS := match xx with
  | (σ, x6) => if 3 ≤ x6 then (some σ) else (if (6 * x6) < 0 ∨ 18 ≤ (6 * x6).toNatClampNeg then none else (if (σ.1 176 ((6 * x6).toNatClampNeg)) = x4 then (fL_reopens_107 N rec68 σ x4 x6 1 ((6 * x6) + 2)) else (if ((6 * x6) + 2) < 0 ∨ 18 ≤ ((6 * x6) + 2).toNatClampNeg then none else (fL_reopens_107 N rec68 σ x4 x6 (σ.1 176 (((6 * x6) + 2).toNatClampNeg)) ((6 * x6) + 2)))))
set_option maxRecDepth 100000 in
set_option maxHeartbeats 4000000 in
theorem wL_reopens_68 {x4 : Int32} (hx : p.tables.exec = Jvm.exec) (hb : c.code = cL_reopens) (hr : meth.sig.returnType = none) (hml : c.maxLocals = 7) (hown : s.vm.findClass RL = some m.cls) (hg : ∀ w ∈ wsL_law, w.before args s = true) (hlocks : meth.locks = false) (hK : gK D y aS s) (hA : ∀ q, s.heap.size ≤ q → A q) (hL : ∀ k, k < 179 → k ∈ L) : ∀ (n : Nat) {σ : gS} {x6 : Int32} (H : Heap) (locs : List Loc) (ls : Array Slot), gY D y A s L ad σ H locs → lv_has ls 7 [(3, .ref (ad 176)), (4, .int x4), (6, .int x6)] → lp (fL_reopens_68 N x4) n (σ, x6) = some res → W p l e ({ frames := 0, cells := 0, slots := 0, locals := 0 } : Room) s m args below meth c H locs 0 0 (MQ below (va_Qv (fun (_ : Unit) => True) (fun _ => gO D A (GW L y ad res)) A) args s 0 0 A) (F0 m 68 ls []) := by
  intro n
  induction n with
  | zero => intro σ x6 H locs ls hY hl h; exact nomatch (show none = some res from h)
  | succ n hrec68 =>
    intro σ x6 H locs ls hY hl h
    replace h : fL_reopens_68 N x4 (lp (fL_reopens_68 N x4) n) (σ, x6) = some res := h
    generalize lp (fL_reopens_68 N x4) n = rec68 at h hrec68
    unfold fL_reopens_68 at h
    try dsimp only at h
    refine lv_iload hx hb dL_reopens_68 (lv_at hl 2 rfl) ?_
    refine lv_iconst (v := 3) hx hb dL_reopens_70 (by decide) ?_
    refine lv_icmp_ge (tgt := 114) hx hb dL_reopens_71 (by decide) (fun z_1 => ?_) (fun z_1 => ?_)
    ·
      rw [if_pos z_1] at h
      cases h
      exact g_vret hx hb hr hlocks () hY.1 hY.2.1 hY.2.2 trivial (Nat.le_of_ble_eq_true rfl) (Nat.le_of_ble_eq_true rfl) dL_reopens_114
    ·
      rw [if_neg z_1] at h
      refine lv_aload_n hx hb dL_reopens_74 rfl (lv_at hl 0 rfl) ?_
      refine lv_bipush (v := 6) hx hb dL_reopens_75 (by decide +kernel) ?_
      refine lv_iload hx hb dL_reopens_77 (lv_at hl 2 rfl) ?_
      refine lv_imul hx hb dL_reopens_79 ?_
      refine lv_iconst (v := 2) hx hb dL_reopens_80 (by decide) ?_
      refine lv_iadd hx hb dL_reopens_81 ?_
      refine lv_aload_n hx hb dL_reopens_82 rfl (lv_at hl 0 rfl) ?_
      refine lv_bipush (v := 6) hx hb dL_reopens_83 (by decide +kernel) ?_
      refine lv_iload hx hb dL_reopens_85 (lv_at hl 2 rfl) ?_
      refine lv_imul hx hb dL_reopens_87 ?_
      obtain ⟨z_2, h⟩ := g_guard h
      refine G_iald (j := (6 * x6).toNatClampNeg) hx hb hK hY (hL 176 (by decide)) gk_176 (by rw [gl_176]; exact z_2) rfl dL_reopens_88 ?_
      refine lv_iload hx hb dL_reopens_89 (lv_at hl 1 rfl) ?_
      refine lv_icmp_ne (tgt := 98) hx hb dL_reopens_91 (by decide) (fun z_3 => ?_) (fun z_3 => ?_)
      ·
        rw [if_neg z_3] at h
        refine lv_aload_n hx hb dL_reopens_98 rfl (lv_at hl 0 rfl) ?_
        refine lv_bipush (v := 6) hx hb dL_reopens_99 (by decide +kernel) ?_
        refine lv_iload hx hb dL_reopens_101 (lv_at hl 2 rfl) ?_
        refine lv_imul hx hb dL_reopens_103 ?_
        refine lv_iconst (v := 2) hx hb dL_reopens_104 (by decide) ?_
        refine lv_iadd hx hb dL_reopens_105 ?_
        obtain ⟨z_4, h⟩ := g_guard h
        refine G_iald (j := ((6 * x6) + 2).toNatClampNeg) hx hb hK hY (hL 176 (by decide)) gk_176 (by rw [gl_176]; exact z_4) rfl dL_reopens_106 ?_
        exact wL_reopens_107 hx hb hr hml hown hg hlocks hK hA hL hrec68 hY (lv_sub hl [0, 1, 2] rfl) h
      ·
        rw [if_pos z_3] at h
        refine lv_iconst (v := 1) hx hb dL_reopens_94 (by decide) ?_
        refine lv_goto (tgt := 107) hx hb dL_reopens_95 (by decide) ?_
        exact wL_reopens_107 hx hb hr hml hown hg hlocks hK hA hL hrec68 hY (lv_sub hl [0, 1, 2] rfl) h
def fL_reopens_51 (N : Nat) (rec6 : (gS × Int32 × Int32) → Option gS) (σ : gS) (x4 : Int32) (x6 : Int32) (xs0 : Int32) (xs1 : Int32) : Option gS := rec6 (σ, (xs1 + xs0), (x6 + 1))
set_option maxRecDepth 100000 in
set_option maxHeartbeats 4000000 in
theorem wL_reopens_51 {rec6 : (gS × Int32 × Int32) → Option gS} {σ : gS} {x4 : Int32} {x6 : Int32} {xs0 : Int32} {xs1 : Int32} (hx : p.tables.exec = Jvm.exec) (hb : c.code = cL_reopens) (hr : meth.sig.returnType = none) (hml : c.maxLocals = 7) (hown : s.vm.findClass RL = some m.cls) (hg : ∀ w ∈ wsL_law, w.before args s = true) (hlocks : meth.locks = false) (hK : gK D y aS s) (hA : ∀ q, s.heap.size ≤ q → A q) (hL : ∀ k, k < 179 → k ∈ L) (hrec6 : ∀ {σ9 : gS} {x5n9 : Int32} {x6n9 : Int32} (H : Heap) (locs : List Loc) (ls : Array Slot), gY D y A s L ad σ9 H locs → lv_has ls 7 [(0, .ref (ad 161)), (1, .ref (ad 174)), (2, .ref (ad 175)), (3, .ref (ad 176)), (4, .int x4), (5, .int x5n9), (6, .int x6n9)] → rec6 (σ9, x5n9, x6n9) = some res → W p l e ({ frames := 0, cells := 0, slots := 0, locals := 0 } : Room) s m args below meth c H locs 0 0 (MQ below (va_Qv (fun (_ : Unit) => True) (fun _ => gO D A (GW L y ad res)) A) args s 0 0 A) (F0 m 6 ls [])) {H : Heap} {locs : List Loc} {ls : Array Slot} (hY : gY D y A s L ad σ H locs) (hl : lv_has ls 7 [(0, .ref (ad 161)), (1, .ref (ad 174)), (2, .ref (ad 175)), (3, .ref (ad 176)), (4, .int x4), (6, .int x6)]) (h : fL_reopens_51 N rec6 σ x4 x6 xs0 xs1 = some res) : W p l e ({ frames := 0, cells := 0, slots := 0, locals := 0 } : Room) s m args below meth c H locs 0 0 (MQ below (va_Qv (fun (_ : Unit) => True) (fun _ => gO D A (GW L y ad res)) A) args s 0 0 A) (F0 m 51 ls [.int xs0, .int xs1]) := by
  unfold fL_reopens_51 at h
  refine lv_iadd hx hb dL_reopens_51 ?_
  refine lv_istore (lv' := [(5, .int (xs1 + xs0)), (0, .ref (ad 161)), (1, .ref (ad 174)), (2, .ref (ad 175)), (3, .ref (ad 176)), (4, .int x4), (6, .int x6)]) hx hb dL_reopens_52 hl (by decide) rfl ?_
  clear hl
  intro ls hl
  refine lv_iinc (v := (x6 + 1)) (lv' := [(6, .int (x6 + 1)), (5, .int (xs1 + xs0)), (0, .ref (ad 161)), (1, .ref (ad 174)), (2, .ref (ad 175)), (3, .ref (ad 176)), (4, .int x4)]) hx hb dL_reopens_54 hl (k := 6) rfl rfl (by decide) rfl ?_
  clear hl
  intro ls hl
  refine lv_goto (tgt := 6) hx hb dL_reopens_57 (by decide) ?_
  exact hrec6 _ _ _ hY (lv_sub hl [2, 3, 4, 5, 6, 1, 0] rfl) h
def fL_reopens_6 (N : Nat) (x4 : Int32) (rec6 : (gS × Int32 × Int32) → Option gS) (xx : gS × Int32 × Int32) : Option gS := match xx with
  | (σ, x5, x6) => if (σ.1 161 4) ≤ x6 then (lp (fL_reopens_68 N x4) N ((sI σ 161 4 x5), 0)) else (if x6 < 0 ∨ 64 ≤ x6.toNatClampNeg then none else (if x5 < 0 ∨ 64 ≤ x5.toNatClampNeg then none else (if x6 < 0 ∨ 64 ≤ x6.toNatClampNeg then none else (if x5 < 0 ∨ 64 ≤ x5.toNatClampNeg then none else (if x6 < 0 ∨ 64 ≤ x6.toNatClampNeg then none else (if (lg_cmp ((((sI (sJ σ 174 x5.toNatClampNeg (σ.2.1 174 x6.toNatClampNeg)) 175 x5.toNatClampNeg ((sJ σ 174 x5.toNatClampNeg (σ.2.1 174 x6.toNatClampNeg)).1 175 x6.toNatClampNeg)).2.1 174 x6.toNatClampNeg) >>> ((50 : Int32).toInt64 &&& 63))) (x4.toInt64)) = 0 then (fL_reopens_51 N rec6 (sI (sJ σ 174 x5.toNatClampNeg (σ.2.1 174 x6.toNatClampNeg)) 175 x5.toNatClampNeg ((sJ σ 174 x5.toNatClampNeg (σ.2.1 174 x6.toNatClampNeg)).1 175 x6.toNatClampNeg)) x4 x6 0 x5) else (fL_reopens_51 N rec6 (sI (sJ σ 174 x5.toNatClampNeg (σ.2.1 174 x6.toNatClampNeg)) 175 x5.toNatClampNeg ((sJ σ 174 x5.toNatClampNeg (σ.2.1 174 x6.toNatClampNeg)).1 175 x6.toNatClampNeg)) x4 x6 1 x5)))))))
set_option maxRecDepth 100000 in
set_option maxHeartbeats 4000000 in
theorem wL_reopens_6 {x4 : Int32} (hx : p.tables.exec = Jvm.exec) (hb : c.code = cL_reopens) (hr : meth.sig.returnType = none) (hml : c.maxLocals = 7) (hown : s.vm.findClass RL = some m.cls) (hg : ∀ w ∈ wsL_law, w.before args s = true) (hlocks : meth.locks = false) (hK : gK D y aS s) (hA : ∀ q, s.heap.size ≤ q → A q) (hL : ∀ k, k < 179 → k ∈ L) : ∀ (n : Nat) {σ : gS} {x5 : Int32} {x6 : Int32} (H : Heap) (locs : List Loc) (ls : Array Slot), gY D y A s L ad σ H locs → lv_has ls 7 [(0, .ref (ad 161)), (1, .ref (ad 174)), (2, .ref (ad 175)), (3, .ref (ad 176)), (4, .int x4), (5, .int x5), (6, .int x6)] → lp (fL_reopens_6 N x4) n (σ, x5, x6) = some res → W p l e ({ frames := 0, cells := 0, slots := 0, locals := 0 } : Room) s m args below meth c H locs 0 0 (MQ below (va_Qv (fun (_ : Unit) => True) (fun _ => gO D A (GW L y ad res)) A) args s 0 0 A) (F0 m 6 ls []) := by
  intro n
  induction n with
  | zero => intro σ x5 x6 H locs ls hY hl h; exact nomatch (show none = some res from h)
  | succ n hrec6 =>
    intro σ x5 x6 H locs ls hY hl h
    replace h : fL_reopens_6 N x4 (lp (fL_reopens_6 N x4) n) (σ, x5, x6) = some res := h
    generalize lp (fL_reopens_6 N x4) n = rec6 at h hrec6
    unfold fL_reopens_6 at h
    try dsimp only at h
    refine lv_iload hx hb dL_reopens_6 (lv_at hl 6 rfl) ?_
    refine lv_aload_n hx hb dL_reopens_8 rfl (lv_at hl 0 rfl) ?_
    refine lv_iconst (v := 4) hx hb dL_reopens_9 (by decide) ?_
    refine G_iald (j := 4) hx hb hK hY (hL 161 (by decide)) gk_161 (by rw [gl_161]; decide +kernel) (by decide +kernel) dL_reopens_10 ?_
    refine lv_icmp_ge (tgt := 60) hx hb dL_reopens_11 (by decide) (fun z_1 => ?_) (fun z_1 => ?_)
    ·
      rw [if_pos z_1] at h
      refine lv_aload_n hx hb dL_reopens_60 rfl (lv_at hl 0 rfl) ?_
      refine lv_iconst (v := 4) hx hb dL_reopens_61 (by decide) ?_
      refine lv_iload hx hb dL_reopens_62 (lv_at hl 5 rfl) ?_
      refine G_iast (j := 4) hx hb hK hY (hL 161 (by decide)) gk_161 (by rw [gl_161]; decide +kernel) (by decide +kernel) dL_reopens_64 ?_
      clear hY
      intro H locs hY
      refine lv_iconst (v := 0) hx hb dL_reopens_65 (by decide) ?_
      refine lv_istore (lv' := [(6, .int 0), (0, .ref (ad 161)), (1, .ref (ad 174)), (2, .ref (ad 175)), (3, .ref (ad 176)), (4, .int x4), (5, .int x5)]) hx hb dL_reopens_66 hl (by decide) rfl ?_
      clear hl
      intro ls hl
      exact wL_reopens_68 hx hb hr hml hown hg hlocks hK hA hL N _ _ _ hY (lv_sub hl [4, 5, 0] rfl) h
    ·
      rw [if_neg z_1] at h
      refine lv_aload_n hx hb dL_reopens_14 rfl (lv_at hl 1 rfl) ?_
      refine lv_iload hx hb dL_reopens_15 (lv_at hl 5 rfl) ?_
      refine lv_aload_n hx hb dL_reopens_17 rfl (lv_at hl 1 rfl) ?_
      refine lv_iload hx hb dL_reopens_18 (lv_at hl 6 rfl) ?_
      obtain ⟨z_2, h⟩ := g_guard h
      refine G_lald (j := x6.toNatClampNeg) hx hb hK hY (hL 174 (by decide)) gk_174 (by rw [gl_174]; exact z_2) rfl dL_reopens_20 ?_
      obtain ⟨z_3, h⟩ := g_guard h
      refine G_last (j := x5.toNatClampNeg) hx hb hK hY (hL 174 (by decide)) gk_174 (by rw [gl_174]; exact z_3) rfl dL_reopens_21 ?_
      clear hY
      intro H locs hY
      refine lv_aload_n hx hb dL_reopens_22 rfl (lv_at hl 2 rfl) ?_
      refine lv_iload hx hb dL_reopens_23 (lv_at hl 5 rfl) ?_
      refine lv_aload_n hx hb dL_reopens_25 rfl (lv_at hl 2 rfl) ?_
      refine lv_iload hx hb dL_reopens_26 (lv_at hl 6 rfl) ?_
      obtain ⟨z_4, h⟩ := g_guard h
      refine G_iald (j := x6.toNatClampNeg) hx hb hK hY (hL 175 (by decide)) gk_175 (by rw [gl_175]; exact z_4) rfl dL_reopens_28 ?_
      obtain ⟨z_5, h⟩ := g_guard h
      refine G_iast (j := x5.toNatClampNeg) hx hb hK hY (hL 175 (by decide)) gk_175 (by rw [gl_175]; exact z_5) rfl dL_reopens_29 ?_
      clear hY
      intro H locs hY
      refine lv_iload hx hb dL_reopens_30 (lv_at hl 5 rfl) ?_
      refine lv_aload_n hx hb dL_reopens_32 rfl (lv_at hl 1 rfl) ?_
      refine lv_iload hx hb dL_reopens_33 (lv_at hl 6 rfl) ?_
      obtain ⟨z_6, h⟩ := g_guard h
      refine G_lald (j := x6.toNatClampNeg) hx hb hK hY (hL 174 (by decide)) gk_174 (by rw [gl_174]; exact z_6) rfl dL_reopens_35 ?_
      refine lv_bipush (v := 50) hx hb dL_reopens_36 (by decide +kernel) ?_
      refine lv_lshr (v := ((((sI (sJ σ 174 x5.toNatClampNeg (σ.2.1 174 x6.toNatClampNeg)) 175 x5.toNatClampNeg ((sJ σ 174 x5.toNatClampNeg (σ.2.1 174 x6.toNatClampNeg)).1 175 x6.toNatClampNeg)).2.1 174 x6.toNatClampNeg) >>> ((50 : Int32).toInt64 &&& 63)))) hx hb dL_reopens_38 rfl ?_
      refine lv_iload hx hb dL_reopens_39 (lv_at hl 4 rfl) ?_
      refine lv_i2l (v := (x4.toInt64)) hx hb dL_reopens_41 rfl ?_
      refine W.lcmp hx hb dL_reopens_42 ?_
      refine lv_if_ne (tgt := 50) hx hb dL_reopens_43 (by decide) (fun z_7 => ?_) (fun z_7 => ?_)
      ·
        rw [if_neg z_7] at h
        refine lv_iconst (v := 1) hx hb dL_reopens_50 (by decide) ?_
        exact wL_reopens_51 hx hb hr hml hown hg hlocks hK hA hL hrec6 hY (lv_sub hl [0, 1, 2, 3, 4, 6] rfl) h
      ·
        rw [if_pos z_7] at h
        refine lv_iconst (v := 0) hx hb dL_reopens_46 (by decide) ?_
        refine lv_goto (tgt := 51) hx hb dL_reopens_47 (by decide) ?_
        exact wL_reopens_51 hx hb hr hml hown hg hlocks hK hA hL hrec6 hY (lv_sub hl [0, 1, 2, 3, 4, 6] rfl) h
end
def fL_reopens (N : Nat) (σ : gS) (x4 : Int32) : Option gS := lp (fL_reopens_6 N x4) N (σ, 0, 0)
set_option maxRecDepth 100000 in
set_option maxHeartbeats 4000000 in
theorem kL_reopens (l : Launch) (D : va_G) (y : Nat → ClassId) (aS : Nat → Nat) (sz : Nat) (L : List Nat) (hL : ∀ k, k < 179 → k ∈ L) (ad : Nat → Nat) (N : Nat) (σ : gS) (x4 : Int32) (res : gS) (h : fL_reopens N σ x4 = some res) : Met l yL_reopens (Cond.code yL_reopens cL_reopens 7 none :: wsL_law) ({ frames := 0, cells := 0, slots := 0, locals := 0 } : Room) (va_Pc [.ref (ad 161), .ref (ad 174), .ref (ad 175), .ref (ad 176), .int x4] (gI D y aS (GW L y ad σ) sz)) (va_Qv (fun (_ : Unit) => True) (fun _ => gO D (va_A (GW L y ad σ) sz) (GW L y ad res)) (va_A (GW L y ad σ) sz)) 0 0 (va_A (GW L y ad σ) sz) := by
  refine g_of (by decide) (Nat.le_of_ble_eq_true rfl) ?_
  intro p e s m below meth c ls A hx hb hr hml hown hg hlocks hin hsz hK hP hD hS hA hAe hl
  rw [← hAe]
  replace hown : s.vm.findClass RL = some m.cls := hown
  have hY : gY D y A s L ad σ s.heap [] := ⟨hP, hD, hS⟩
  clear hP hD hS
  replace hl : lv_has ls 7 [(0, .ref (ad 161)), (1, .ref (ad 174)), (2, .ref (ad 175)), (3, .ref (ad 176)), (4, .int x4)] := hl
  unfold fL_reopens at h
  refine lv_iconst (v := 0) hx hb dL_reopens_0 (by decide) ?_
  refine lv_istore (lv' := [(5, .int 0), (0, .ref (ad 161)), (1, .ref (ad 174)), (2, .ref (ad 175)), (3, .ref (ad 176)), (4, .int x4)]) hx hb dL_reopens_1 hl (by decide) rfl ?_
  clear hl
  intro ls hl
  refine lv_iconst (v := 0) hx hb dL_reopens_3 (by decide) ?_
  refine lv_istore (lv' := [(6, .int 0), (5, .int 0), (0, .ref (ad 161)), (1, .ref (ad 174)), (2, .ref (ad 175)), (3, .ref (ad 176)), (4, .int x4)]) hx hb dL_reopens_4 hl (by decide) rfl ?_
  clear hl
  intro ls hl
  exact wL_reopens_6 hx hb hr hml hown hg hlocks hK hA hL N _ _ _ hY (lv_sub hl [2, 3, 4, 5, 6, 1, 0] rfl) h
