def dt2003_X8_init : List (Nat × Instr × Nat) := [(0, (.aload_n 0, 1)), (1, (.invokespecial 3, 3)), (4, (.aload_n 0, 1)), (5, (.iload_n 1, 1)), (6, (.ifCond .ge 7, 3)), (13, (.iload_n 1, 1)), (14, (.newarray .long, 2)), (16, (.putfield 9, 3)), (19, (.return_, 1))]
theorem dt2003_X8_init_ok : ∀ q ∈ dt2003_X8_init, decode cX8_init q.1 = .ok q.2 := by decide +kernel
theorem dX8_init_0 : decode cX8_init 0 = .ok (.aload_n 0, 1) := g_dec dt2003_X8_init_ok (k := 0) rfl
theorem dX8_init_1 : decode cX8_init 1 = .ok (.invokespecial 3, 3) := g_dec dt2003_X8_init_ok (k := 1) rfl
theorem dX8_init_4 : decode cX8_init 4 = .ok (.aload_n 0, 1) := g_dec dt2003_X8_init_ok (k := 2) rfl
theorem dX8_init_5 : decode cX8_init 5 = .ok (.iload_n 1, 1) := g_dec dt2003_X8_init_ok (k := 3) rfl
theorem dX8_init_6 : decode cX8_init 6 = .ok (.ifCond .ge 7, 3) := g_dec dt2003_X8_init_ok (k := 4) rfl
theorem dX8_init_13 : decode cX8_init 13 = .ok (.iload_n 1, 1) := g_dec dt2003_X8_init_ok (k := 5) rfl
theorem dX8_init_14 : decode cX8_init 14 = .ok (.newarray .long, 2) := g_dec dt2003_X8_init_ok (k := 6) rfl
theorem dX8_init_16 : decode cX8_init 16 = .ok (.putfield 9, 3) := g_dec dt2003_X8_init_ok (k := 7) rfl
theorem dX8_init_19 : decode cX8_init 19 = .ok (.return_, 1) := g_dec dt2003_X8_init_ok (k := 8) rfl
def dt2004_X0_init : List (Nat × Instr × Nat) := [(0, (.aload_n 0, 1)), (1, (.invokespecial 3, 3)), (4, (.aload_n 0, 1)), (5, (.new 9, 3)), (8, (.dup, 1)), (9, (.bipush 9, 2)), (11, (.invokespecial 11, 3)), (14, (.putfield 14, 3)), (17, (.aload_n 0, 1)), (18, (.new 9, 3)), (21, (.dup, 1)), (22, (.bipush 9, 2)), (24, (.invokespecial 11, 3)), (27, (.putfield 20, 3)), (30, (.aload_n 0, 1)), (31, (.new 9, 3)), (34, (.dup, 1)), (35, (.bipush 9, 2)), (37, (.invokespecial 11, 3)), (40, (.putfield 23, 3)), (43, (.return_, 1))]
theorem dt2004_X0_init_ok : ∀ q ∈ dt2004_X0_init, decode cX0_init q.1 = .ok q.2 := by decide +kernel
theorem dX0_init_0 : decode cX0_init 0 = .ok (.aload_n 0, 1) := g_dec dt2004_X0_init_ok (k := 0) rfl
theorem dX0_init_1 : decode cX0_init 1 = .ok (.invokespecial 3, 3) := g_dec dt2004_X0_init_ok (k := 1) rfl
theorem dX0_init_4 : decode cX0_init 4 = .ok (.aload_n 0, 1) := g_dec dt2004_X0_init_ok (k := 2) rfl
theorem dX0_init_5 : decode cX0_init 5 = .ok (.new 9, 3) := g_dec dt2004_X0_init_ok (k := 3) rfl
theorem dX0_init_8 : decode cX0_init 8 = .ok (.dup, 1) := g_dec dt2004_X0_init_ok (k := 4) rfl
theorem dX0_init_9 : decode cX0_init 9 = .ok (.bipush 9, 2) := g_dec dt2004_X0_init_ok (k := 5) rfl
theorem dX0_init_11 : decode cX0_init 11 = .ok (.invokespecial 11, 3) := g_dec dt2004_X0_init_ok (k := 6) rfl
theorem dX0_init_14 : decode cX0_init 14 = .ok (.putfield 14, 3) := g_dec dt2004_X0_init_ok (k := 7) rfl
theorem dX0_init_17 : decode cX0_init 17 = .ok (.aload_n 0, 1) := g_dec dt2004_X0_init_ok (k := 8) rfl
theorem dX0_init_18 : decode cX0_init 18 = .ok (.new 9, 3) := g_dec dt2004_X0_init_ok (k := 9) rfl
theorem dX0_init_21 : decode cX0_init 21 = .ok (.dup, 1) := g_dec dt2004_X0_init_ok (k := 10) rfl
theorem dX0_init_22 : decode cX0_init 22 = .ok (.bipush 9, 2) := g_dec dt2004_X0_init_ok (k := 11) rfl
theorem dX0_init_24 : decode cX0_init 24 = .ok (.invokespecial 11, 3) := g_dec dt2004_X0_init_ok (k := 12) rfl
theorem dX0_init_27 : decode cX0_init 27 = .ok (.putfield 20, 3) := g_dec dt2004_X0_init_ok (k := 13) rfl
theorem dX0_init_30 : decode cX0_init 30 = .ok (.aload_n 0, 1) := g_dec dt2004_X0_init_ok (k := 14) rfl
theorem dX0_init_31 : decode cX0_init 31 = .ok (.new 9, 3) := g_dec dt2004_X0_init_ok (k := 15) rfl
theorem dX0_init_34 : decode cX0_init 34 = .ok (.dup, 1) := g_dec dt2004_X0_init_ok (k := 16) rfl
theorem dX0_init_35 : decode cX0_init 35 = .ok (.bipush 9, 2) := g_dec dt2004_X0_init_ok (k := 17) rfl
theorem dX0_init_37 : decode cX0_init 37 = .ok (.invokespecial 11, 3) := g_dec dt2004_X0_init_ok (k := 18) rfl
theorem dX0_init_40 : decode cX0_init 40 = .ok (.putfield 23, 3) := g_dec dt2004_X0_init_ok (k := 19) rfl
theorem dX0_init_43 : decode cX0_init 43 = .ok (.return_, 1) := g_dec dt2004_X0_init_ok (k := 20) rfl
def dt2005_X4_init : List (Nat × Instr × Nat) := [(0, (.aload_n 0, 1)), (1, (.invokespecial 3, 3)), (4, (.aload_n 0, 1)), (5, (.iconst 1, 1)), (6, (.putfield 9, 3)), (9, (.aload_n 0, 1)), (10, (.iconst 1, 1)), (11, (.putfield 15, 3)), (14, (.aload_n 0, 1)), (15, (.new 18, 3)), (18, (.dup, 1)), (19, (.bipush 60, 2)), (21, (.invokespecial 20, 3)), (24, (.putfield 23, 3)), (27, (.aload_n 0, 1)), (28, (.new 18, 3)), (31, (.dup, 1)), (32, (.bipush 32, 2)), (34, (.invokespecial 20, 3)), (37, (.putfield 27, 3)), (40, (.aload_n 0, 1)), (41, (.new 18, 3)), (44, (.dup, 1)), (45, (.iconst 4, 1)), (46, (.invokespecial 20, 3)), (49, (.putfield 30, 3)), (52, (.aload_n 0, 1)), (53, (.new 18, 3)), (56, (.dup, 1)), (57, (.iconst 4, 1)), (58, (.invokespecial 20, 3)), (61, (.putfield 33, 3)), (64, (.return_, 1))]
theorem dt2005_X4_init_ok : ∀ q ∈ dt2005_X4_init, decode cX4_init q.1 = .ok q.2 := by decide +kernel
theorem dX4_init_0 : decode cX4_init 0 = .ok (.aload_n 0, 1) := g_dec dt2005_X4_init_ok (k := 0) rfl
theorem dX4_init_1 : decode cX4_init 1 = .ok (.invokespecial 3, 3) := g_dec dt2005_X4_init_ok (k := 1) rfl
theorem dX4_init_4 : decode cX4_init 4 = .ok (.aload_n 0, 1) := g_dec dt2005_X4_init_ok (k := 2) rfl
theorem dX4_init_5 : decode cX4_init 5 = .ok (.iconst 1, 1) := g_dec dt2005_X4_init_ok (k := 3) rfl
theorem dX4_init_6 : decode cX4_init 6 = .ok (.putfield 9, 3) := g_dec dt2005_X4_init_ok (k := 4) rfl
theorem dX4_init_9 : decode cX4_init 9 = .ok (.aload_n 0, 1) := g_dec dt2005_X4_init_ok (k := 5) rfl
theorem dX4_init_10 : decode cX4_init 10 = .ok (.iconst 1, 1) := g_dec dt2005_X4_init_ok (k := 6) rfl
theorem dX4_init_11 : decode cX4_init 11 = .ok (.putfield 15, 3) := g_dec dt2005_X4_init_ok (k := 7) rfl
theorem dX4_init_14 : decode cX4_init 14 = .ok (.aload_n 0, 1) := g_dec dt2005_X4_init_ok (k := 8) rfl
theorem dX4_init_15 : decode cX4_init 15 = .ok (.new 18, 3) := g_dec dt2005_X4_init_ok (k := 9) rfl
theorem dX4_init_18 : decode cX4_init 18 = .ok (.dup, 1) := g_dec dt2005_X4_init_ok (k := 10) rfl
theorem dX4_init_19 : decode cX4_init 19 = .ok (.bipush 60, 2) := g_dec dt2005_X4_init_ok (k := 11) rfl
theorem dX4_init_21 : decode cX4_init 21 = .ok (.invokespecial 20, 3) := g_dec dt2005_X4_init_ok (k := 12) rfl
theorem dX4_init_24 : decode cX4_init 24 = .ok (.putfield 23, 3) := g_dec dt2005_X4_init_ok (k := 13) rfl
theorem dX4_init_27 : decode cX4_init 27 = .ok (.aload_n 0, 1) := g_dec dt2005_X4_init_ok (k := 14) rfl
theorem dX4_init_28 : decode cX4_init 28 = .ok (.new 18, 3) := g_dec dt2005_X4_init_ok (k := 15) rfl
theorem dX4_init_31 : decode cX4_init 31 = .ok (.dup, 1) := g_dec dt2005_X4_init_ok (k := 16) rfl
theorem dX4_init_32 : decode cX4_init 32 = .ok (.bipush 32, 2) := g_dec dt2005_X4_init_ok (k := 17) rfl
theorem dX4_init_34 : decode cX4_init 34 = .ok (.invokespecial 20, 3) := g_dec dt2005_X4_init_ok (k := 18) rfl
theorem dX4_init_37 : decode cX4_init 37 = .ok (.putfield 27, 3) := g_dec dt2005_X4_init_ok (k := 19) rfl
theorem dX4_init_40 : decode cX4_init 40 = .ok (.aload_n 0, 1) := g_dec dt2005_X4_init_ok (k := 20) rfl
theorem dX4_init_41 : decode cX4_init 41 = .ok (.new 18, 3) := g_dec dt2005_X4_init_ok (k := 21) rfl
theorem dX4_init_44 : decode cX4_init 44 = .ok (.dup, 1) := g_dec dt2005_X4_init_ok (k := 22) rfl
theorem dX4_init_45 : decode cX4_init 45 = .ok (.iconst 4, 1) := g_dec dt2005_X4_init_ok (k := 23) rfl
theorem dX4_init_46 : decode cX4_init 46 = .ok (.invokespecial 20, 3) := g_dec dt2005_X4_init_ok (k := 24) rfl
theorem dX4_init_49 : decode cX4_init 49 = .ok (.putfield 30, 3) := g_dec dt2005_X4_init_ok (k := 25) rfl
theorem dX4_init_52 : decode cX4_init 52 = .ok (.aload_n 0, 1) := g_dec dt2005_X4_init_ok (k := 26) rfl
theorem dX4_init_53 : decode cX4_init 53 = .ok (.new 18, 3) := g_dec dt2005_X4_init_ok (k := 27) rfl
theorem dX4_init_56 : decode cX4_init 56 = .ok (.dup, 1) := g_dec dt2005_X4_init_ok (k := 28) rfl
theorem dX4_init_57 : decode cX4_init 57 = .ok (.iconst 4, 1) := g_dec dt2005_X4_init_ok (k := 29) rfl
theorem dX4_init_58 : decode cX4_init 58 = .ok (.invokespecial 20, 3) := g_dec dt2005_X4_init_ok (k := 30) rfl
theorem dX4_init_61 : decode cX4_init 61 = .ok (.putfield 33, 3) := g_dec dt2005_X4_init_ok (k := 31) rfl
theorem dX4_init_64 : decode cX4_init 64 = .ok (.return_, 1) := g_dec dt2005_X4_init_ok (k := 32) rfl
def dt2006_X5_init : List (Nat × Instr × Nat) := [(0, (.aload_n 0, 1)), (1, (.invokespecial 3, 3)), (4, (.aload_n 0, 1)), (5, (.new 9, 3)), (8, (.dup, 1)), (9, (.sipush 200, 3)), (12, (.invokespecial 11, 3)), (15, (.putfield 14, 3)), (18, (.aload_n 0, 1)), (19, (.new 9, 3)), (22, (.dup, 1)), (23, (.sipush 200, 3)), (26, (.invokespecial 11, 3)), (29, (.putfield 20, 3)), (32, (.aload_n 0, 1)), (33, (.new 9, 3)), (36, (.dup, 1)), (37, (.bipush 18, 2)), (39, (.invokespecial 11, 3)), (42, (.putfield 23, 3)), (45, (.aload_n 0, 1)), (46, (.new 9, 3)), (49, (.dup, 1)), (50, (.iconst 3, 1)), (51, (.invokespecial 11, 3)), (54, (.putfield 26, 3)), (57, (.return_, 1))]
theorem dt2006_X5_init_ok : ∀ q ∈ dt2006_X5_init, decode cX5_init q.1 = .ok q.2 := by decide +kernel
theorem dX5_init_0 : decode cX5_init 0 = .ok (.aload_n 0, 1) := g_dec dt2006_X5_init_ok (k := 0) rfl
theorem dX5_init_1 : decode cX5_init 1 = .ok (.invokespecial 3, 3) := g_dec dt2006_X5_init_ok (k := 1) rfl
theorem dX5_init_4 : decode cX5_init 4 = .ok (.aload_n 0, 1) := g_dec dt2006_X5_init_ok (k := 2) rfl
theorem dX5_init_5 : decode cX5_init 5 = .ok (.new 9, 3) := g_dec dt2006_X5_init_ok (k := 3) rfl
theorem dX5_init_8 : decode cX5_init 8 = .ok (.dup, 1) := g_dec dt2006_X5_init_ok (k := 4) rfl
theorem dX5_init_9 : decode cX5_init 9 = .ok (.sipush 200, 3) := g_dec dt2006_X5_init_ok (k := 5) rfl
theorem dX5_init_12 : decode cX5_init 12 = .ok (.invokespecial 11, 3) := g_dec dt2006_X5_init_ok (k := 6) rfl
theorem dX5_init_15 : decode cX5_init 15 = .ok (.putfield 14, 3) := g_dec dt2006_X5_init_ok (k := 7) rfl
theorem dX5_init_18 : decode cX5_init 18 = .ok (.aload_n 0, 1) := g_dec dt2006_X5_init_ok (k := 8) rfl
theorem dX5_init_19 : decode cX5_init 19 = .ok (.new 9, 3) := g_dec dt2006_X5_init_ok (k := 9) rfl
theorem dX5_init_22 : decode cX5_init 22 = .ok (.dup, 1) := g_dec dt2006_X5_init_ok (k := 10) rfl
theorem dX5_init_23 : decode cX5_init 23 = .ok (.sipush 200, 3) := g_dec dt2006_X5_init_ok (k := 11) rfl
theorem dX5_init_26 : decode cX5_init 26 = .ok (.invokespecial 11, 3) := g_dec dt2006_X5_init_ok (k := 12) rfl
theorem dX5_init_29 : decode cX5_init 29 = .ok (.putfield 20, 3) := g_dec dt2006_X5_init_ok (k := 13) rfl
theorem dX5_init_32 : decode cX5_init 32 = .ok (.aload_n 0, 1) := g_dec dt2006_X5_init_ok (k := 14) rfl
theorem dX5_init_33 : decode cX5_init 33 = .ok (.new 9, 3) := g_dec dt2006_X5_init_ok (k := 15) rfl
theorem dX5_init_36 : decode cX5_init 36 = .ok (.dup, 1) := g_dec dt2006_X5_init_ok (k := 16) rfl
theorem dX5_init_37 : decode cX5_init 37 = .ok (.bipush 18, 2) := g_dec dt2006_X5_init_ok (k := 17) rfl
theorem dX5_init_39 : decode cX5_init 39 = .ok (.invokespecial 11, 3) := g_dec dt2006_X5_init_ok (k := 18) rfl
theorem dX5_init_42 : decode cX5_init 42 = .ok (.putfield 23, 3) := g_dec dt2006_X5_init_ok (k := 19) rfl
theorem dX5_init_45 : decode cX5_init 45 = .ok (.aload_n 0, 1) := g_dec dt2006_X5_init_ok (k := 20) rfl
theorem dX5_init_46 : decode cX5_init 46 = .ok (.new 9, 3) := g_dec dt2006_X5_init_ok (k := 21) rfl
theorem dX5_init_49 : decode cX5_init 49 = .ok (.dup, 1) := g_dec dt2006_X5_init_ok (k := 22) rfl
theorem dX5_init_50 : decode cX5_init 50 = .ok (.iconst 3, 1) := g_dec dt2006_X5_init_ok (k := 23) rfl
theorem dX5_init_51 : decode cX5_init 51 = .ok (.invokespecial 11, 3) := g_dec dt2006_X5_init_ok (k := 24) rfl
theorem dX5_init_54 : decode cX5_init 54 = .ok (.putfield 26, 3) := g_dec dt2006_X5_init_ok (k := 25) rfl
theorem dX5_init_57 : decode cX5_init 57 = .ok (.return_, 1) := g_dec dt2006_X5_init_ok (k := 26) rfl
def dt2007_X9_init : List (Nat × Instr × Nat) := [(0, (.aload_n 0, 1)), (1, (.invokespecial 3, 3)), (4, (.aload_n 0, 1)), (5, (.sipush 256, 3)), (8, (.newarray .long, 2)), (10, (.putfield 11, 3)), (13, (.aload_n 0, 1)), (14, (.sipush 256, 3)), (17, (.newarray .int, 2)), (19, (.putfield 15, 3)), (22, (.return_, 1))]
theorem dt2007_X9_init_ok : ∀ q ∈ dt2007_X9_init, decode cX9_init q.1 = .ok q.2 := by decide +kernel
theorem dX9_init_0 : decode cX9_init 0 = .ok (.aload_n 0, 1) := g_dec dt2007_X9_init_ok (k := 0) rfl
theorem dX9_init_1 : decode cX9_init 1 = .ok (.invokespecial 3, 3) := g_dec dt2007_X9_init_ok (k := 1) rfl
theorem dX9_init_4 : decode cX9_init 4 = .ok (.aload_n 0, 1) := g_dec dt2007_X9_init_ok (k := 2) rfl
theorem dX9_init_5 : decode cX9_init 5 = .ok (.sipush 256, 3) := g_dec dt2007_X9_init_ok (k := 3) rfl
theorem dX9_init_8 : decode cX9_init 8 = .ok (.newarray .long, 2) := g_dec dt2007_X9_init_ok (k := 4) rfl
theorem dX9_init_10 : decode cX9_init 10 = .ok (.putfield 11, 3) := g_dec dt2007_X9_init_ok (k := 5) rfl
theorem dX9_init_13 : decode cX9_init 13 = .ok (.aload_n 0, 1) := g_dec dt2007_X9_init_ok (k := 6) rfl
theorem dX9_init_14 : decode cX9_init 14 = .ok (.sipush 256, 3) := g_dec dt2007_X9_init_ok (k := 7) rfl
theorem dX9_init_17 : decode cX9_init 17 = .ok (.newarray .int, 2) := g_dec dt2007_X9_init_ok (k := 8) rfl
theorem dX9_init_19 : decode cX9_init 19 = .ok (.putfield 15, 3) := g_dec dt2007_X9_init_ok (k := 9) rfl
theorem dX9_init_22 : decode cX9_init 22 = .ok (.return_, 1) := g_dec dt2007_X9_init_ok (k := 10) rfl
def dt2008_X10_init : List (Nat × Instr × Nat) := [(0, (.aload_n 0, 1)), (1, (.invokespecial 3, 3)), (4, (.aload_n 0, 1)), (5, (.new 9, 3)), (8, (.dup, 1)), (9, (.bipush 50, 2)), (11, (.invokespecial 13, 3)), (14, (.putfield 16, 3)), (17, (.aload_n 0, 1)), (18, (.new 9, 3)), (21, (.dup, 1)), (22, (.bipush 50, 2)), (24, (.invokespecial 13, 3)), (27, (.putfield 20, 3)), (30, (.aload_n 0, 1)), (31, (.new 9, 3)), (34, (.dup, 1)), (35, (.bipush 50, 2)), (37, (.invokespecial 13, 3)), (40, (.putfield 23, 3)), (43, (.aload_n 0, 1)), (44, (.new 9, 3)), (47, (.dup, 1)), (48, (.bipush 50, 2)), (50, (.invokespecial 13, 3)), (53, (.putfield 26, 3)), (56, (.return_, 1))]
theorem dt2008_X10_init_ok : ∀ q ∈ dt2008_X10_init, decode cX10_init q.1 = .ok q.2 := by decide +kernel
theorem dX10_init_0 : decode cX10_init 0 = .ok (.aload_n 0, 1) := g_dec dt2008_X10_init_ok (k := 0) rfl
theorem dX10_init_1 : decode cX10_init 1 = .ok (.invokespecial 3, 3) := g_dec dt2008_X10_init_ok (k := 1) rfl
theorem dX10_init_4 : decode cX10_init 4 = .ok (.aload_n 0, 1) := g_dec dt2008_X10_init_ok (k := 2) rfl
theorem dX10_init_5 : decode cX10_init 5 = .ok (.new 9, 3) := g_dec dt2008_X10_init_ok (k := 3) rfl
theorem dX10_init_8 : decode cX10_init 8 = .ok (.dup, 1) := g_dec dt2008_X10_init_ok (k := 4) rfl
theorem dX10_init_9 : decode cX10_init 9 = .ok (.bipush 50, 2) := g_dec dt2008_X10_init_ok (k := 5) rfl
theorem dX10_init_11 : decode cX10_init 11 = .ok (.invokespecial 13, 3) := g_dec dt2008_X10_init_ok (k := 6) rfl
theorem dX10_init_14 : decode cX10_init 14 = .ok (.putfield 16, 3) := g_dec dt2008_X10_init_ok (k := 7) rfl
theorem dX10_init_17 : decode cX10_init 17 = .ok (.aload_n 0, 1) := g_dec dt2008_X10_init_ok (k := 8) rfl
theorem dX10_init_18 : decode cX10_init 18 = .ok (.new 9, 3) := g_dec dt2008_X10_init_ok (k := 9) rfl
theorem dX10_init_21 : decode cX10_init 21 = .ok (.dup, 1) := g_dec dt2008_X10_init_ok (k := 10) rfl
theorem dX10_init_22 : decode cX10_init 22 = .ok (.bipush 50, 2) := g_dec dt2008_X10_init_ok (k := 11) rfl
theorem dX10_init_24 : decode cX10_init 24 = .ok (.invokespecial 13, 3) := g_dec dt2008_X10_init_ok (k := 12) rfl
theorem dX10_init_27 : decode cX10_init 27 = .ok (.putfield 20, 3) := g_dec dt2008_X10_init_ok (k := 13) rfl
theorem dX10_init_30 : decode cX10_init 30 = .ok (.aload_n 0, 1) := g_dec dt2008_X10_init_ok (k := 14) rfl
theorem dX10_init_31 : decode cX10_init 31 = .ok (.new 9, 3) := g_dec dt2008_X10_init_ok (k := 15) rfl
theorem dX10_init_34 : decode cX10_init 34 = .ok (.dup, 1) := g_dec dt2008_X10_init_ok (k := 16) rfl
theorem dX10_init_35 : decode cX10_init 35 = .ok (.bipush 50, 2) := g_dec dt2008_X10_init_ok (k := 17) rfl
theorem dX10_init_37 : decode cX10_init 37 = .ok (.invokespecial 13, 3) := g_dec dt2008_X10_init_ok (k := 18) rfl
theorem dX10_init_40 : decode cX10_init 40 = .ok (.putfield 23, 3) := g_dec dt2008_X10_init_ok (k := 19) rfl
theorem dX10_init_43 : decode cX10_init 43 = .ok (.aload_n 0, 1) := g_dec dt2008_X10_init_ok (k := 20) rfl
theorem dX10_init_44 : decode cX10_init 44 = .ok (.new 9, 3) := g_dec dt2008_X10_init_ok (k := 21) rfl
theorem dX10_init_47 : decode cX10_init 47 = .ok (.dup, 1) := g_dec dt2008_X10_init_ok (k := 22) rfl
theorem dX10_init_48 : decode cX10_init 48 = .ok (.bipush 50, 2) := g_dec dt2008_X10_init_ok (k := 23) rfl
theorem dX10_init_50 : decode cX10_init 50 = .ok (.invokespecial 13, 3) := g_dec dt2008_X10_init_ok (k := 24) rfl
theorem dX10_init_53 : decode cX10_init 53 = .ok (.putfield 26, 3) := g_dec dt2008_X10_init_ok (k := 25) rfl
theorem dX10_init_56 : decode cX10_init 56 = .ok (.return_, 1) := g_dec dt2008_X10_init_ok (k := 26) rfl
def dt2009_X3_init : List (Nat × Instr × Nat) := [(0, (.aload_n 0, 1)), (1, (.invokespecial 3, 3)), (4, (.aload_n 0, 1)), (5, (.new 9, 3)), (8, (.dup, 1)), (9, (.bipush 24, 2)), (11, (.invokespecial 11, 3)), (14, (.putfield 14, 3)), (17, (.aload_n 0, 1)), (18, (.iload_n 1, 1)), (19, (.putfield 20, 3)), (22, (.return_, 1))]
theorem dt2009_X3_init_ok : ∀ q ∈ dt2009_X3_init, decode cX3_init q.1 = .ok q.2 := by decide +kernel
theorem dX3_init_0 : decode cX3_init 0 = .ok (.aload_n 0, 1) := g_dec dt2009_X3_init_ok (k := 0) rfl
theorem dX3_init_1 : decode cX3_init 1 = .ok (.invokespecial 3, 3) := g_dec dt2009_X3_init_ok (k := 1) rfl
theorem dX3_init_4 : decode cX3_init 4 = .ok (.aload_n 0, 1) := g_dec dt2009_X3_init_ok (k := 2) rfl
theorem dX3_init_5 : decode cX3_init 5 = .ok (.new 9, 3) := g_dec dt2009_X3_init_ok (k := 3) rfl
theorem dX3_init_8 : decode cX3_init 8 = .ok (.dup, 1) := g_dec dt2009_X3_init_ok (k := 4) rfl
theorem dX3_init_9 : decode cX3_init 9 = .ok (.bipush 24, 2) := g_dec dt2009_X3_init_ok (k := 5) rfl
theorem dX3_init_11 : decode cX3_init 11 = .ok (.invokespecial 11, 3) := g_dec dt2009_X3_init_ok (k := 6) rfl
theorem dX3_init_14 : decode cX3_init 14 = .ok (.putfield 14, 3) := g_dec dt2009_X3_init_ok (k := 7) rfl
theorem dX3_init_17 : decode cX3_init 17 = .ok (.aload_n 0, 1) := g_dec dt2009_X3_init_ok (k := 8) rfl
theorem dX3_init_18 : decode cX3_init 18 = .ok (.iload_n 1, 1) := g_dec dt2009_X3_init_ok (k := 9) rfl
theorem dX3_init_19 : decode cX3_init 19 = .ok (.putfield 20, 3) := g_dec dt2009_X3_init_ok (k := 10) rfl
theorem dX3_init_22 : decode cX3_init 22 = .ok (.return_, 1) := g_dec dt2009_X3_init_ok (k := 11) rfl
def dt2010_X7_init : List (Nat × Instr × Nat) := [(0, (.aload_n 0, 1)), (1, (.invokespecial 3, 3)), (4, (.aload_n 0, 1)), (5, (.bipush 10, 2)), (7, (.anewarray 9, 3)), (10, (.putfield 11, 3)), (13, (.aload_n 0, 1)), (14, (.new 9, 3)), (17, (.dup, 1)), (18, (.iconst (-1), 1)), (19, (.invokespecial 17, 3)), (22, (.putfield 20, 3)), (25, (.aload_n 0, 1)), (26, (.new 24, 3)), (29, (.dup, 1)), (30, (.bipush 12, 2)), (32, (.invokespecial 26, 3)), (35, (.putfield 27, 3)), (38, (.aload_n 0, 1)), (39, (.new 24, 3)), (42, (.dup, 1)), (43, (.bipush 12, 2)), (45, (.invokespecial 26, 3)), (48, (.putfield 31, 3)), (51, (.aload_n 0, 1)), (52, (.new 24, 3)), (55, (.dup, 1)), (56, (.bipush 12, 2)), (58, (.invokespecial 26, 3)), (61, (.putfield 34, 3)), (64, (.iconst 0, 1)), (65, (.istore_n 1, 1)), (66, (.iload_n 1, 1)), (67, (.aload_n 0, 1)), (68, (.getfield 11, 3)), (71, (.arraylength, 1)), (72, (.if_icmp .ge 23, 3)), (75, (.aload_n 0, 1)), (76, (.getfield 11, 3)), (79, (.iload_n 1, 1)), (80, (.new 9, 3)), (83, (.dup, 1)), (84, (.iload_n 1, 1)), (85, (.invokespecial 17, 3)), (88, (.aastore, 1)), (89, (.iinc 1 1, 3)), (92, (.goto (-26), 3)), (95, (.return_, 1))]
theorem dt2010_X7_init_ok : ∀ q ∈ dt2010_X7_init, decode cX7_init q.1 = .ok q.2 := by decide +kernel
theorem dX7_init_0 : decode cX7_init 0 = .ok (.aload_n 0, 1) := g_dec dt2010_X7_init_ok (k := 0) rfl
theorem dX7_init_1 : decode cX7_init 1 = .ok (.invokespecial 3, 3) := g_dec dt2010_X7_init_ok (k := 1) rfl
theorem dX7_init_4 : decode cX7_init 4 = .ok (.aload_n 0, 1) := g_dec dt2010_X7_init_ok (k := 2) rfl
theorem dX7_init_5 : decode cX7_init 5 = .ok (.bipush 10, 2) := g_dec dt2010_X7_init_ok (k := 3) rfl
theorem dX7_init_7 : decode cX7_init 7 = .ok (.anewarray 9, 3) := g_dec dt2010_X7_init_ok (k := 4) rfl
theorem dX7_init_10 : decode cX7_init 10 = .ok (.putfield 11, 3) := g_dec dt2010_X7_init_ok (k := 5) rfl
theorem dX7_init_13 : decode cX7_init 13 = .ok (.aload_n 0, 1) := g_dec dt2010_X7_init_ok (k := 6) rfl
theorem dX7_init_14 : decode cX7_init 14 = .ok (.new 9, 3) := g_dec dt2010_X7_init_ok (k := 7) rfl
theorem dX7_init_17 : decode cX7_init 17 = .ok (.dup, 1) := g_dec dt2010_X7_init_ok (k := 8) rfl
theorem dX7_init_18 : decode cX7_init 18 = .ok (.iconst (-1), 1) := g_dec dt2010_X7_init_ok (k := 9) rfl
theorem dX7_init_19 : decode cX7_init 19 = .ok (.invokespecial 17, 3) := g_dec dt2010_X7_init_ok (k := 10) rfl
theorem dX7_init_22 : decode cX7_init 22 = .ok (.putfield 20, 3) := g_dec dt2010_X7_init_ok (k := 11) rfl
theorem dX7_init_25 : decode cX7_init 25 = .ok (.aload_n 0, 1) := g_dec dt2010_X7_init_ok (k := 12) rfl
theorem dX7_init_26 : decode cX7_init 26 = .ok (.new 24, 3) := g_dec dt2010_X7_init_ok (k := 13) rfl
theorem dX7_init_29 : decode cX7_init 29 = .ok (.dup, 1) := g_dec dt2010_X7_init_ok (k := 14) rfl
theorem dX7_init_30 : decode cX7_init 30 = .ok (.bipush 12, 2) := g_dec dt2010_X7_init_ok (k := 15) rfl
theorem dX7_init_32 : decode cX7_init 32 = .ok (.invokespecial 26, 3) := g_dec dt2010_X7_init_ok (k := 16) rfl
theorem dX7_init_35 : decode cX7_init 35 = .ok (.putfield 27, 3) := g_dec dt2010_X7_init_ok (k := 17) rfl
theorem dX7_init_38 : decode cX7_init 38 = .ok (.aload_n 0, 1) := g_dec dt2010_X7_init_ok (k := 18) rfl
theorem dX7_init_39 : decode cX7_init 39 = .ok (.new 24, 3) := g_dec dt2010_X7_init_ok (k := 19) rfl
theorem dX7_init_42 : decode cX7_init 42 = .ok (.dup, 1) := g_dec dt2010_X7_init_ok (k := 20) rfl
theorem dX7_init_43 : decode cX7_init 43 = .ok (.bipush 12, 2) := g_dec dt2010_X7_init_ok (k := 21) rfl
theorem dX7_init_45 : decode cX7_init 45 = .ok (.invokespecial 26, 3) := g_dec dt2010_X7_init_ok (k := 22) rfl
theorem dX7_init_48 : decode cX7_init 48 = .ok (.putfield 31, 3) := g_dec dt2010_X7_init_ok (k := 23) rfl
theorem dX7_init_51 : decode cX7_init 51 = .ok (.aload_n 0, 1) := g_dec dt2010_X7_init_ok (k := 24) rfl
theorem dX7_init_52 : decode cX7_init 52 = .ok (.new 24, 3) := g_dec dt2010_X7_init_ok (k := 25) rfl
theorem dX7_init_55 : decode cX7_init 55 = .ok (.dup, 1) := g_dec dt2010_X7_init_ok (k := 26) rfl
theorem dX7_init_56 : decode cX7_init 56 = .ok (.bipush 12, 2) := g_dec dt2010_X7_init_ok (k := 27) rfl
theorem dX7_init_58 : decode cX7_init 58 = .ok (.invokespecial 26, 3) := g_dec dt2010_X7_init_ok (k := 28) rfl
theorem dX7_init_61 : decode cX7_init 61 = .ok (.putfield 34, 3) := g_dec dt2010_X7_init_ok (k := 29) rfl
theorem dX7_init_64 : decode cX7_init 64 = .ok (.iconst 0, 1) := g_dec dt2010_X7_init_ok (k := 30) rfl
theorem dX7_init_65 : decode cX7_init 65 = .ok (.istore_n 1, 1) := g_dec dt2010_X7_init_ok (k := 31) rfl
theorem dX7_init_66 : decode cX7_init 66 = .ok (.iload_n 1, 1) := g_dec dt2010_X7_init_ok (k := 32) rfl
theorem dX7_init_67 : decode cX7_init 67 = .ok (.aload_n 0, 1) := g_dec dt2010_X7_init_ok (k := 33) rfl
theorem dX7_init_68 : decode cX7_init 68 = .ok (.getfield 11, 3) := g_dec dt2010_X7_init_ok (k := 34) rfl
theorem dX7_init_71 : decode cX7_init 71 = .ok (.arraylength, 1) := g_dec dt2010_X7_init_ok (k := 35) rfl
theorem dX7_init_72 : decode cX7_init 72 = .ok (.if_icmp .ge 23, 3) := g_dec dt2010_X7_init_ok (k := 36) rfl
theorem dX7_init_75 : decode cX7_init 75 = .ok (.aload_n 0, 1) := g_dec dt2010_X7_init_ok (k := 37) rfl
theorem dX7_init_76 : decode cX7_init 76 = .ok (.getfield 11, 3) := g_dec dt2010_X7_init_ok (k := 38) rfl
theorem dX7_init_79 : decode cX7_init 79 = .ok (.iload_n 1, 1) := g_dec dt2010_X7_init_ok (k := 39) rfl
theorem dX7_init_80 : decode cX7_init 80 = .ok (.new 9, 3) := g_dec dt2010_X7_init_ok (k := 40) rfl
theorem dX7_init_83 : decode cX7_init 83 = .ok (.dup, 1) := g_dec dt2010_X7_init_ok (k := 41) rfl
theorem dX7_init_84 : decode cX7_init 84 = .ok (.iload_n 1, 1) := g_dec dt2010_X7_init_ok (k := 42) rfl
theorem dX7_init_85 : decode cX7_init 85 = .ok (.invokespecial 17, 3) := g_dec dt2010_X7_init_ok (k := 43) rfl
theorem dX7_init_88 : decode cX7_init 88 = .ok (.aastore, 1) := g_dec dt2010_X7_init_ok (k := 44) rfl
theorem dX7_init_89 : decode cX7_init 89 = .ok (.iinc 1 1, 3) := g_dec dt2010_X7_init_ok (k := 45) rfl
theorem dX7_init_92 : decode cX7_init 92 = .ok (.goto (-26), 3) := g_dec dt2010_X7_init_ok (k := 46) rfl
theorem dX7_init_95 : decode cX7_init 95 = .ok (.return_, 1) := g_dec dt2010_X7_init_ok (k := 47) rfl
set_option maxRecDepth 100000 in
set_option maxHeartbeats 4000000 in
theorem k_X8_init_0 (l : Launch) (D : va_G) (y : Nat → ClassId) (aS : Nat → Nat) (sz : Nat) (h0 : Nat) (wp390 : Int32) : Met l yX8_init (Cond.code yX8_init cX8_init 2 none :: wsL_law) ({ frames := 1, cells := 1, slots := 9, locals := 12 } : Room) (va_Pc [.ref h0, .int 9] (gI D y aS [(h0, .inr (8, [.null, .int wp390]))] sz)) (va_Qv (fun (u : Nat) => True) (fun u => gO D (va_A [(h0, .inr (8, [.null, .int wp390]))] sz) [(h0, .inr (8, [.ref u, .int wp390])), (u, .inl (y 1, 9, .inr (.inl (fun _ => 0))))]) (va_A [(h0, .inr (8, [.null, .int wp390]))] sz)) 1 9 (va_A [(h0, .inr (8, [.null, .int wp390]))] sz) := by
  refine g_of (by decide) (Nat.le_of_ble_eq_true rfl) ?_
  intro p e s m below meth c ls A hx hb hr hml hown hg hlocks hin hsz hK hP hD hS hA hAe hl
  rw [← hAe]
  replace hown : s.vm.findClass RX8 = some m.cls := hown
  replace hin : meth.name = "<init>" := hin
  replace hl : lv_has ls 2 [(0, .ref h0), (1, .int 9)] := hl
  refine lv_aload_n hx hb dX8_init_0 rfl (lv_at hl 0 rfl) ?_
  refine W.objInit hx hb hown (hg _ gw_97) (hg _ gw_11) (hg _ gw_12) rfl (by rw [hml]; exact hl.1) rfl dX8_init_1 (Nat.le_of_ble_eq_true rfl) (Nat.le_of_ble_eq_true rfl) ?_
  refine W.eq (g2 := F0 m 4 ls []) rfl ?_
  refine lv_aload_n hx hb dX8_init_4 rfl (lv_at hl 0 rfl) ?_
  refine lv_iload_n hx hb dX8_init_5 rfl (lv_at hl 1 rfl) ?_
  refine lv_if_ge (tgt := 13) hx hb dX8_init_6 (by decide) (fun _ => ?_) (fun c9 => absurd c9 (by decide +kernel))
  refine lv_iload_n hx hb dX8_init_13 rfl (lv_at hl 1 rfl) ?_
  refine g_newa (atype := .long) (ty := .long) (N' := 9) (a0 := (9, .inr (.inl (fun _ => 0)))) hx hb 1 rfl (fun _ h => by cases h) (hg _ gw_6) rfl hK hP hD hS hA (fun _ => rfl) (by decide +kernel) (by decide +kernel) (by decide) (Nat.le_of_ble_eq_true rfl) (Nat.le_of_ble_eq_true rfl) dX8_init_14 ?_
  clear hP hD hS
  refine fun q391 H (hP : va_P D vwCl [(h0, .inr (8, [.null, .int wp390])), (q391, .inl (y 1, 9, .inr (.inl (fun _ => 0))))] H) (hD : va_D A [(h0, .inr (8, [.null, .int wp390])), (q391, .inl (y 1, 9, .inr (.inl (fun _ => 0))))]) hS => ?_
  refine gm_putF (D := D) (ci := 8) (v := .ref q391) (ty := .array .long) (C := RX8) (T := TX8) (N := 2) hx hb hg inlX8 tyX8 tyX8_ok nmX8 hown hK.1 hP hD hS 0 rfl rfl 0 (by decide) tX8_0 (hg _ gw_98) hin rfl (by decide +kernel) rfl rfl (Nat.le_of_ble_eq_true rfl) dX8_init_16 ?_
  clear hP hD hS H
  refine fun H locs (hP : va_P D vwCl [(h0, .inr (8, [.ref q391, .int wp390])), (q391, .inl (y 1, 9, .inr (.inl (fun _ => 0))))] H) (hD : va_D A [(h0, .inr (8, [.ref q391, .int wp390])), (q391, .inl (y 1, 9, .inr (.inl (fun _ => 0))))]) hS => ?_
  exact g_vret hx hb hr hlocks q391 hP hD hS trivial (Nat.le_of_ble_eq_true rfl) (Nat.le_of_ble_eq_true rfl) dX8_init_19
theorem ggI_RX0_11_X8_init : GoodIn wsL_law ([] ++ (Cond.code yX8_init cX8_init 2 none :: wsL_law)) := g_gi (fun _ h => h) gW_good (fun _ h => nomatch h) ⟨gw_96, rfl⟩
set_option maxRecDepth 100000 in
set_option maxHeartbeats 4000000 in
theorem k_X0_init_0 (l : Launch) (D : va_G) (y : Nat → ClassId) (aS : Nat → Nat) (sz : Nat) (h0 : Nat) (wp400 : Int32) (wp401 : Int32) (wp402 : Int32) (wp403 : Int32) : Met l yX0_init (Cond.code yX0_init cX0_init 1 none :: wsL_law) ({ frames := 2, cells := 6, slots := 33, locals := 33 } : Room) (va_Pc [.ref h0] (gI D y aS [(h0, .inr (0, [.null, .null, .null, .int wp400, .int wp401, .int wp402, .int wp403]))] sz)) (va_Qv (fun (u : Nat × Nat × Nat × Nat × Nat × Nat) => True) (fun u => gO D (va_A [(h0, .inr (0, [.null, .null, .null, .int wp400, .int wp401, .int wp402, .int wp403]))] sz) [(h0, .inr (0, [.ref u.1, .ref u.2.1, .ref u.2.2.1, .int wp400, .int wp401, .int wp402, .int wp403])), (u.1, .inr (8, [.ref u.2.2.2.1, .int 0])), (u.2.2.2.1, .inl (y 1, 9, .inr (.inl (fun _ => 0)))), (u.2.1, .inr (8, [.ref u.2.2.2.2.1, .int 0])), (u.2.2.2.2.1, .inl (y 1, 9, .inr (.inl (fun _ => 0)))), (u.2.2.1, .inr (8, [.ref u.2.2.2.2.2, .int 0])), (u.2.2.2.2.2, .inl (y 1, 9, .inr (.inl (fun _ => 0))))]) (va_A [(h0, .inr (0, [.null, .null, .null, .int wp400, .int wp401, .int wp402, .int wp403]))] sz)) 6 33 (va_A [(h0, .inr (0, [.null, .null, .null, .int wp400, .int wp401, .int wp402, .int wp403]))] sz) := by
  refine g_of (by decide) (Nat.le_of_ble_eq_true rfl) ?_
  intro p e s m below meth c ls A hx hb hr hml hown hg hlocks hin hsz hK hP hD hS hA hAe hl
  rw [← hAe]
  replace hown : s.vm.findClass RX0 = some m.cls := hown
  replace hin : meth.name = "<init>" := hin
  replace hl : lv_has ls 1 [(0, .ref h0)] := hl
  refine lv_aload_n hx hb dX0_init_0 rfl (lv_at hl 0 rfl) ?_
  refine W.objInit hx hb hown (hg _ gw_119) (hg _ gw_11) (hg _ gw_12) rfl (by rw [hml]; exact hl.1) rfl dX0_init_1 (Nat.le_of_ble_eq_true rfl) (Nat.le_of_ble_eq_true rfl) ?_
  refine W.eq (g2 := F0 m 4 ls []) rfl ?_
  refine lv_aload_n hx hb dX0_init_4 rfl (lv_at hl 0 rfl) ?_
  refine va_new (ci := 8) (fs := [.null, .int 0]) (C := RX8) (T := TX8) (N := 2) hx hb hg inlX8 tyX8 tyX8_ok hown (hg _ gw_120) (hg _ gw_47) (hg _ gw_48) hK.1 hP hD hS hA rfl dfX8 (Nat.le_of_ble_eq_true rfl) (Nat.le_of_ble_eq_true rfl) dX0_init_5 ?_
  clear hP hD hS
  refine fun q404 H (hP : va_P D vwCl [(h0, .inr (0, [.null, .null, .null, .int wp400, .int wp401, .int wp402, .int wp403])), (q404, .inr (8, [.null, .int 0]))] H) (hD : va_D A [(h0, .inr (0, [.null, .null, .null, .int wp400, .int wp401, .int wp402, .int wp403])), (q404, .inr (8, [.null, .int 0]))]) hS => ?_
  refine lv_dup hx hb dX0_init_8 rfl ?_
  refine lv_bipush (v := 9) hx hb dX0_init_9 (by decide +kernel) ?_
  refine g_av (wr := [(h0, .inr (0, [.null, .null, .null, .int wp400, .int wp401, .int wp402, .int wp403]))]) (va_runI (As := [.int 9]) (rest := [.ref q404, .ref h0]) ⟨hx, hb, hml, hown, hg⟩ (k_X8_init_0 l D y aS H.size q404 0) (cwI 1 hg ggI_RX0_11_X8_init rfl rfl rfl (hg _ gw_48) (hg _ gw_124) (hg _ gw_95) rfl (by decide +kernel) ⟨Nat.le_of_ble_eq_true rfl, Nat.le_of_ble_eq_true rfl⟩) (g_preS hK hP hD [1] rfl (by decide)) rfl rfl hl.1 rfl (lv_room (Nat.le_of_ble_eq_true rfl)) dX0_init_11 ⟨Nat.le_of_ble_eq_true rfl, Nat.le_of_ble_eq_true rfl⟩) hP hD hS hA [1] [0] rfl rfl (by decide) (by decide) ?_
  clear hP hD hS H
  refine fun u H locs hq hP hD hS => ?_
  obtain ⟨ca0406, rfl⟩ : ∃ z9, z9 = u := ⟨_, rfl⟩
  replace hP : va_P D vwCl [(h0, .inr (0, [.null, .null, .null, .int wp400, .int wp401, .int wp402, .int wp403])), (q404, .inr (8, [.ref ca0406, .int 0])), (ca0406, .inl (y 1, 9, .inr (.inl (fun _ => 0))))] H := hP
  replace hD : va_D A [(h0, .inr (0, [.null, .null, .null, .int wp400, .int wp401, .int wp402, .int wp403])), (q404, .inr (8, [.ref ca0406, .int 0])), (ca0406, .inl (y 1, 9, .inr (.inl (fun _ => 0))))] := hD
  refine gm_putF (D := D) (ci := 0) (v := .ref q404) (ty := .object "Greentrunk$Row") (C := RX0) (T := TX0) (N := 7) hx hb hg inlX0 tyX0 tyX0_ok nmX0 hown hK.1 hP hD hS 0 rfl rfl 0 (by decide) tX0_0 (hg _ gw_121) hin rfl (by decide +kernel) rfl rfl (Nat.le_of_ble_eq_true rfl) dX0_init_14 ?_
  clear hP hD hS H locs
  refine fun H locs (hP : va_P D vwCl [(h0, .inr (0, [.ref q404, .null, .null, .int wp400, .int wp401, .int wp402, .int wp403])), (q404, .inr (8, [.ref ca0406, .int 0])), (ca0406, .inl (y 1, 9, .inr (.inl (fun _ => 0))))] H) (hD : va_D A [(h0, .inr (0, [.ref q404, .null, .null, .int wp400, .int wp401, .int wp402, .int wp403])), (q404, .inr (8, [.ref ca0406, .int 0])), (ca0406, .inl (y 1, 9, .inr (.inl (fun _ => 0))))]) hS => ?_
  refine lv_aload_n hx hb dX0_init_17 rfl (lv_at hl 0 rfl) ?_
  refine va_new (ci := 8) (fs := [.null, .int 0]) (C := RX8) (T := TX8) (N := 2) hx hb hg inlX8 tyX8 tyX8_ok hown (hg _ gw_120) (hg _ gw_47) (hg _ gw_48) hK.1 hP hD hS hA rfl dfX8 (Nat.le_of_ble_eq_true rfl) (Nat.le_of_ble_eq_true rfl) dX0_init_18 ?_
  clear hP hD hS H
  refine fun q407 H (hP : va_P D vwCl [(h0, .inr (0, [.ref q404, .null, .null, .int wp400, .int wp401, .int wp402, .int wp403])), (q404, .inr (8, [.ref ca0406, .int 0])), (ca0406, .inl (y 1, 9, .inr (.inl (fun _ => 0)))), (q407, .inr (8, [.null, .int 0]))] H) (hD : va_D A [(h0, .inr (0, [.ref q404, .null, .null, .int wp400, .int wp401, .int wp402, .int wp403])), (q404, .inr (8, [.ref ca0406, .int 0])), (ca0406, .inl (y 1, 9, .inr (.inl (fun _ => 0)))), (q407, .inr (8, [.null, .int 0]))]) hS => ?_
  refine lv_dup hx hb dX0_init_21 rfl ?_
  refine lv_bipush (v := 9) hx hb dX0_init_22 (by decide +kernel) ?_
  refine g_av (wr := [(h0, .inr (0, [.ref q404, .null, .null, .int wp400, .int wp401, .int wp402, .int wp403])), (q404, .inr (8, [.ref ca0406, .int 0])), (ca0406, .inl (y 1, 9, .inr (.inl (fun _ => 0))))]) (va_runI (As := [.int 9]) (rest := [.ref q407, .ref h0]) ⟨hx, hb, hml, hown, hg⟩ (k_X8_init_0 l D y aS H.size q407 0) (cwI 1 hg ggI_RX0_11_X8_init rfl rfl rfl (hg _ gw_48) (hg _ gw_124) (hg _ gw_95) rfl (by decide +kernel) ⟨Nat.le_of_ble_eq_true rfl, Nat.le_of_ble_eq_true rfl⟩) (g_preS hK hP hD [3] rfl (by decide)) rfl rfl hl.1 rfl (lv_room (Nat.le_of_ble_eq_true rfl)) dX0_init_24 ⟨Nat.le_of_ble_eq_true rfl, Nat.le_of_ble_eq_true rfl⟩) hP hD hS hA [3] [0, 1, 2] rfl rfl (by decide) (by decide) ?_
  clear hP hD hS H locs
  refine fun u H locs hq hP hD hS => ?_
  obtain ⟨ca0409, rfl⟩ : ∃ z9, z9 = u := ⟨_, rfl⟩
  replace hP : va_P D vwCl [(h0, .inr (0, [.ref q404, .null, .null, .int wp400, .int wp401, .int wp402, .int wp403])), (q404, .inr (8, [.ref ca0406, .int 0])), (ca0406, .inl (y 1, 9, .inr (.inl (fun _ => 0)))), (q407, .inr (8, [.ref ca0409, .int 0])), (ca0409, .inl (y 1, 9, .inr (.inl (fun _ => 0))))] H := hP
  replace hD : va_D A [(h0, .inr (0, [.ref q404, .null, .null, .int wp400, .int wp401, .int wp402, .int wp403])), (q404, .inr (8, [.ref ca0406, .int 0])), (ca0406, .inl (y 1, 9, .inr (.inl (fun _ => 0)))), (q407, .inr (8, [.ref ca0409, .int 0])), (ca0409, .inl (y 1, 9, .inr (.inl (fun _ => 0))))] := hD
  refine gm_putF (D := D) (ci := 0) (v := .ref q407) (ty := .object "Greentrunk$Row") (C := RX0) (T := TX0) (N := 7) hx hb hg inlX0 tyX0 tyX0_ok nmX0 hown hK.1 hP hD hS 0 rfl rfl 1 (by decide) tX0_1 (hg _ gw_122) hin rfl (by decide +kernel) rfl rfl (Nat.le_of_ble_eq_true rfl) dX0_init_27 ?_
  clear hP hD hS H locs
  refine fun H locs (hP : va_P D vwCl [(h0, .inr (0, [.ref q404, .ref q407, .null, .int wp400, .int wp401, .int wp402, .int wp403])), (q404, .inr (8, [.ref ca0406, .int 0])), (ca0406, .inl (y 1, 9, .inr (.inl (fun _ => 0)))), (q407, .inr (8, [.ref ca0409, .int 0])), (ca0409, .inl (y 1, 9, .inr (.inl (fun _ => 0))))] H) (hD : va_D A [(h0, .inr (0, [.ref q404, .ref q407, .null, .int wp400, .int wp401, .int wp402, .int wp403])), (q404, .inr (8, [.ref ca0406, .int 0])), (ca0406, .inl (y 1, 9, .inr (.inl (fun _ => 0)))), (q407, .inr (8, [.ref ca0409, .int 0])), (ca0409, .inl (y 1, 9, .inr (.inl (fun _ => 0))))]) hS => ?_
  refine lv_aload_n hx hb dX0_init_30 rfl (lv_at hl 0 rfl) ?_
  refine va_new (ci := 8) (fs := [.null, .int 0]) (C := RX8) (T := TX8) (N := 2) hx hb hg inlX8 tyX8 tyX8_ok hown (hg _ gw_120) (hg _ gw_47) (hg _ gw_48) hK.1 hP hD hS hA rfl dfX8 (Nat.le_of_ble_eq_true rfl) (Nat.le_of_ble_eq_true rfl) dX0_init_31 ?_
  clear hP hD hS H
  refine fun q410 H (hP : va_P D vwCl [(h0, .inr (0, [.ref q404, .ref q407, .null, .int wp400, .int wp401, .int wp402, .int wp403])), (q404, .inr (8, [.ref ca0406, .int 0])), (ca0406, .inl (y 1, 9, .inr (.inl (fun _ => 0)))), (q407, .inr (8, [.ref ca0409, .int 0])), (ca0409, .inl (y 1, 9, .inr (.inl (fun _ => 0)))), (q410, .inr (8, [.null, .int 0]))] H) (hD : va_D A [(h0, .inr (0, [.ref q404, .ref q407, .null, .int wp400, .int wp401, .int wp402, .int wp403])), (q404, .inr (8, [.ref ca0406, .int 0])), (ca0406, .inl (y 1, 9, .inr (.inl (fun _ => 0)))), (q407, .inr (8, [.ref ca0409, .int 0])), (ca0409, .inl (y 1, 9, .inr (.inl (fun _ => 0)))), (q410, .inr (8, [.null, .int 0]))]) hS => ?_
  refine lv_dup hx hb dX0_init_34 rfl ?_
  refine lv_bipush (v := 9) hx hb dX0_init_35 (by decide +kernel) ?_
  refine g_av (wr := [(h0, .inr (0, [.ref q404, .ref q407, .null, .int wp400, .int wp401, .int wp402, .int wp403])), (q404, .inr (8, [.ref ca0406, .int 0])), (ca0406, .inl (y 1, 9, .inr (.inl (fun _ => 0)))), (q407, .inr (8, [.ref ca0409, .int 0])), (ca0409, .inl (y 1, 9, .inr (.inl (fun _ => 0))))]) (va_runI (As := [.int 9]) (rest := [.ref q410, .ref h0]) ⟨hx, hb, hml, hown, hg⟩ (k_X8_init_0 l D y aS H.size q410 0) (cwI 1 hg ggI_RX0_11_X8_init rfl rfl rfl (hg _ gw_48) (hg _ gw_124) (hg _ gw_95) rfl (by decide +kernel) ⟨Nat.le_of_ble_eq_true rfl, Nat.le_of_ble_eq_true rfl⟩) (g_preS hK hP hD [5] rfl (by decide)) rfl rfl hl.1 rfl (lv_room (Nat.le_of_ble_eq_true rfl)) dX0_init_37 ⟨Nat.le_of_ble_eq_true rfl, Nat.le_of_ble_eq_true rfl⟩) hP hD hS hA [5] [0, 1, 2, 3, 4] rfl rfl (by decide) (by decide) ?_
  clear hP hD hS H locs
  refine fun u H locs hq hP hD hS => ?_
  obtain ⟨ca0412, rfl⟩ : ∃ z9, z9 = u := ⟨_, rfl⟩
  replace hP : va_P D vwCl [(h0, .inr (0, [.ref q404, .ref q407, .null, .int wp400, .int wp401, .int wp402, .int wp403])), (q404, .inr (8, [.ref ca0406, .int 0])), (ca0406, .inl (y 1, 9, .inr (.inl (fun _ => 0)))), (q407, .inr (8, [.ref ca0409, .int 0])), (ca0409, .inl (y 1, 9, .inr (.inl (fun _ => 0)))), (q410, .inr (8, [.ref ca0412, .int 0])), (ca0412, .inl (y 1, 9, .inr (.inl (fun _ => 0))))] H := hP
  replace hD : va_D A [(h0, .inr (0, [.ref q404, .ref q407, .null, .int wp400, .int wp401, .int wp402, .int wp403])), (q404, .inr (8, [.ref ca0406, .int 0])), (ca0406, .inl (y 1, 9, .inr (.inl (fun _ => 0)))), (q407, .inr (8, [.ref ca0409, .int 0])), (ca0409, .inl (y 1, 9, .inr (.inl (fun _ => 0)))), (q410, .inr (8, [.ref ca0412, .int 0])), (ca0412, .inl (y 1, 9, .inr (.inl (fun _ => 0))))] := hD
  refine gm_putF (D := D) (ci := 0) (v := .ref q410) (ty := .object "Greentrunk$Row") (C := RX0) (T := TX0) (N := 7) hx hb hg inlX0 tyX0 tyX0_ok nmX0 hown hK.1 hP hD hS 0 rfl rfl 2 (by decide) tX0_2 (hg _ gw_123) hin rfl (by decide +kernel) rfl rfl (Nat.le_of_ble_eq_true rfl) dX0_init_40 ?_
  clear hP hD hS H locs
  refine fun H locs (hP : va_P D vwCl [(h0, .inr (0, [.ref q404, .ref q407, .ref q410, .int wp400, .int wp401, .int wp402, .int wp403])), (q404, .inr (8, [.ref ca0406, .int 0])), (ca0406, .inl (y 1, 9, .inr (.inl (fun _ => 0)))), (q407, .inr (8, [.ref ca0409, .int 0])), (ca0409, .inl (y 1, 9, .inr (.inl (fun _ => 0)))), (q410, .inr (8, [.ref ca0412, .int 0])), (ca0412, .inl (y 1, 9, .inr (.inl (fun _ => 0))))] H) (hD : va_D A [(h0, .inr (0, [.ref q404, .ref q407, .ref q410, .int wp400, .int wp401, .int wp402, .int wp403])), (q404, .inr (8, [.ref ca0406, .int 0])), (ca0406, .inl (y 1, 9, .inr (.inl (fun _ => 0)))), (q407, .inr (8, [.ref ca0409, .int 0])), (ca0409, .inl (y 1, 9, .inr (.inl (fun _ => 0)))), (q410, .inr (8, [.ref ca0412, .int 0])), (ca0412, .inl (y 1, 9, .inr (.inl (fun _ => 0))))]) hS => ?_
  exact g_vret hx hb hr hlocks ⟨q404, q407, q410, ca0406, ca0409, ca0412⟩ hP hD hS trivial (Nat.le_of_ble_eq_true rfl) (Nat.le_of_ble_eq_true rfl) dX0_init_43
set_option maxRecDepth 100000 in
set_option maxHeartbeats 4000000 in
theorem k_X8_init_1 (l : Launch) (D : va_G) (y : Nat → ClassId) (aS : Nat → Nat) (sz : Nat) (h0 : Nat) (wp415 : Int32) : Met l yX8_init (Cond.code yX8_init cX8_init 2 none :: wsL_law) ({ frames := 1, cells := 1, slots := 60, locals := 12 } : Room) (va_Pc [.ref h0, .int 60] (gI D y aS [(h0, .inr (8, [.null, .int wp415]))] sz)) (va_Qv (fun (u : Nat) => True) (fun u => gO D (va_A [(h0, .inr (8, [.null, .int wp415]))] sz) [(h0, .inr (8, [.ref u, .int wp415])), (u, .inl (y 1, 60, .inr (.inl (fun _ => 0))))]) (va_A [(h0, .inr (8, [.null, .int wp415]))] sz)) 1 60 (va_A [(h0, .inr (8, [.null, .int wp415]))] sz) := by
  refine g_of (by decide) (Nat.le_of_ble_eq_true rfl) ?_
  intro p e s m below meth c ls A hx hb hr hml hown hg hlocks hin hsz hK hP hD hS hA hAe hl
  rw [← hAe]
  replace hown : s.vm.findClass RX8 = some m.cls := hown
  replace hin : meth.name = "<init>" := hin
  replace hl : lv_has ls 2 [(0, .ref h0), (1, .int 60)] := hl
  refine lv_aload_n hx hb dX8_init_0 rfl (lv_at hl 0 rfl) ?_
  refine W.objInit hx hb hown (hg _ gw_97) (hg _ gw_11) (hg _ gw_12) rfl (by rw [hml]; exact hl.1) rfl dX8_init_1 (Nat.le_of_ble_eq_true rfl) (Nat.le_of_ble_eq_true rfl) ?_
  refine W.eq (g2 := F0 m 4 ls []) rfl ?_
  refine lv_aload_n hx hb dX8_init_4 rfl (lv_at hl 0 rfl) ?_
  refine lv_iload_n hx hb dX8_init_5 rfl (lv_at hl 1 rfl) ?_
  refine lv_if_ge (tgt := 13) hx hb dX8_init_6 (by decide) (fun _ => ?_) (fun c9 => absurd c9 (by decide +kernel))
  refine lv_iload_n hx hb dX8_init_13 rfl (lv_at hl 1 rfl) ?_
  refine g_newa (atype := .long) (ty := .long) (N' := 60) (a0 := (60, .inr (.inl (fun _ => 0)))) hx hb 1 rfl (fun _ h => by cases h) (hg _ gw_6) rfl hK hP hD hS hA (fun _ => rfl) (by decide +kernel) (by decide +kernel) (by decide) (Nat.le_of_ble_eq_true rfl) (Nat.le_of_ble_eq_true rfl) dX8_init_14 ?_
  clear hP hD hS
  refine fun q416 H (hP : va_P D vwCl [(h0, .inr (8, [.null, .int wp415])), (q416, .inl (y 1, 60, .inr (.inl (fun _ => 0))))] H) (hD : va_D A [(h0, .inr (8, [.null, .int wp415])), (q416, .inl (y 1, 60, .inr (.inl (fun _ => 0))))]) hS => ?_
  refine gm_putF (D := D) (ci := 8) (v := .ref q416) (ty := .array .long) (C := RX8) (T := TX8) (N := 2) hx hb hg inlX8 tyX8 tyX8_ok nmX8 hown hK.1 hP hD hS 0 rfl rfl 0 (by decide) tX8_0 (hg _ gw_98) hin rfl (by decide +kernel) rfl rfl (Nat.le_of_ble_eq_true rfl) dX8_init_16 ?_
  clear hP hD hS H
  refine fun H locs (hP : va_P D vwCl [(h0, .inr (8, [.ref q416, .int wp415])), (q416, .inl (y 1, 60, .inr (.inl (fun _ => 0))))] H) (hD : va_D A [(h0, .inr (8, [.ref q416, .int wp415])), (q416, .inl (y 1, 60, .inr (.inl (fun _ => 0))))]) hS => ?_
  exact g_vret hx hb hr hlocks q416 hP hD hS trivial (Nat.le_of_ble_eq_true rfl) (Nat.le_of_ble_eq_true rfl) dX8_init_19
theorem ggI_RX4_20_X8_init : GoodIn wsL_law ([] ++ (Cond.code yX8_init cX8_init 2 none :: wsL_law)) := g_gi (fun _ h => h) gW_good (fun _ h => nomatch h) ⟨gw_96, rfl⟩
set_option maxRecDepth 100000 in
set_option maxHeartbeats 4000000 in
theorem k_X8_init_2 (l : Launch) (D : va_G) (y : Nat → ClassId) (aS : Nat → Nat) (sz : Nat) (h0 : Nat) (wp421 : Int32) : Met l yX8_init (Cond.code yX8_init cX8_init 2 none :: wsL_law) ({ frames := 1, cells := 1, slots := 32, locals := 12 } : Room) (va_Pc [.ref h0, .int 32] (gI D y aS [(h0, .inr (8, [.null, .int wp421]))] sz)) (va_Qv (fun (u : Nat) => True) (fun u => gO D (va_A [(h0, .inr (8, [.null, .int wp421]))] sz) [(h0, .inr (8, [.ref u, .int wp421])), (u, .inl (y 1, 32, .inr (.inl (fun _ => 0))))]) (va_A [(h0, .inr (8, [.null, .int wp421]))] sz)) 1 32 (va_A [(h0, .inr (8, [.null, .int wp421]))] sz) := by
  refine g_of (by decide) (Nat.le_of_ble_eq_true rfl) ?_
  intro p e s m below meth c ls A hx hb hr hml hown hg hlocks hin hsz hK hP hD hS hA hAe hl
  rw [← hAe]
  replace hown : s.vm.findClass RX8 = some m.cls := hown
  replace hin : meth.name = "<init>" := hin
  replace hl : lv_has ls 2 [(0, .ref h0), (1, .int 32)] := hl
  refine lv_aload_n hx hb dX8_init_0 rfl (lv_at hl 0 rfl) ?_
  refine W.objInit hx hb hown (hg _ gw_97) (hg _ gw_11) (hg _ gw_12) rfl (by rw [hml]; exact hl.1) rfl dX8_init_1 (Nat.le_of_ble_eq_true rfl) (Nat.le_of_ble_eq_true rfl) ?_
  refine W.eq (g2 := F0 m 4 ls []) rfl ?_
  refine lv_aload_n hx hb dX8_init_4 rfl (lv_at hl 0 rfl) ?_
  refine lv_iload_n hx hb dX8_init_5 rfl (lv_at hl 1 rfl) ?_
  refine lv_if_ge (tgt := 13) hx hb dX8_init_6 (by decide) (fun _ => ?_) (fun c9 => absurd c9 (by decide +kernel))
  refine lv_iload_n hx hb dX8_init_13 rfl (lv_at hl 1 rfl) ?_
  refine g_newa (atype := .long) (ty := .long) (N' := 32) (a0 := (32, .inr (.inl (fun _ => 0)))) hx hb 1 rfl (fun _ h => by cases h) (hg _ gw_6) rfl hK hP hD hS hA (fun _ => rfl) (by decide +kernel) (by decide +kernel) (by decide) (Nat.le_of_ble_eq_true rfl) (Nat.le_of_ble_eq_true rfl) dX8_init_14 ?_
  clear hP hD hS
  refine fun q422 H (hP : va_P D vwCl [(h0, .inr (8, [.null, .int wp421])), (q422, .inl (y 1, 32, .inr (.inl (fun _ => 0))))] H) (hD : va_D A [(h0, .inr (8, [.null, .int wp421])), (q422, .inl (y 1, 32, .inr (.inl (fun _ => 0))))]) hS => ?_
  refine gm_putF (D := D) (ci := 8) (v := .ref q422) (ty := .array .long) (C := RX8) (T := TX8) (N := 2) hx hb hg inlX8 tyX8 tyX8_ok nmX8 hown hK.1 hP hD hS 0 rfl rfl 0 (by decide) tX8_0 (hg _ gw_98) hin rfl (by decide +kernel) rfl rfl (Nat.le_of_ble_eq_true rfl) dX8_init_16 ?_
  clear hP hD hS H
  refine fun H locs (hP : va_P D vwCl [(h0, .inr (8, [.ref q422, .int wp421])), (q422, .inl (y 1, 32, .inr (.inl (fun _ => 0))))] H) (hD : va_D A [(h0, .inr (8, [.ref q422, .int wp421])), (q422, .inl (y 1, 32, .inr (.inl (fun _ => 0))))]) hS => ?_
  exact g_vret hx hb hr hlocks q422 hP hD hS trivial (Nat.le_of_ble_eq_true rfl) (Nat.le_of_ble_eq_true rfl) dX8_init_19
set_option maxRecDepth 100000 in
set_option maxHeartbeats 4000000 in
theorem k_X8_init_3 (l : Launch) (D : va_G) (y : Nat → ClassId) (aS : Nat → Nat) (sz : Nat) (h0 : Nat) (wp427 : Int32) : Met l yX8_init (Cond.code yX8_init cX8_init 2 none :: wsL_law) ({ frames := 1, cells := 1, slots := 4, locals := 12 } : Room) (va_Pc [.ref h0, .int 4] (gI D y aS [(h0, .inr (8, [.null, .int wp427]))] sz)) (va_Qv (fun (u : Nat) => True) (fun u => gO D (va_A [(h0, .inr (8, [.null, .int wp427]))] sz) [(h0, .inr (8, [.ref u, .int wp427])), (u, .inl (y 1, 4, .inr (.inl (fun _ => 0))))]) (va_A [(h0, .inr (8, [.null, .int wp427]))] sz)) 1 4 (va_A [(h0, .inr (8, [.null, .int wp427]))] sz) := by
  refine g_of (by decide) (Nat.le_of_ble_eq_true rfl) ?_
  intro p e s m below meth c ls A hx hb hr hml hown hg hlocks hin hsz hK hP hD hS hA hAe hl
  rw [← hAe]
  replace hown : s.vm.findClass RX8 = some m.cls := hown
  replace hin : meth.name = "<init>" := hin
  replace hl : lv_has ls 2 [(0, .ref h0), (1, .int 4)] := hl
  refine lv_aload_n hx hb dX8_init_0 rfl (lv_at hl 0 rfl) ?_
  refine W.objInit hx hb hown (hg _ gw_97) (hg _ gw_11) (hg _ gw_12) rfl (by rw [hml]; exact hl.1) rfl dX8_init_1 (Nat.le_of_ble_eq_true rfl) (Nat.le_of_ble_eq_true rfl) ?_
  refine W.eq (g2 := F0 m 4 ls []) rfl ?_
  refine lv_aload_n hx hb dX8_init_4 rfl (lv_at hl 0 rfl) ?_
  refine lv_iload_n hx hb dX8_init_5 rfl (lv_at hl 1 rfl) ?_
  refine lv_if_ge (tgt := 13) hx hb dX8_init_6 (by decide) (fun _ => ?_) (fun c9 => absurd c9 (by decide +kernel))
  refine lv_iload_n hx hb dX8_init_13 rfl (lv_at hl 1 rfl) ?_
  refine g_newa (atype := .long) (ty := .long) (N' := 4) (a0 := (4, .inr (.inl (fun _ => 0)))) hx hb 1 rfl (fun _ h => by cases h) (hg _ gw_6) rfl hK hP hD hS hA (fun _ => rfl) (by decide +kernel) (by decide +kernel) (by decide) (Nat.le_of_ble_eq_true rfl) (Nat.le_of_ble_eq_true rfl) dX8_init_14 ?_
  clear hP hD hS
  refine fun q428 H (hP : va_P D vwCl [(h0, .inr (8, [.null, .int wp427])), (q428, .inl (y 1, 4, .inr (.inl (fun _ => 0))))] H) (hD : va_D A [(h0, .inr (8, [.null, .int wp427])), (q428, .inl (y 1, 4, .inr (.inl (fun _ => 0))))]) hS => ?_
  refine gm_putF (D := D) (ci := 8) (v := .ref q428) (ty := .array .long) (C := RX8) (T := TX8) (N := 2) hx hb hg inlX8 tyX8 tyX8_ok nmX8 hown hK.1 hP hD hS 0 rfl rfl 0 (by decide) tX8_0 (hg _ gw_98) hin rfl (by decide +kernel) rfl rfl (Nat.le_of_ble_eq_true rfl) dX8_init_16 ?_
  clear hP hD hS H
  refine fun H locs (hP : va_P D vwCl [(h0, .inr (8, [.ref q428, .int wp427])), (q428, .inl (y 1, 4, .inr (.inl (fun _ => 0))))] H) (hD : va_D A [(h0, .inr (8, [.ref q428, .int wp427])), (q428, .inl (y 1, 4, .inr (.inl (fun _ => 0))))]) hS => ?_
  exact g_vret hx hb hr hlocks q428 hP hD hS trivial (Nat.le_of_ble_eq_true rfl) (Nat.le_of_ble_eq_true rfl) dX8_init_19
set_option maxRecDepth 100000 in
set_option maxHeartbeats 4000000 in
theorem k_X4_init_0 (l : Launch) (D : va_G) (y : Nat → ClassId) (aS : Nat → Nat) (sz : Nat) (h0 : Nat) (wp434 : Int32) (wp435 : Int32) (wp436 : Int32) (wp437 : Int32) (wp438 : Int64) : Met l yX4_init (Cond.code yX4_init cX4_init 1 none :: wsL_law) ({ frames := 2, cells := 8, slots := 108, locals := 33 } : Room) (va_Pc [.ref h0] (gI D y aS [(h0, .inr (4, [.int wp434, .int wp435, .int wp436, .int wp437, .null, .null, .null, .null, .long wp438]))] sz)) (va_Qv (fun (u : Nat × Nat × Nat × Nat × Nat × Nat × Nat × Nat) => True) (fun u => gO D (va_A [(h0, .inr (4, [.int wp434, .int wp435, .int wp436, .int wp437, .null, .null, .null, .null, .long wp438]))] sz) [(h0, .inr (4, [.int 1, .int 1, .int wp436, .int wp437, .ref u.1, .ref u.2.1, .ref u.2.2.1, .ref u.2.2.2.1, .long wp438])), (u.1, .inr (8, [.ref u.2.2.2.2.1, .int 0])), (u.2.1, .inr (8, [.ref u.2.2.2.2.2.1, .int 0])), (u.2.2.1, .inr (8, [.ref u.2.2.2.2.2.2.1, .int 0])), (u.2.2.2.1, .inr (8, [.ref u.2.2.2.2.2.2.2, .int 0]))]) (va_A [(h0, .inr (4, [.int wp434, .int wp435, .int wp436, .int wp437, .null, .null, .null, .null, .long wp438]))] sz)) 8 108 (va_A [(h0, .inr (4, [.int wp434, .int wp435, .int wp436, .int wp437, .null, .null, .null, .null, .long wp438]))] sz) := by
  refine g_of (by decide) (Nat.le_of_ble_eq_true rfl) ?_
  intro p e s m below meth c ls A hx hb hr hml hown hg hlocks hin hsz hK hP hD hS hA hAe hl
  rw [← hAe]
  replace hown : s.vm.findClass RX4 = some m.cls := hown
  replace hin : meth.name = "<init>" := hin
  replace hl : lv_has ls 1 [(0, .ref h0)] := hl
  refine lv_aload_n hx hb dX4_init_0 rfl (lv_at hl 0 rfl) ?_
  refine W.objInit hx hb hown (hg _ gw_108) (hg _ gw_11) (hg _ gw_12) rfl (by rw [hml]; exact hl.1) rfl dX4_init_1 (Nat.le_of_ble_eq_true rfl) (Nat.le_of_ble_eq_true rfl) ?_
  refine W.eq (g2 := F0 m 4 ls []) rfl ?_
  refine lv_aload_n hx hb dX4_init_4 rfl (lv_at hl 0 rfl) ?_
  refine lv_iconst (v := 1) hx hb dX4_init_5 (by decide) ?_
  refine gm_put (D := D) (ci := 4) (v := .int 1) (ty := .int) (C := RX4) (T := TX4) (N := 9) hx hb hg inlX4 tyX4 tyX4_ok nmX4 hown hK.1 hP hD hS 0 rfl rfl 0 (by decide) tX4_0 (hg _ gw_109) (by decide +kernel) rfl rfl (Nat.le_of_ble_eq_true rfl) dX4_init_6 ?_
  clear hP hD hS
  refine fun H locs (hP : va_P D vwCl [(h0, .inr (4, [.int 1, .int wp435, .int wp436, .int wp437, .null, .null, .null, .null, .long wp438]))] H) (hD : va_D A [(h0, .inr (4, [.int 1, .int wp435, .int wp436, .int wp437, .null, .null, .null, .null, .long wp438]))]) hS => ?_
  refine lv_aload_n hx hb dX4_init_9 rfl (lv_at hl 0 rfl) ?_
  refine lv_iconst (v := 1) hx hb dX4_init_10 (by decide) ?_
  refine gm_put (D := D) (ci := 4) (v := .int 1) (ty := .int) (C := RX4) (T := TX4) (N := 9) hx hb hg inlX4 tyX4 tyX4_ok nmX4 hown hK.1 hP hD hS 0 rfl rfl 1 (by decide) tX4_1 (hg _ gw_110) (by decide +kernel) rfl rfl (Nat.le_of_ble_eq_true rfl) dX4_init_11 ?_
  clear hP hD hS H locs
  refine fun H locs (hP : va_P D vwCl [(h0, .inr (4, [.int 1, .int 1, .int wp436, .int wp437, .null, .null, .null, .null, .long wp438]))] H) (hD : va_D A [(h0, .inr (4, [.int 1, .int 1, .int wp436, .int wp437, .null, .null, .null, .null, .long wp438]))]) hS => ?_
  refine lv_aload_n hx hb dX4_init_14 rfl (lv_at hl 0 rfl) ?_
  refine va_new (ci := 8) (fs := [.null, .int 0]) (C := RX8) (T := TX8) (N := 2) hx hb hg inlX8 tyX8 tyX8_ok hown (hg _ gw_111) (hg _ gw_47) (hg _ gw_48) hK.1 hP hD hS hA rfl dfX8 (Nat.le_of_ble_eq_true rfl) (Nat.le_of_ble_eq_true rfl) dX4_init_15 ?_
  clear hP hD hS H
  refine fun q439 H (hP : va_P D vwCl [(h0, .inr (4, [.int 1, .int 1, .int wp436, .int wp437, .null, .null, .null, .null, .long wp438])), (q439, .inr (8, [.null, .int 0]))] H) (hD : va_D A [(h0, .inr (4, [.int 1, .int 1, .int wp436, .int wp437, .null, .null, .null, .null, .long wp438])), (q439, .inr (8, [.null, .int 0]))]) hS => ?_
  refine lv_dup hx hb dX4_init_18 rfl ?_
  refine lv_bipush (v := 60) hx hb dX4_init_19 (by decide +kernel) ?_
  refine g_av (wr := [(h0, .inr (4, [.int 1, .int 1, .int wp436, .int wp437, .null, .null, .null, .null, .long wp438]))]) (va_runI (As := [.int 60]) (rest := [.ref q439, .ref h0]) ⟨hx, hb, hml, hown, hg⟩ (k_X8_init_1 l D y aS H.size q439 0) (cwI 1 hg ggI_RX4_20_X8_init rfl rfl rfl (hg _ gw_48) (hg _ gw_116) (hg _ gw_95) rfl (by decide +kernel) ⟨Nat.le_of_ble_eq_true rfl, Nat.le_of_ble_eq_true rfl⟩) (g_preS hK hP hD [1] rfl (by decide)) rfl rfl hl.1 rfl (lv_room (Nat.le_of_ble_eq_true rfl)) dX4_init_21 ⟨Nat.le_of_ble_eq_true rfl, Nat.le_of_ble_eq_true rfl⟩) hP hD hS hA [1] [0] rfl rfl (by decide) (by decide) ?_
  clear hP hD hS H locs
  refine fun u H locs hq hP hD hS => ?_
  obtain ⟨ca0441, rfl⟩ : ∃ z9, z9 = u := ⟨_, rfl⟩
  replace hP : va_P D vwCl [(h0, .inr (4, [.int 1, .int 1, .int wp436, .int wp437, .null, .null, .null, .null, .long wp438])), (q439, .inr (8, [.ref ca0441, .int 0])), (ca0441, .inl (y 1, 60, .inr (.inl (fun _ => 0))))] H := hP
  replace hD : va_D A [(h0, .inr (4, [.int 1, .int 1, .int wp436, .int wp437, .null, .null, .null, .null, .long wp438])), (q439, .inr (8, [.ref ca0441, .int 0])), (ca0441, .inl (y 1, 60, .inr (.inl (fun _ => 0))))] := hD
  refine gm_putF (D := D) (ci := 4) (v := .ref q439) (ty := .object "Greentrunk$Row") (C := RX4) (T := TX4) (N := 9) hx hb hg inlX4 tyX4 tyX4_ok nmX4 hown hK.1 hP hD hS 0 rfl rfl 4 (by decide) tX4_4 (hg _ gw_112) hin rfl (by decide +kernel) rfl rfl (Nat.le_of_ble_eq_true rfl) dX4_init_24 ?_
  clear hP hD hS H locs
  refine fun H locs (hP : va_P D vwCl [(h0, .inr (4, [.int 1, .int 1, .int wp436, .int wp437, .ref q439, .null, .null, .null, .long wp438])), (q439, .inr (8, [.ref ca0441, .int 0])), (ca0441, .inl (y 1, 60, .inr (.inl (fun _ => 0))))] H) (hD : va_D A [(h0, .inr (4, [.int 1, .int 1, .int wp436, .int wp437, .ref q439, .null, .null, .null, .long wp438])), (q439, .inr (8, [.ref ca0441, .int 0])), (ca0441, .inl (y 1, 60, .inr (.inl (fun _ => 0))))]) hS => ?_
  refine lv_aload_n hx hb dX4_init_27 rfl (lv_at hl 0 rfl) ?_
  refine va_new (ci := 8) (fs := [.null, .int 0]) (C := RX8) (T := TX8) (N := 2) hx hb hg inlX8 tyX8 tyX8_ok hown (hg _ gw_111) (hg _ gw_47) (hg _ gw_48) hK.1 hP hD hS hA rfl dfX8 (Nat.le_of_ble_eq_true rfl) (Nat.le_of_ble_eq_true rfl) dX4_init_28 ?_
  clear hP hD hS H
  refine fun q442 H (hP : va_P D vwCl [(h0, .inr (4, [.int 1, .int 1, .int wp436, .int wp437, .ref q439, .null, .null, .null, .long wp438])), (q439, .inr (8, [.ref ca0441, .int 0])), (ca0441, .inl (y 1, 60, .inr (.inl (fun _ => 0)))), (q442, .inr (8, [.null, .int 0]))] H) (hD : va_D A [(h0, .inr (4, [.int 1, .int 1, .int wp436, .int wp437, .ref q439, .null, .null, .null, .long wp438])), (q439, .inr (8, [.ref ca0441, .int 0])), (ca0441, .inl (y 1, 60, .inr (.inl (fun _ => 0)))), (q442, .inr (8, [.null, .int 0]))]) hS => ?_
  refine lv_dup hx hb dX4_init_31 rfl ?_
  refine lv_bipush (v := 32) hx hb dX4_init_32 (by decide +kernel) ?_
  refine g_av (wr := [(h0, .inr (4, [.int 1, .int 1, .int wp436, .int wp437, .ref q439, .null, .null, .null, .long wp438])), (q439, .inr (8, [.ref ca0441, .int 0])), (ca0441, .inl (y 1, 60, .inr (.inl (fun _ => 0))))]) (va_runI (As := [.int 32]) (rest := [.ref q442, .ref h0]) ⟨hx, hb, hml, hown, hg⟩ (k_X8_init_2 l D y aS H.size q442 0) (cwI 1 hg ggI_RX4_20_X8_init rfl rfl rfl (hg _ gw_48) (hg _ gw_116) (hg _ gw_95) rfl (by decide +kernel) ⟨Nat.le_of_ble_eq_true rfl, Nat.le_of_ble_eq_true rfl⟩) (g_preS hK hP hD [3] rfl (by decide)) rfl rfl hl.1 rfl (lv_room (Nat.le_of_ble_eq_true rfl)) dX4_init_34 ⟨Nat.le_of_ble_eq_true rfl, Nat.le_of_ble_eq_true rfl⟩) hP hD hS hA [3] [0, 1, 2] rfl rfl (by decide) (by decide) ?_
  clear hP hD hS H locs
  refine fun u H locs hq hP hD hS => ?_
  obtain ⟨ca0444, rfl⟩ : ∃ z9, z9 = u := ⟨_, rfl⟩
  replace hP : va_P D vwCl [(h0, .inr (4, [.int 1, .int 1, .int wp436, .int wp437, .ref q439, .null, .null, .null, .long wp438])), (q439, .inr (8, [.ref ca0441, .int 0])), (ca0441, .inl (y 1, 60, .inr (.inl (fun _ => 0)))), (q442, .inr (8, [.ref ca0444, .int 0])), (ca0444, .inl (y 1, 32, .inr (.inl (fun _ => 0))))] H := hP
  replace hD : va_D A [(h0, .inr (4, [.int 1, .int 1, .int wp436, .int wp437, .ref q439, .null, .null, .null, .long wp438])), (q439, .inr (8, [.ref ca0441, .int 0])), (ca0441, .inl (y 1, 60, .inr (.inl (fun _ => 0)))), (q442, .inr (8, [.ref ca0444, .int 0])), (ca0444, .inl (y 1, 32, .inr (.inl (fun _ => 0))))] := hD
  refine gm_putF (D := D) (ci := 4) (v := .ref q442) (ty := .object "Greentrunk$Row") (C := RX4) (T := TX4) (N := 9) hx hb hg inlX4 tyX4 tyX4_ok nmX4 hown hK.1 hP hD hS 0 rfl rfl 5 (by decide) tX4_5 (hg _ gw_113) hin rfl (by decide +kernel) rfl rfl (Nat.le_of_ble_eq_true rfl) dX4_init_37 ?_
  clear hP hD hS H locs
  refine fun H locs (hP : va_P D vwCl [(h0, .inr (4, [.int 1, .int 1, .int wp436, .int wp437, .ref q439, .ref q442, .null, .null, .long wp438])), (q439, .inr (8, [.ref ca0441, .int 0])), (ca0441, .inl (y 1, 60, .inr (.inl (fun _ => 0)))), (q442, .inr (8, [.ref ca0444, .int 0])), (ca0444, .inl (y 1, 32, .inr (.inl (fun _ => 0))))] H) (hD : va_D A [(h0, .inr (4, [.int 1, .int 1, .int wp436, .int wp437, .ref q439, .ref q442, .null, .null, .long wp438])), (q439, .inr (8, [.ref ca0441, .int 0])), (ca0441, .inl (y 1, 60, .inr (.inl (fun _ => 0)))), (q442, .inr (8, [.ref ca0444, .int 0])), (ca0444, .inl (y 1, 32, .inr (.inl (fun _ => 0))))]) hS => ?_
  refine lv_aload_n hx hb dX4_init_40 rfl (lv_at hl 0 rfl) ?_
  refine va_new (ci := 8) (fs := [.null, .int 0]) (C := RX8) (T := TX8) (N := 2) hx hb hg inlX8 tyX8 tyX8_ok hown (hg _ gw_111) (hg _ gw_47) (hg _ gw_48) hK.1 hP hD hS hA rfl dfX8 (Nat.le_of_ble_eq_true rfl) (Nat.le_of_ble_eq_true rfl) dX4_init_41 ?_
  clear hP hD hS H
  refine fun q445 H (hP : va_P D vwCl [(h0, .inr (4, [.int 1, .int 1, .int wp436, .int wp437, .ref q439, .ref q442, .null, .null, .long wp438])), (q439, .inr (8, [.ref ca0441, .int 0])), (ca0441, .inl (y 1, 60, .inr (.inl (fun _ => 0)))), (q442, .inr (8, [.ref ca0444, .int 0])), (ca0444, .inl (y 1, 32, .inr (.inl (fun _ => 0)))), (q445, .inr (8, [.null, .int 0]))] H) (hD : va_D A [(h0, .inr (4, [.int 1, .int 1, .int wp436, .int wp437, .ref q439, .ref q442, .null, .null, .long wp438])), (q439, .inr (8, [.ref ca0441, .int 0])), (ca0441, .inl (y 1, 60, .inr (.inl (fun _ => 0)))), (q442, .inr (8, [.ref ca0444, .int 0])), (ca0444, .inl (y 1, 32, .inr (.inl (fun _ => 0)))), (q445, .inr (8, [.null, .int 0]))]) hS => ?_
  refine lv_dup hx hb dX4_init_44 rfl ?_
  refine lv_iconst (v := 4) hx hb dX4_init_45 (by decide) ?_
  refine g_av (wr := [(h0, .inr (4, [.int 1, .int 1, .int wp436, .int wp437, .ref q439, .ref q442, .null, .null, .long wp438])), (q439, .inr (8, [.ref ca0441, .int 0])), (ca0441, .inl (y 1, 60, .inr (.inl (fun _ => 0)))), (q442, .inr (8, [.ref ca0444, .int 0])), (ca0444, .inl (y 1, 32, .inr (.inl (fun _ => 0))))]) (va_runI (As := [.int 4]) (rest := [.ref q445, .ref h0]) ⟨hx, hb, hml, hown, hg⟩ (k_X8_init_3 l D y aS H.size q445 0) (cwI 1 hg ggI_RX4_20_X8_init rfl rfl rfl (hg _ gw_48) (hg _ gw_116) (hg _ gw_95) rfl (by decide +kernel) ⟨Nat.le_of_ble_eq_true rfl, Nat.le_of_ble_eq_true rfl⟩) (g_preS hK hP hD [5] rfl (by decide)) rfl rfl hl.1 rfl (lv_room (Nat.le_of_ble_eq_true rfl)) dX4_init_46 ⟨Nat.le_of_ble_eq_true rfl, Nat.le_of_ble_eq_true rfl⟩) hP hD hS hA [5] [0, 1, 2, 3, 4] rfl rfl (by decide) (by decide) ?_
  clear hP hD hS H locs
  refine fun u H locs hq hP hD hS => ?_
  obtain ⟨ca0447, rfl⟩ : ∃ z9, z9 = u := ⟨_, rfl⟩
  replace hP : va_P D vwCl [(h0, .inr (4, [.int 1, .int 1, .int wp436, .int wp437, .ref q439, .ref q442, .null, .null, .long wp438])), (q439, .inr (8, [.ref ca0441, .int 0])), (ca0441, .inl (y 1, 60, .inr (.inl (fun _ => 0)))), (q442, .inr (8, [.ref ca0444, .int 0])), (ca0444, .inl (y 1, 32, .inr (.inl (fun _ => 0)))), (q445, .inr (8, [.ref ca0447, .int 0])), (ca0447, .inl (y 1, 4, .inr (.inl (fun _ => 0))))] H := hP
  replace hD : va_D A [(h0, .inr (4, [.int 1, .int 1, .int wp436, .int wp437, .ref q439, .ref q442, .null, .null, .long wp438])), (q439, .inr (8, [.ref ca0441, .int 0])), (ca0441, .inl (y 1, 60, .inr (.inl (fun _ => 0)))), (q442, .inr (8, [.ref ca0444, .int 0])), (ca0444, .inl (y 1, 32, .inr (.inl (fun _ => 0)))), (q445, .inr (8, [.ref ca0447, .int 0])), (ca0447, .inl (y 1, 4, .inr (.inl (fun _ => 0))))] := hD
  refine gm_putF (D := D) (ci := 4) (v := .ref q445) (ty := .object "Greentrunk$Row") (C := RX4) (T := TX4) (N := 9) hx hb hg inlX4 tyX4 tyX4_ok nmX4 hown hK.1 hP hD hS 0 rfl rfl 6 (by decide) tX4_6 (hg _ gw_114) hin rfl (by decide +kernel) rfl rfl (Nat.le_of_ble_eq_true rfl) dX4_init_49 ?_
  clear hP hD hS H locs
  refine fun H locs (hP : va_P D vwCl [(h0, .inr (4, [.int 1, .int 1, .int wp436, .int wp437, .ref q439, .ref q442, .ref q445, .null, .long wp438])), (q439, .inr (8, [.ref ca0441, .int 0])), (ca0441, .inl (y 1, 60, .inr (.inl (fun _ => 0)))), (q442, .inr (8, [.ref ca0444, .int 0])), (ca0444, .inl (y 1, 32, .inr (.inl (fun _ => 0)))), (q445, .inr (8, [.ref ca0447, .int 0])), (ca0447, .inl (y 1, 4, .inr (.inl (fun _ => 0))))] H) (hD : va_D A [(h0, .inr (4, [.int 1, .int 1, .int wp436, .int wp437, .ref q439, .ref q442, .ref q445, .null, .long wp438])), (q439, .inr (8, [.ref ca0441, .int 0])), (ca0441, .inl (y 1, 60, .inr (.inl (fun _ => 0)))), (q442, .inr (8, [.ref ca0444, .int 0])), (ca0444, .inl (y 1, 32, .inr (.inl (fun _ => 0)))), (q445, .inr (8, [.ref ca0447, .int 0])), (ca0447, .inl (y 1, 4, .inr (.inl (fun _ => 0))))]) hS => ?_
  refine lv_aload_n hx hb dX4_init_52 rfl (lv_at hl 0 rfl) ?_
  refine va_new (ci := 8) (fs := [.null, .int 0]) (C := RX8) (T := TX8) (N := 2) hx hb hg inlX8 tyX8 tyX8_ok hown (hg _ gw_111) (hg _ gw_47) (hg _ gw_48) hK.1 hP hD hS hA rfl dfX8 (Nat.le_of_ble_eq_true rfl) (Nat.le_of_ble_eq_true rfl) dX4_init_53 ?_
  clear hP hD hS H
  refine fun q448 H (hP : va_P D vwCl [(h0, .inr (4, [.int 1, .int 1, .int wp436, .int wp437, .ref q439, .ref q442, .ref q445, .null, .long wp438])), (q439, .inr (8, [.ref ca0441, .int 0])), (ca0441, .inl (y 1, 60, .inr (.inl (fun _ => 0)))), (q442, .inr (8, [.ref ca0444, .int 0])), (ca0444, .inl (y 1, 32, .inr (.inl (fun _ => 0)))), (q445, .inr (8, [.ref ca0447, .int 0])), (ca0447, .inl (y 1, 4, .inr (.inl (fun _ => 0)))), (q448, .inr (8, [.null, .int 0]))] H) (hD : va_D A [(h0, .inr (4, [.int 1, .int 1, .int wp436, .int wp437, .ref q439, .ref q442, .ref q445, .null, .long wp438])), (q439, .inr (8, [.ref ca0441, .int 0])), (ca0441, .inl (y 1, 60, .inr (.inl (fun _ => 0)))), (q442, .inr (8, [.ref ca0444, .int 0])), (ca0444, .inl (y 1, 32, .inr (.inl (fun _ => 0)))), (q445, .inr (8, [.ref ca0447, .int 0])), (ca0447, .inl (y 1, 4, .inr (.inl (fun _ => 0)))), (q448, .inr (8, [.null, .int 0]))]) hS => ?_
  refine lv_dup hx hb dX4_init_56 rfl ?_
  refine lv_iconst (v := 4) hx hb dX4_init_57 (by decide) ?_
  refine g_av (wr := [(h0, .inr (4, [.int 1, .int 1, .int wp436, .int wp437, .ref q439, .ref q442, .ref q445, .null, .long wp438])), (q439, .inr (8, [.ref ca0441, .int 0])), (ca0441, .inl (y 1, 60, .inr (.inl (fun _ => 0)))), (q442, .inr (8, [.ref ca0444, .int 0])), (ca0444, .inl (y 1, 32, .inr (.inl (fun _ => 0)))), (q445, .inr (8, [.ref ca0447, .int 0])), (ca0447, .inl (y 1, 4, .inr (.inl (fun _ => 0))))]) (va_runI (As := [.int 4]) (rest := [.ref q448, .ref h0]) ⟨hx, hb, hml, hown, hg⟩ (k_X8_init_3 l D y aS H.size q448 0) (cwI 1 hg ggI_RX4_20_X8_init rfl rfl rfl (hg _ gw_48) (hg _ gw_116) (hg _ gw_95) rfl (by decide +kernel) ⟨Nat.le_of_ble_eq_true rfl, Nat.le_of_ble_eq_true rfl⟩) (g_preS hK hP hD [7] rfl (by decide)) rfl rfl hl.1 rfl (lv_room (Nat.le_of_ble_eq_true rfl)) dX4_init_58 ⟨Nat.le_of_ble_eq_true rfl, Nat.le_of_ble_eq_true rfl⟩) hP hD hS hA [7] [0, 1, 2, 3, 4, 5, 6] rfl rfl (by decide) (by decide) ?_
  clear hP hD hS H locs
  refine fun u H locs hq hP hD hS => ?_
  obtain ⟨ca0450, rfl⟩ : ∃ z9, z9 = u := ⟨_, rfl⟩
  replace hP : va_P D vwCl [(h0, .inr (4, [.int 1, .int 1, .int wp436, .int wp437, .ref q439, .ref q442, .ref q445, .null, .long wp438])), (q439, .inr (8, [.ref ca0441, .int 0])), (ca0441, .inl (y 1, 60, .inr (.inl (fun _ => 0)))), (q442, .inr (8, [.ref ca0444, .int 0])), (ca0444, .inl (y 1, 32, .inr (.inl (fun _ => 0)))), (q445, .inr (8, [.ref ca0447, .int 0])), (ca0447, .inl (y 1, 4, .inr (.inl (fun _ => 0)))), (q448, .inr (8, [.ref ca0450, .int 0])), (ca0450, .inl (y 1, 4, .inr (.inl (fun _ => 0))))] H := hP
  replace hD : va_D A [(h0, .inr (4, [.int 1, .int 1, .int wp436, .int wp437, .ref q439, .ref q442, .ref q445, .null, .long wp438])), (q439, .inr (8, [.ref ca0441, .int 0])), (ca0441, .inl (y 1, 60, .inr (.inl (fun _ => 0)))), (q442, .inr (8, [.ref ca0444, .int 0])), (ca0444, .inl (y 1, 32, .inr (.inl (fun _ => 0)))), (q445, .inr (8, [.ref ca0447, .int 0])), (ca0447, .inl (y 1, 4, .inr (.inl (fun _ => 0)))), (q448, .inr (8, [.ref ca0450, .int 0])), (ca0450, .inl (y 1, 4, .inr (.inl (fun _ => 0))))] := hD
  refine gm_putF (D := D) (ci := 4) (v := .ref q448) (ty := .object "Greentrunk$Row") (C := RX4) (T := TX4) (N := 9) hx hb hg inlX4 tyX4 tyX4_ok nmX4 hown hK.1 hP hD hS 0 rfl rfl 7 (by decide) tX4_7 (hg _ gw_115) hin rfl (by decide +kernel) rfl rfl (Nat.le_of_ble_eq_true rfl) dX4_init_61 ?_
  clear hP hD hS H locs
  refine fun H locs (hP : va_P D vwCl [(h0, .inr (4, [.int 1, .int 1, .int wp436, .int wp437, .ref q439, .ref q442, .ref q445, .ref q448, .long wp438])), (q439, .inr (8, [.ref ca0441, .int 0])), (ca0441, .inl (y 1, 60, .inr (.inl (fun _ => 0)))), (q442, .inr (8, [.ref ca0444, .int 0])), (ca0444, .inl (y 1, 32, .inr (.inl (fun _ => 0)))), (q445, .inr (8, [.ref ca0447, .int 0])), (ca0447, .inl (y 1, 4, .inr (.inl (fun _ => 0)))), (q448, .inr (8, [.ref ca0450, .int 0])), (ca0450, .inl (y 1, 4, .inr (.inl (fun _ => 0))))] H) (hD : va_D A [(h0, .inr (4, [.int 1, .int 1, .int wp436, .int wp437, .ref q439, .ref q442, .ref q445, .ref q448, .long wp438])), (q439, .inr (8, [.ref ca0441, .int 0])), (ca0441, .inl (y 1, 60, .inr (.inl (fun _ => 0)))), (q442, .inr (8, [.ref ca0444, .int 0])), (ca0444, .inl (y 1, 32, .inr (.inl (fun _ => 0)))), (q445, .inr (8, [.ref ca0447, .int 0])), (ca0447, .inl (y 1, 4, .inr (.inl (fun _ => 0)))), (q448, .inr (8, [.ref ca0450, .int 0])), (ca0450, .inl (y 1, 4, .inr (.inl (fun _ => 0))))]) hS => ?_
  replace hP := hP.sub (ws' := [(h0, .inr (4, [.int 1, .int 1, .int wp436, .int wp437, .ref q439, .ref q442, .ref q445, .ref q448, .long wp438])), (q439, .inr (8, [.ref ca0441, .int 0])), (q442, .inr (8, [.ref ca0444, .int 0])), (q445, .inr (8, [.ref ca0447, .int 0])), (q448, .inr (8, [.ref ca0450, .int 0]))]) [0, 1, 3, 5, 7] rfl
  replace hD := hD.sub (ws' := [(h0, .inr (4, [.int 1, .int 1, .int wp436, .int wp437, .ref q439, .ref q442, .ref q445, .ref q448, .long wp438])), (q439, .inr (8, [.ref ca0441, .int 0])), (q442, .inr (8, [.ref ca0444, .int 0])), (q445, .inr (8, [.ref ca0447, .int 0])), (q448, .inr (8, [.ref ca0450, .int 0]))]) [0, 1, 3, 5, 7] (by decide +kernel) rfl
  exact g_vret hx hb hr hlocks ⟨q439, q442, q445, q448, ca0441, ca0444, ca0447, ca0450⟩ hP hD hS trivial (Nat.le_of_ble_eq_true rfl) (Nat.le_of_ble_eq_true rfl) dX4_init_64
set_option maxRecDepth 100000 in
set_option maxHeartbeats 4000000 in
theorem k_X8_init_4 (l : Launch) (D : va_G) (y : Nat → ClassId) (aS : Nat → Nat) (sz : Nat) (h0 : Nat) (wp453 : Int32) : Met l yX8_init (Cond.code yX8_init cX8_init 2 none :: wsL_law) ({ frames := 1, cells := 1, slots := 200, locals := 12 } : Room) (va_Pc [.ref h0, .int 200] (gI D y aS [(h0, .inr (8, [.null, .int wp453]))] sz)) (va_Qv (fun (u : Nat) => True) (fun u => gO D (va_A [(h0, .inr (8, [.null, .int wp453]))] sz) [(h0, .inr (8, [.ref u, .int wp453])), (u, .inl (y 1, 200, .inr (.inl (fun _ => 0))))]) (va_A [(h0, .inr (8, [.null, .int wp453]))] sz)) 1 200 (va_A [(h0, .inr (8, [.null, .int wp453]))] sz) := by
  refine g_of (by decide) (Nat.le_of_ble_eq_true rfl) ?_
  intro p e s m below meth c ls A hx hb hr hml hown hg hlocks hin hsz hK hP hD hS hA hAe hl
  rw [← hAe]
  replace hown : s.vm.findClass RX8 = some m.cls := hown
  replace hin : meth.name = "<init>" := hin
  replace hl : lv_has ls 2 [(0, .ref h0), (1, .int 200)] := hl
  refine lv_aload_n hx hb dX8_init_0 rfl (lv_at hl 0 rfl) ?_
  refine W.objInit hx hb hown (hg _ gw_97) (hg _ gw_11) (hg _ gw_12) rfl (by rw [hml]; exact hl.1) rfl dX8_init_1 (Nat.le_of_ble_eq_true rfl) (Nat.le_of_ble_eq_true rfl) ?_
  refine W.eq (g2 := F0 m 4 ls []) rfl ?_
  refine lv_aload_n hx hb dX8_init_4 rfl (lv_at hl 0 rfl) ?_
  refine lv_iload_n hx hb dX8_init_5 rfl (lv_at hl 1 rfl) ?_
  refine lv_if_ge (tgt := 13) hx hb dX8_init_6 (by decide) (fun _ => ?_) (fun c9 => absurd c9 (by decide +kernel))
  refine lv_iload_n hx hb dX8_init_13 rfl (lv_at hl 1 rfl) ?_
  refine g_newa (atype := .long) (ty := .long) (N' := 200) (a0 := (200, .inr (.inl (fun _ => 0)))) hx hb 1 rfl (fun _ h => by cases h) (hg _ gw_6) rfl hK hP hD hS hA (fun _ => rfl) (by decide +kernel) (by decide +kernel) (by decide) (Nat.le_of_ble_eq_true rfl) (Nat.le_of_ble_eq_true rfl) dX8_init_14 ?_
  clear hP hD hS
  refine fun q454 H (hP : va_P D vwCl [(h0, .inr (8, [.null, .int wp453])), (q454, .inl (y 1, 200, .inr (.inl (fun _ => 0))))] H) (hD : va_D A [(h0, .inr (8, [.null, .int wp453])), (q454, .inl (y 1, 200, .inr (.inl (fun _ => 0))))]) hS => ?_
  refine gm_putF (D := D) (ci := 8) (v := .ref q454) (ty := .array .long) (C := RX8) (T := TX8) (N := 2) hx hb hg inlX8 tyX8 tyX8_ok nmX8 hown hK.1 hP hD hS 0 rfl rfl 0 (by decide) tX8_0 (hg _ gw_98) hin rfl (by decide +kernel) rfl rfl (Nat.le_of_ble_eq_true rfl) dX8_init_16 ?_
  clear hP hD hS H
  refine fun H locs (hP : va_P D vwCl [(h0, .inr (8, [.ref q454, .int wp453])), (q454, .inl (y 1, 200, .inr (.inl (fun _ => 0))))] H) (hD : va_D A [(h0, .inr (8, [.ref q454, .int wp453])), (q454, .inl (y 1, 200, .inr (.inl (fun _ => 0))))]) hS => ?_
  exact g_vret hx hb hr hlocks q454 hP hD hS trivial (Nat.le_of_ble_eq_true rfl) (Nat.le_of_ble_eq_true rfl) dX8_init_19
theorem ggI_RX5_11_X8_init : GoodIn wsL_law ([] ++ (Cond.code yX8_init cX8_init 2 none :: wsL_law)) := g_gi (fun _ h => h) gW_good (fun _ h => nomatch h) ⟨gw_96, rfl⟩
set_option maxRecDepth 100000 in
set_option maxHeartbeats 4000000 in
theorem k_X8_init_5 (l : Launch) (D : va_G) (y : Nat → ClassId) (aS : Nat → Nat) (sz : Nat) (h0 : Nat) (wp462 : Int32) : Met l yX8_init (Cond.code yX8_init cX8_init 2 none :: wsL_law) ({ frames := 1, cells := 1, slots := 18, locals := 12 } : Room) (va_Pc [.ref h0, .int 18] (gI D y aS [(h0, .inr (8, [.null, .int wp462]))] sz)) (va_Qv (fun (u : Nat) => True) (fun u => gO D (va_A [(h0, .inr (8, [.null, .int wp462]))] sz) [(h0, .inr (8, [.ref u, .int wp462])), (u, .inl (y 1, 18, .inr (.inl (fun _ => 0))))]) (va_A [(h0, .inr (8, [.null, .int wp462]))] sz)) 1 18 (va_A [(h0, .inr (8, [.null, .int wp462]))] sz) := by
  refine g_of (by decide) (Nat.le_of_ble_eq_true rfl) ?_
  intro p e s m below meth c ls A hx hb hr hml hown hg hlocks hin hsz hK hP hD hS hA hAe hl
  rw [← hAe]
  replace hown : s.vm.findClass RX8 = some m.cls := hown
  replace hin : meth.name = "<init>" := hin
  replace hl : lv_has ls 2 [(0, .ref h0), (1, .int 18)] := hl
  refine lv_aload_n hx hb dX8_init_0 rfl (lv_at hl 0 rfl) ?_
  refine W.objInit hx hb hown (hg _ gw_97) (hg _ gw_11) (hg _ gw_12) rfl (by rw [hml]; exact hl.1) rfl dX8_init_1 (Nat.le_of_ble_eq_true rfl) (Nat.le_of_ble_eq_true rfl) ?_
  refine W.eq (g2 := F0 m 4 ls []) rfl ?_
  refine lv_aload_n hx hb dX8_init_4 rfl (lv_at hl 0 rfl) ?_
  refine lv_iload_n hx hb dX8_init_5 rfl (lv_at hl 1 rfl) ?_
  refine lv_if_ge (tgt := 13) hx hb dX8_init_6 (by decide) (fun _ => ?_) (fun c9 => absurd c9 (by decide +kernel))
  refine lv_iload_n hx hb dX8_init_13 rfl (lv_at hl 1 rfl) ?_
  refine g_newa (atype := .long) (ty := .long) (N' := 18) (a0 := (18, .inr (.inl (fun _ => 0)))) hx hb 1 rfl (fun _ h => by cases h) (hg _ gw_6) rfl hK hP hD hS hA (fun _ => rfl) (by decide +kernel) (by decide +kernel) (by decide) (Nat.le_of_ble_eq_true rfl) (Nat.le_of_ble_eq_true rfl) dX8_init_14 ?_
  clear hP hD hS
  refine fun q463 H (hP : va_P D vwCl [(h0, .inr (8, [.null, .int wp462])), (q463, .inl (y 1, 18, .inr (.inl (fun _ => 0))))] H) (hD : va_D A [(h0, .inr (8, [.null, .int wp462])), (q463, .inl (y 1, 18, .inr (.inl (fun _ => 0))))]) hS => ?_
  refine gm_putF (D := D) (ci := 8) (v := .ref q463) (ty := .array .long) (C := RX8) (T := TX8) (N := 2) hx hb hg inlX8 tyX8 tyX8_ok nmX8 hown hK.1 hP hD hS 0 rfl rfl 0 (by decide) tX8_0 (hg _ gw_98) hin rfl (by decide +kernel) rfl rfl (Nat.le_of_ble_eq_true rfl) dX8_init_16 ?_
  clear hP hD hS H
  refine fun H locs (hP : va_P D vwCl [(h0, .inr (8, [.ref q463, .int wp462])), (q463, .inl (y 1, 18, .inr (.inl (fun _ => 0))))] H) (hD : va_D A [(h0, .inr (8, [.ref q463, .int wp462])), (q463, .inl (y 1, 18, .inr (.inl (fun _ => 0))))]) hS => ?_
  exact g_vret hx hb hr hlocks q463 hP hD hS trivial (Nat.le_of_ble_eq_true rfl) (Nat.le_of_ble_eq_true rfl) dX8_init_19
set_option maxRecDepth 100000 in
set_option maxHeartbeats 4000000 in
theorem k_X8_init_6 (l : Launch) (D : va_G) (y : Nat → ClassId) (aS : Nat → Nat) (sz : Nat) (h0 : Nat) (wp468 : Int32) : Met l yX8_init (Cond.code yX8_init cX8_init 2 none :: wsL_law) ({ frames := 1, cells := 1, slots := 3, locals := 12 } : Room) (va_Pc [.ref h0, .int 3] (gI D y aS [(h0, .inr (8, [.null, .int wp468]))] sz)) (va_Qv (fun (u : Nat) => True) (fun u => gO D (va_A [(h0, .inr (8, [.null, .int wp468]))] sz) [(h0, .inr (8, [.ref u, .int wp468])), (u, .inl (y 1, 3, .inr (.inl (fun _ => 0))))]) (va_A [(h0, .inr (8, [.null, .int wp468]))] sz)) 1 3 (va_A [(h0, .inr (8, [.null, .int wp468]))] sz) := by
  refine g_of (by decide) (Nat.le_of_ble_eq_true rfl) ?_
  intro p e s m below meth c ls A hx hb hr hml hown hg hlocks hin hsz hK hP hD hS hA hAe hl
  rw [← hAe]
  replace hown : s.vm.findClass RX8 = some m.cls := hown
  replace hin : meth.name = "<init>" := hin
  replace hl : lv_has ls 2 [(0, .ref h0), (1, .int 3)] := hl
  refine lv_aload_n hx hb dX8_init_0 rfl (lv_at hl 0 rfl) ?_
  refine W.objInit hx hb hown (hg _ gw_97) (hg _ gw_11) (hg _ gw_12) rfl (by rw [hml]; exact hl.1) rfl dX8_init_1 (Nat.le_of_ble_eq_true rfl) (Nat.le_of_ble_eq_true rfl) ?_
  refine W.eq (g2 := F0 m 4 ls []) rfl ?_
  refine lv_aload_n hx hb dX8_init_4 rfl (lv_at hl 0 rfl) ?_
  refine lv_iload_n hx hb dX8_init_5 rfl (lv_at hl 1 rfl) ?_
  refine lv_if_ge (tgt := 13) hx hb dX8_init_6 (by decide) (fun _ => ?_) (fun c9 => absurd c9 (by decide +kernel))
  refine lv_iload_n hx hb dX8_init_13 rfl (lv_at hl 1 rfl) ?_
  refine g_newa (atype := .long) (ty := .long) (N' := 3) (a0 := (3, .inr (.inl (fun _ => 0)))) hx hb 1 rfl (fun _ h => by cases h) (hg _ gw_6) rfl hK hP hD hS hA (fun _ => rfl) (by decide +kernel) (by decide +kernel) (by decide) (Nat.le_of_ble_eq_true rfl) (Nat.le_of_ble_eq_true rfl) dX8_init_14 ?_
  clear hP hD hS
  refine fun q469 H (hP : va_P D vwCl [(h0, .inr (8, [.null, .int wp468])), (q469, .inl (y 1, 3, .inr (.inl (fun _ => 0))))] H) (hD : va_D A [(h0, .inr (8, [.null, .int wp468])), (q469, .inl (y 1, 3, .inr (.inl (fun _ => 0))))]) hS => ?_
  refine gm_putF (D := D) (ci := 8) (v := .ref q469) (ty := .array .long) (C := RX8) (T := TX8) (N := 2) hx hb hg inlX8 tyX8 tyX8_ok nmX8 hown hK.1 hP hD hS 0 rfl rfl 0 (by decide) tX8_0 (hg _ gw_98) hin rfl (by decide +kernel) rfl rfl (Nat.le_of_ble_eq_true rfl) dX8_init_16 ?_
  clear hP hD hS H
  refine fun H locs (hP : va_P D vwCl [(h0, .inr (8, [.ref q469, .int wp468])), (q469, .inl (y 1, 3, .inr (.inl (fun _ => 0))))] H) (hD : va_D A [(h0, .inr (8, [.ref q469, .int wp468])), (q469, .inl (y 1, 3, .inr (.inl (fun _ => 0))))]) hS => ?_
  exact g_vret hx hb hr hlocks q469 hP hD hS trivial (Nat.le_of_ble_eq_true rfl) (Nat.le_of_ble_eq_true rfl) dX8_init_19
set_option maxRecDepth 100000 in
set_option maxHeartbeats 4000000 in
theorem k_X5_init_0 (l : Launch) (D : va_G) (y : Nat → ClassId) (aS : Nat → Nat) (sz : Nat) (h0 : Nat) (wp472 : Int32) : Met l yX5_init (Cond.code yX5_init cX5_init 1 none :: wsL_law) ({ frames := 2, cells := 8, slots := 429, locals := 33 } : Room) (va_Pc [.ref h0] (gI D y aS [(h0, .inr (5, [.null, .null, .null, .null, .int wp472]))] sz)) (va_Qv (fun (u : Nat × Nat × Nat × Nat × Nat × Nat × Nat × Nat) => True) (fun u => gO D (va_A [(h0, .inr (5, [.null, .null, .null, .null, .int wp472]))] sz) [(h0, .inr (5, [.ref u.1, .ref u.2.1, .ref u.2.2.1, .ref u.2.2.2.1, .int wp472])), (u.1, .inr (8, [.ref u.2.2.2.2.1, .int 0])), (u.2.2.2.2.1, .inl (y 1, 200, .inr (.inl (fun _ => 0)))), (u.2.1, .inr (8, [.ref u.2.2.2.2.2.1, .int 0])), (u.2.2.2.2.2.1, .inl (y 1, 200, .inr (.inl (fun _ => 0)))), (u.2.2.1, .inr (8, [.ref u.2.2.2.2.2.2.1, .int 0])), (u.2.2.2.2.2.2.1, .inl (y 1, 18, .inr (.inl (fun _ => 0)))), (u.2.2.2.1, .inr (8, [.ref u.2.2.2.2.2.2.2, .int 0])), (u.2.2.2.2.2.2.2, .inl (y 1, 3, .inr (.inl (fun _ => 0))))]) (va_A [(h0, .inr (5, [.null, .null, .null, .null, .int wp472]))] sz)) 8 429 (va_A [(h0, .inr (5, [.null, .null, .null, .null, .int wp472]))] sz) := by
  refine g_of (by decide) (Nat.le_of_ble_eq_true rfl) ?_
  intro p e s m below meth c ls A hx hb hr hml hown hg hlocks hin hsz hK hP hD hS hA hAe hl
  rw [← hAe]
  replace hown : s.vm.findClass RX5 = some m.cls := hown
  replace hin : meth.name = "<init>" := hin
  replace hl : lv_has ls 1 [(0, .ref h0)] := hl
  refine lv_aload_n hx hb dX5_init_0 rfl (lv_at hl 0 rfl) ?_
  refine W.objInit hx hb hown (hg _ gw_136) (hg _ gw_11) (hg _ gw_12) rfl (by rw [hml]; exact hl.1) rfl dX5_init_1 (Nat.le_of_ble_eq_true rfl) (Nat.le_of_ble_eq_true rfl) ?_
  refine W.eq (g2 := F0 m 4 ls []) rfl ?_
  refine lv_aload_n hx hb dX5_init_4 rfl (lv_at hl 0 rfl) ?_
  refine va_new (ci := 8) (fs := [.null, .int 0]) (C := RX8) (T := TX8) (N := 2) hx hb hg inlX8 tyX8 tyX8_ok hown (hg _ gw_137) (hg _ gw_47) (hg _ gw_48) hK.1 hP hD hS hA rfl dfX8 (Nat.le_of_ble_eq_true rfl) (Nat.le_of_ble_eq_true rfl) dX5_init_5 ?_
  clear hP hD hS
  refine fun q473 H (hP : va_P D vwCl [(h0, .inr (5, [.null, .null, .null, .null, .int wp472])), (q473, .inr (8, [.null, .int 0]))] H) (hD : va_D A [(h0, .inr (5, [.null, .null, .null, .null, .int wp472])), (q473, .inr (8, [.null, .int 0]))]) hS => ?_
  refine lv_dup hx hb dX5_init_8 rfl ?_
  refine lv_sipush (v := 200) hx hb dX5_init_9 (by decide +kernel) ?_
  refine g_av (wr := [(h0, .inr (5, [.null, .null, .null, .null, .int wp472]))]) (va_runI (As := [.int 200]) (rest := [.ref q473, .ref h0]) ⟨hx, hb, hml, hown, hg⟩ (k_X8_init_4 l D y aS H.size q473 0) (cwI 1 hg ggI_RX5_11_X8_init rfl rfl rfl (hg _ gw_48) (hg _ gw_142) (hg _ gw_95) rfl (by decide +kernel) ⟨Nat.le_of_ble_eq_true rfl, Nat.le_of_ble_eq_true rfl⟩) (g_preS hK hP hD [1] rfl (by decide)) rfl rfl hl.1 rfl (lv_room (Nat.le_of_ble_eq_true rfl)) dX5_init_12 ⟨Nat.le_of_ble_eq_true rfl, Nat.le_of_ble_eq_true rfl⟩) hP hD hS hA [1] [0] rfl rfl (by decide) (by decide) ?_
  clear hP hD hS H
  refine fun u H locs hq hP hD hS => ?_
  obtain ⟨ca0475, rfl⟩ : ∃ z9, z9 = u := ⟨_, rfl⟩
  replace hP : va_P D vwCl [(h0, .inr (5, [.null, .null, .null, .null, .int wp472])), (q473, .inr (8, [.ref ca0475, .int 0])), (ca0475, .inl (y 1, 200, .inr (.inl (fun _ => 0))))] H := hP
  replace hD : va_D A [(h0, .inr (5, [.null, .null, .null, .null, .int wp472])), (q473, .inr (8, [.ref ca0475, .int 0])), (ca0475, .inl (y 1, 200, .inr (.inl (fun _ => 0))))] := hD
  refine gm_putF (D := D) (ci := 5) (v := .ref q473) (ty := .object "Greentrunk$Row") (C := RX5) (T := TX5) (N := 5) hx hb hg inlX5 tyX5 tyX5_ok nmX5 hown hK.1 hP hD hS 0 rfl rfl 0 (by decide) tX5_0 (hg _ gw_138) hin rfl (by decide +kernel) rfl rfl (Nat.le_of_ble_eq_true rfl) dX5_init_15 ?_
  clear hP hD hS H locs
  refine fun H locs (hP : va_P D vwCl [(h0, .inr (5, [.ref q473, .null, .null, .null, .int wp472])), (q473, .inr (8, [.ref ca0475, .int 0])), (ca0475, .inl (y 1, 200, .inr (.inl (fun _ => 0))))] H) (hD : va_D A [(h0, .inr (5, [.ref q473, .null, .null, .null, .int wp472])), (q473, .inr (8, [.ref ca0475, .int 0])), (ca0475, .inl (y 1, 200, .inr (.inl (fun _ => 0))))]) hS => ?_
  refine lv_aload_n hx hb dX5_init_18 rfl (lv_at hl 0 rfl) ?_
  refine va_new (ci := 8) (fs := [.null, .int 0]) (C := RX8) (T := TX8) (N := 2) hx hb hg inlX8 tyX8 tyX8_ok hown (hg _ gw_137) (hg _ gw_47) (hg _ gw_48) hK.1 hP hD hS hA rfl dfX8 (Nat.le_of_ble_eq_true rfl) (Nat.le_of_ble_eq_true rfl) dX5_init_19 ?_
  clear hP hD hS H
  refine fun q476 H (hP : va_P D vwCl [(h0, .inr (5, [.ref q473, .null, .null, .null, .int wp472])), (q473, .inr (8, [.ref ca0475, .int 0])), (ca0475, .inl (y 1, 200, .inr (.inl (fun _ => 0)))), (q476, .inr (8, [.null, .int 0]))] H) (hD : va_D A [(h0, .inr (5, [.ref q473, .null, .null, .null, .int wp472])), (q473, .inr (8, [.ref ca0475, .int 0])), (ca0475, .inl (y 1, 200, .inr (.inl (fun _ => 0)))), (q476, .inr (8, [.null, .int 0]))]) hS => ?_
  refine lv_dup hx hb dX5_init_22 rfl ?_
  refine lv_sipush (v := 200) hx hb dX5_init_23 (by decide +kernel) ?_
  refine g_av (wr := [(h0, .inr (5, [.ref q473, .null, .null, .null, .int wp472])), (q473, .inr (8, [.ref ca0475, .int 0])), (ca0475, .inl (y 1, 200, .inr (.inl (fun _ => 0))))]) (va_runI (As := [.int 200]) (rest := [.ref q476, .ref h0]) ⟨hx, hb, hml, hown, hg⟩ (k_X8_init_4 l D y aS H.size q476 0) (cwI 1 hg ggI_RX5_11_X8_init rfl rfl rfl (hg _ gw_48) (hg _ gw_142) (hg _ gw_95) rfl (by decide +kernel) ⟨Nat.le_of_ble_eq_true rfl, Nat.le_of_ble_eq_true rfl⟩) (g_preS hK hP hD [3] rfl (by decide)) rfl rfl hl.1 rfl (lv_room (Nat.le_of_ble_eq_true rfl)) dX5_init_26 ⟨Nat.le_of_ble_eq_true rfl, Nat.le_of_ble_eq_true rfl⟩) hP hD hS hA [3] [0, 1, 2] rfl rfl (by decide) (by decide) ?_
  clear hP hD hS H locs
  refine fun u H locs hq hP hD hS => ?_
  obtain ⟨ca0478, rfl⟩ : ∃ z9, z9 = u := ⟨_, rfl⟩
  replace hP : va_P D vwCl [(h0, .inr (5, [.ref q473, .null, .null, .null, .int wp472])), (q473, .inr (8, [.ref ca0475, .int 0])), (ca0475, .inl (y 1, 200, .inr (.inl (fun _ => 0)))), (q476, .inr (8, [.ref ca0478, .int 0])), (ca0478, .inl (y 1, 200, .inr (.inl (fun _ => 0))))] H := hP
  replace hD : va_D A [(h0, .inr (5, [.ref q473, .null, .null, .null, .int wp472])), (q473, .inr (8, [.ref ca0475, .int 0])), (ca0475, .inl (y 1, 200, .inr (.inl (fun _ => 0)))), (q476, .inr (8, [.ref ca0478, .int 0])), (ca0478, .inl (y 1, 200, .inr (.inl (fun _ => 0))))] := hD
  refine gm_putF (D := D) (ci := 5) (v := .ref q476) (ty := .object "Greentrunk$Row") (C := RX5) (T := TX5) (N := 5) hx hb hg inlX5 tyX5 tyX5_ok nmX5 hown hK.1 hP hD hS 0 rfl rfl 1 (by decide) tX5_1 (hg _ gw_139) hin rfl (by decide +kernel) rfl rfl (Nat.le_of_ble_eq_true rfl) dX5_init_29 ?_
  clear hP hD hS H locs
  refine fun H locs (hP : va_P D vwCl [(h0, .inr (5, [.ref q473, .ref q476, .null, .null, .int wp472])), (q473, .inr (8, [.ref ca0475, .int 0])), (ca0475, .inl (y 1, 200, .inr (.inl (fun _ => 0)))), (q476, .inr (8, [.ref ca0478, .int 0])), (ca0478, .inl (y 1, 200, .inr (.inl (fun _ => 0))))] H) (hD : va_D A [(h0, .inr (5, [.ref q473, .ref q476, .null, .null, .int wp472])), (q473, .inr (8, [.ref ca0475, .int 0])), (ca0475, .inl (y 1, 200, .inr (.inl (fun _ => 0)))), (q476, .inr (8, [.ref ca0478, .int 0])), (ca0478, .inl (y 1, 200, .inr (.inl (fun _ => 0))))]) hS => ?_
  refine lv_aload_n hx hb dX5_init_32 rfl (lv_at hl 0 rfl) ?_
  refine va_new (ci := 8) (fs := [.null, .int 0]) (C := RX8) (T := TX8) (N := 2) hx hb hg inlX8 tyX8 tyX8_ok hown (hg _ gw_137) (hg _ gw_47) (hg _ gw_48) hK.1 hP hD hS hA rfl dfX8 (Nat.le_of_ble_eq_true rfl) (Nat.le_of_ble_eq_true rfl) dX5_init_33 ?_
  clear hP hD hS H
  refine fun q479 H (hP : va_P D vwCl [(h0, .inr (5, [.ref q473, .ref q476, .null, .null, .int wp472])), (q473, .inr (8, [.ref ca0475, .int 0])), (ca0475, .inl (y 1, 200, .inr (.inl (fun _ => 0)))), (q476, .inr (8, [.ref ca0478, .int 0])), (ca0478, .inl (y 1, 200, .inr (.inl (fun _ => 0)))), (q479, .inr (8, [.null, .int 0]))] H) (hD : va_D A [(h0, .inr (5, [.ref q473, .ref q476, .null, .null, .int wp472])), (q473, .inr (8, [.ref ca0475, .int 0])), (ca0475, .inl (y 1, 200, .inr (.inl (fun _ => 0)))), (q476, .inr (8, [.ref ca0478, .int 0])), (ca0478, .inl (y 1, 200, .inr (.inl (fun _ => 0)))), (q479, .inr (8, [.null, .int 0]))]) hS => ?_
  refine lv_dup hx hb dX5_init_36 rfl ?_
  refine lv_bipush (v := 18) hx hb dX5_init_37 (by decide +kernel) ?_
  refine g_av (wr := [(h0, .inr (5, [.ref q473, .ref q476, .null, .null, .int wp472])), (q473, .inr (8, [.ref ca0475, .int 0])), (ca0475, .inl (y 1, 200, .inr (.inl (fun _ => 0)))), (q476, .inr (8, [.ref ca0478, .int 0])), (ca0478, .inl (y 1, 200, .inr (.inl (fun _ => 0))))]) (va_runI (As := [.int 18]) (rest := [.ref q479, .ref h0]) ⟨hx, hb, hml, hown, hg⟩ (k_X8_init_5 l D y aS H.size q479 0) (cwI 1 hg ggI_RX5_11_X8_init rfl rfl rfl (hg _ gw_48) (hg _ gw_142) (hg _ gw_95) rfl (by decide +kernel) ⟨Nat.le_of_ble_eq_true rfl, Nat.le_of_ble_eq_true rfl⟩) (g_preS hK hP hD [5] rfl (by decide)) rfl rfl hl.1 rfl (lv_room (Nat.le_of_ble_eq_true rfl)) dX5_init_39 ⟨Nat.le_of_ble_eq_true rfl, Nat.le_of_ble_eq_true rfl⟩) hP hD hS hA [5] [0, 1, 2, 3, 4] rfl rfl (by decide) (by decide) ?_
  clear hP hD hS H locs
  refine fun u H locs hq hP hD hS => ?_
  obtain ⟨ca0481, rfl⟩ : ∃ z9, z9 = u := ⟨_, rfl⟩
  replace hP : va_P D vwCl [(h0, .inr (5, [.ref q473, .ref q476, .null, .null, .int wp472])), (q473, .inr (8, [.ref ca0475, .int 0])), (ca0475, .inl (y 1, 200, .inr (.inl (fun _ => 0)))), (q476, .inr (8, [.ref ca0478, .int 0])), (ca0478, .inl (y 1, 200, .inr (.inl (fun _ => 0)))), (q479, .inr (8, [.ref ca0481, .int 0])), (ca0481, .inl (y 1, 18, .inr (.inl (fun _ => 0))))] H := hP
  replace hD : va_D A [(h0, .inr (5, [.ref q473, .ref q476, .null, .null, .int wp472])), (q473, .inr (8, [.ref ca0475, .int 0])), (ca0475, .inl (y 1, 200, .inr (.inl (fun _ => 0)))), (q476, .inr (8, [.ref ca0478, .int 0])), (ca0478, .inl (y 1, 200, .inr (.inl (fun _ => 0)))), (q479, .inr (8, [.ref ca0481, .int 0])), (ca0481, .inl (y 1, 18, .inr (.inl (fun _ => 0))))] := hD
  refine gm_putF (D := D) (ci := 5) (v := .ref q479) (ty := .object "Greentrunk$Row") (C := RX5) (T := TX5) (N := 5) hx hb hg inlX5 tyX5 tyX5_ok nmX5 hown hK.1 hP hD hS 0 rfl rfl 2 (by decide) tX5_2 (hg _ gw_140) hin rfl (by decide +kernel) rfl rfl (Nat.le_of_ble_eq_true rfl) dX5_init_42 ?_
  clear hP hD hS H locs
  refine fun H locs (hP : va_P D vwCl [(h0, .inr (5, [.ref q473, .ref q476, .ref q479, .null, .int wp472])), (q473, .inr (8, [.ref ca0475, .int 0])), (ca0475, .inl (y 1, 200, .inr (.inl (fun _ => 0)))), (q476, .inr (8, [.ref ca0478, .int 0])), (ca0478, .inl (y 1, 200, .inr (.inl (fun _ => 0)))), (q479, .inr (8, [.ref ca0481, .int 0])), (ca0481, .inl (y 1, 18, .inr (.inl (fun _ => 0))))] H) (hD : va_D A [(h0, .inr (5, [.ref q473, .ref q476, .ref q479, .null, .int wp472])), (q473, .inr (8, [.ref ca0475, .int 0])), (ca0475, .inl (y 1, 200, .inr (.inl (fun _ => 0)))), (q476, .inr (8, [.ref ca0478, .int 0])), (ca0478, .inl (y 1, 200, .inr (.inl (fun _ => 0)))), (q479, .inr (8, [.ref ca0481, .int 0])), (ca0481, .inl (y 1, 18, .inr (.inl (fun _ => 0))))]) hS => ?_
  refine lv_aload_n hx hb dX5_init_45 rfl (lv_at hl 0 rfl) ?_
  refine va_new (ci := 8) (fs := [.null, .int 0]) (C := RX8) (T := TX8) (N := 2) hx hb hg inlX8 tyX8 tyX8_ok hown (hg _ gw_137) (hg _ gw_47) (hg _ gw_48) hK.1 hP hD hS hA rfl dfX8 (Nat.le_of_ble_eq_true rfl) (Nat.le_of_ble_eq_true rfl) dX5_init_46 ?_
  clear hP hD hS H
  refine fun q482 H (hP : va_P D vwCl [(h0, .inr (5, [.ref q473, .ref q476, .ref q479, .null, .int wp472])), (q473, .inr (8, [.ref ca0475, .int 0])), (ca0475, .inl (y 1, 200, .inr (.inl (fun _ => 0)))), (q476, .inr (8, [.ref ca0478, .int 0])), (ca0478, .inl (y 1, 200, .inr (.inl (fun _ => 0)))), (q479, .inr (8, [.ref ca0481, .int 0])), (ca0481, .inl (y 1, 18, .inr (.inl (fun _ => 0)))), (q482, .inr (8, [.null, .int 0]))] H) (hD : va_D A [(h0, .inr (5, [.ref q473, .ref q476, .ref q479, .null, .int wp472])), (q473, .inr (8, [.ref ca0475, .int 0])), (ca0475, .inl (y 1, 200, .inr (.inl (fun _ => 0)))), (q476, .inr (8, [.ref ca0478, .int 0])), (ca0478, .inl (y 1, 200, .inr (.inl (fun _ => 0)))), (q479, .inr (8, [.ref ca0481, .int 0])), (ca0481, .inl (y 1, 18, .inr (.inl (fun _ => 0)))), (q482, .inr (8, [.null, .int 0]))]) hS => ?_
  refine lv_dup hx hb dX5_init_49 rfl ?_
  refine lv_iconst (v := 3) hx hb dX5_init_50 (by decide) ?_
  refine g_av (wr := [(h0, .inr (5, [.ref q473, .ref q476, .ref q479, .null, .int wp472])), (q473, .inr (8, [.ref ca0475, .int 0])), (ca0475, .inl (y 1, 200, .inr (.inl (fun _ => 0)))), (q476, .inr (8, [.ref ca0478, .int 0])), (ca0478, .inl (y 1, 200, .inr (.inl (fun _ => 0)))), (q479, .inr (8, [.ref ca0481, .int 0])), (ca0481, .inl (y 1, 18, .inr (.inl (fun _ => 0))))]) (va_runI (As := [.int 3]) (rest := [.ref q482, .ref h0]) ⟨hx, hb, hml, hown, hg⟩ (k_X8_init_6 l D y aS H.size q482 0) (cwI 1 hg ggI_RX5_11_X8_init rfl rfl rfl (hg _ gw_48) (hg _ gw_142) (hg _ gw_95) rfl (by decide +kernel) ⟨Nat.le_of_ble_eq_true rfl, Nat.le_of_ble_eq_true rfl⟩) (g_preS hK hP hD [7] rfl (by decide)) rfl rfl hl.1 rfl (lv_room (Nat.le_of_ble_eq_true rfl)) dX5_init_51 ⟨Nat.le_of_ble_eq_true rfl, Nat.le_of_ble_eq_true rfl⟩) hP hD hS hA [7] [0, 1, 2, 3, 4, 5, 6] rfl rfl (by decide) (by decide) ?_
  clear hP hD hS H locs
  refine fun u H locs hq hP hD hS => ?_
  obtain ⟨ca0484, rfl⟩ : ∃ z9, z9 = u := ⟨_, rfl⟩
  replace hP : va_P D vwCl [(h0, .inr (5, [.ref q473, .ref q476, .ref q479, .null, .int wp472])), (q473, .inr (8, [.ref ca0475, .int 0])), (ca0475, .inl (y 1, 200, .inr (.inl (fun _ => 0)))), (q476, .inr (8, [.ref ca0478, .int 0])), (ca0478, .inl (y 1, 200, .inr (.inl (fun _ => 0)))), (q479, .inr (8, [.ref ca0481, .int 0])), (ca0481, .inl (y 1, 18, .inr (.inl (fun _ => 0)))), (q482, .inr (8, [.ref ca0484, .int 0])), (ca0484, .inl (y 1, 3, .inr (.inl (fun _ => 0))))] H := hP
  replace hD : va_D A [(h0, .inr (5, [.ref q473, .ref q476, .ref q479, .null, .int wp472])), (q473, .inr (8, [.ref ca0475, .int 0])), (ca0475, .inl (y 1, 200, .inr (.inl (fun _ => 0)))), (q476, .inr (8, [.ref ca0478, .int 0])), (ca0478, .inl (y 1, 200, .inr (.inl (fun _ => 0)))), (q479, .inr (8, [.ref ca0481, .int 0])), (ca0481, .inl (y 1, 18, .inr (.inl (fun _ => 0)))), (q482, .inr (8, [.ref ca0484, .int 0])), (ca0484, .inl (y 1, 3, .inr (.inl (fun _ => 0))))] := hD
  refine gm_putF (D := D) (ci := 5) (v := .ref q482) (ty := .object "Greentrunk$Row") (C := RX5) (T := TX5) (N := 5) hx hb hg inlX5 tyX5 tyX5_ok nmX5 hown hK.1 hP hD hS 0 rfl rfl 3 (by decide) tX5_3 (hg _ gw_141) hin rfl (by decide +kernel) rfl rfl (Nat.le_of_ble_eq_true rfl) dX5_init_54 ?_
  clear hP hD hS H locs
  refine fun H locs (hP : va_P D vwCl [(h0, .inr (5, [.ref q473, .ref q476, .ref q479, .ref q482, .int wp472])), (q473, .inr (8, [.ref ca0475, .int 0])), (ca0475, .inl (y 1, 200, .inr (.inl (fun _ => 0)))), (q476, .inr (8, [.ref ca0478, .int 0])), (ca0478, .inl (y 1, 200, .inr (.inl (fun _ => 0)))), (q479, .inr (8, [.ref ca0481, .int 0])), (ca0481, .inl (y 1, 18, .inr (.inl (fun _ => 0)))), (q482, .inr (8, [.ref ca0484, .int 0])), (ca0484, .inl (y 1, 3, .inr (.inl (fun _ => 0))))] H) (hD : va_D A [(h0, .inr (5, [.ref q473, .ref q476, .ref q479, .ref q482, .int wp472])), (q473, .inr (8, [.ref ca0475, .int 0])), (ca0475, .inl (y 1, 200, .inr (.inl (fun _ => 0)))), (q476, .inr (8, [.ref ca0478, .int 0])), (ca0478, .inl (y 1, 200, .inr (.inl (fun _ => 0)))), (q479, .inr (8, [.ref ca0481, .int 0])), (ca0481, .inl (y 1, 18, .inr (.inl (fun _ => 0)))), (q482, .inr (8, [.ref ca0484, .int 0])), (ca0484, .inl (y 1, 3, .inr (.inl (fun _ => 0))))]) hS => ?_
  exact g_vret hx hb hr hlocks ⟨q473, q476, q479, q482, ca0475, ca0478, ca0481, ca0484⟩ hP hD hS trivial (Nat.le_of_ble_eq_true rfl) (Nat.le_of_ble_eq_true rfl) dX5_init_57
set_option maxRecDepth 100000 in
set_option maxHeartbeats 4000000 in
theorem k_X9_init_0 (l : Launch) (D : va_G) (y : Nat → ClassId) (aS : Nat → Nat) (sz : Nat) (h0 : Nat) (wp487 : Int32) : Met l yX9_init (Cond.code yX9_init cX9_init 1 none :: wsL_law) ({ frames := 1, cells := 2, slots := 512, locals := 12 } : Room) (va_Pc [.ref h0] (gI D y aS [(h0, .inr (9, [.null, .null, .int wp487]))] sz)) (va_Qv (fun (u : Nat × Nat) => True) (fun u => gO D (va_A [(h0, .inr (9, [.null, .null, .int wp487]))] sz) [(h0, .inr (9, [.ref u.1, .ref u.2, .int wp487]))]) (va_A [(h0, .inr (9, [.null, .null, .int wp487]))] sz)) 2 512 (va_A [(h0, .inr (9, [.null, .null, .int wp487]))] sz) := by
  refine g_of (by decide) (Nat.le_of_ble_eq_true rfl) ?_
  intro p e s m below meth c ls A hx hb hr hml hown hg hlocks hin hsz hK hP hD hS hA hAe hl
  rw [← hAe]
  replace hown : s.vm.findClass RX9 = some m.cls := hown
  replace hin : meth.name = "<init>" := hin
  replace hl : lv_has ls 1 [(0, .ref h0)] := hl
  refine lv_aload_n hx hb dX9_init_0 rfl (lv_at hl 0 rfl) ?_
  refine W.objInit hx hb hown (hg _ gw_102) (hg _ gw_11) (hg _ gw_12) rfl (by rw [hml]; exact hl.1) rfl dX9_init_1 (Nat.le_of_ble_eq_true rfl) (Nat.le_of_ble_eq_true rfl) ?_
  refine W.eq (g2 := F0 m 4 ls []) rfl ?_
  refine lv_aload_n hx hb dX9_init_4 rfl (lv_at hl 0 rfl) ?_
  refine lv_sipush (v := 256) hx hb dX9_init_5 (by decide +kernel) ?_
  refine g_newa (atype := .long) (ty := .long) (N' := 256) (a0 := (256, .inr (.inl (fun _ => 0)))) hx hb 1 rfl (fun _ h => by cases h) (hg _ gw_6) rfl hK hP hD hS hA (fun _ => rfl) (by decide +kernel) (by decide +kernel) (by decide) (Nat.le_of_ble_eq_true rfl) (Nat.le_of_ble_eq_true rfl) dX9_init_8 ?_
  clear hP hD hS
  refine fun q488 H (hP : va_P D vwCl [(h0, .inr (9, [.null, .null, .int wp487])), (q488, .inl (y 1, 256, .inr (.inl (fun _ => 0))))] H) (hD : va_D A [(h0, .inr (9, [.null, .null, .int wp487])), (q488, .inl (y 1, 256, .inr (.inl (fun _ => 0))))]) hS => ?_
  refine gm_put (D := D) (ci := 9) (v := .ref q488) (ty := .array .long) (C := RX9) (T := TX9) (N := 3) hx hb hg inlX9 tyX9 tyX9_ok nmX9 hown hK.1 hP hD hS 0 rfl rfl 0 (by decide) tX9_0 (hg _ gw_103) (by decide +kernel) rfl rfl (Nat.le_of_ble_eq_true rfl) dX9_init_10 ?_
  clear hP hD hS H
  refine fun H locs (hP : va_P D vwCl [(h0, .inr (9, [.ref q488, .null, .int wp487])), (q488, .inl (y 1, 256, .inr (.inl (fun _ => 0))))] H) (hD : va_D A [(h0, .inr (9, [.ref q488, .null, .int wp487])), (q488, .inl (y 1, 256, .inr (.inl (fun _ => 0))))]) hS => ?_
  refine lv_aload_n hx hb dX9_init_13 rfl (lv_at hl 0 rfl) ?_
  refine lv_sipush (v := 256) hx hb dX9_init_14 (by decide +kernel) ?_
  refine g_newa (atype := .int) (ty := .int) (N' := 256) (a0 := (256, .inl (fun _ => 0))) hx hb 0 rfl (fun _ h => by cases h) (hg _ gw_104) rfl hK hP hD hS hA (fun _ => rfl) (by decide +kernel) (by decide +kernel) (by decide) (Nat.le_of_ble_eq_true rfl) (Nat.le_of_ble_eq_true rfl) dX9_init_17 ?_
  clear hP hD hS H
  refine fun q489 H (hP : va_P D vwCl [(h0, .inr (9, [.ref q488, .null, .int wp487])), (q488, .inl (y 1, 256, .inr (.inl (fun _ => 0)))), (q489, .inl (y 0, 256, .inl (fun _ => 0)))] H) (hD : va_D A [(h0, .inr (9, [.ref q488, .null, .int wp487])), (q488, .inl (y 1, 256, .inr (.inl (fun _ => 0)))), (q489, .inl (y 0, 256, .inl (fun _ => 0)))]) hS => ?_
  refine gm_put (D := D) (ci := 9) (v := .ref q489) (ty := .array .int) (C := RX9) (T := TX9) (N := 3) hx hb hg inlX9 tyX9 tyX9_ok nmX9 hown hK.1 hP hD hS 0 rfl rfl 1 (by decide) tX9_1 (hg _ gw_105) (by decide +kernel) rfl rfl (Nat.le_of_ble_eq_true rfl) dX9_init_19 ?_
  clear hP hD hS H locs
  refine fun H locs (hP : va_P D vwCl [(h0, .inr (9, [.ref q488, .ref q489, .int wp487])), (q488, .inl (y 1, 256, .inr (.inl (fun _ => 0)))), (q489, .inl (y 0, 256, .inl (fun _ => 0)))] H) (hD : va_D A [(h0, .inr (9, [.ref q488, .ref q489, .int wp487])), (q488, .inl (y 1, 256, .inr (.inl (fun _ => 0)))), (q489, .inl (y 0, 256, .inl (fun _ => 0)))]) hS => ?_
  replace hP := hP.sub (ws' := [(h0, .inr (9, [.ref q488, .ref q489, .int wp487]))]) [0] rfl
  replace hD := hD.sub (ws' := [(h0, .inr (9, [.ref q488, .ref q489, .int wp487]))]) [0] (by decide +kernel) rfl
  exact g_vret hx hb hr hlocks ⟨q488, q489⟩ hP hD hS trivial (Nat.le_of_ble_eq_true rfl) (Nat.le_of_ble_eq_true rfl) dX9_init_22
set_option maxRecDepth 100000 in
set_option maxHeartbeats 4000000 in
theorem k_X8_init_7 (l : Launch) (D : va_G) (y : Nat → ClassId) (aS : Nat → Nat) (sz : Nat) (h0 : Nat) (wp492 : Int32) : Met l yX8_init (Cond.code yX8_init cX8_init 2 none :: wsL_law) ({ frames := 1, cells := 1, slots := 50, locals := 12 } : Room) (va_Pc [.ref h0, .int 50] (gI D y aS [(h0, .inr (8, [.null, .int wp492]))] sz)) (va_Qv (fun (u : Nat) => True) (fun u => gO D (va_A [(h0, .inr (8, [.null, .int wp492]))] sz) [(h0, .inr (8, [.ref u, .int wp492])), (u, .inl (y 1, 50, .inr (.inl (fun _ => 0))))]) (va_A [(h0, .inr (8, [.null, .int wp492]))] sz)) 1 50 (va_A [(h0, .inr (8, [.null, .int wp492]))] sz) := by
  refine g_of (by decide) (Nat.le_of_ble_eq_true rfl) ?_
  intro p e s m below meth c ls A hx hb hr hml hown hg hlocks hin hsz hK hP hD hS hA hAe hl
  rw [← hAe]
  replace hown : s.vm.findClass RX8 = some m.cls := hown
  replace hin : meth.name = "<init>" := hin
  replace hl : lv_has ls 2 [(0, .ref h0), (1, .int 50)] := hl
  refine lv_aload_n hx hb dX8_init_0 rfl (lv_at hl 0 rfl) ?_
  refine W.objInit hx hb hown (hg _ gw_97) (hg _ gw_11) (hg _ gw_12) rfl (by rw [hml]; exact hl.1) rfl dX8_init_1 (Nat.le_of_ble_eq_true rfl) (Nat.le_of_ble_eq_true rfl) ?_
  refine W.eq (g2 := F0 m 4 ls []) rfl ?_
  refine lv_aload_n hx hb dX8_init_4 rfl (lv_at hl 0 rfl) ?_
  refine lv_iload_n hx hb dX8_init_5 rfl (lv_at hl 1 rfl) ?_
  refine lv_if_ge (tgt := 13) hx hb dX8_init_6 (by decide) (fun _ => ?_) (fun c9 => absurd c9 (by decide +kernel))
  refine lv_iload_n hx hb dX8_init_13 rfl (lv_at hl 1 rfl) ?_
  refine g_newa (atype := .long) (ty := .long) (N' := 50) (a0 := (50, .inr (.inl (fun _ => 0)))) hx hb 1 rfl (fun _ h => by cases h) (hg _ gw_6) rfl hK hP hD hS hA (fun _ => rfl) (by decide +kernel) (by decide +kernel) (by decide) (Nat.le_of_ble_eq_true rfl) (Nat.le_of_ble_eq_true rfl) dX8_init_14 ?_
  clear hP hD hS
  refine fun q493 H (hP : va_P D vwCl [(h0, .inr (8, [.null, .int wp492])), (q493, .inl (y 1, 50, .inr (.inl (fun _ => 0))))] H) (hD : va_D A [(h0, .inr (8, [.null, .int wp492])), (q493, .inl (y 1, 50, .inr (.inl (fun _ => 0))))]) hS => ?_
  refine gm_putF (D := D) (ci := 8) (v := .ref q493) (ty := .array .long) (C := RX8) (T := TX8) (N := 2) hx hb hg inlX8 tyX8 tyX8_ok nmX8 hown hK.1 hP hD hS 0 rfl rfl 0 (by decide) tX8_0 (hg _ gw_98) hin rfl (by decide +kernel) rfl rfl (Nat.le_of_ble_eq_true rfl) dX8_init_16 ?_
  clear hP hD hS H
  refine fun H locs (hP : va_P D vwCl [(h0, .inr (8, [.ref q493, .int wp492])), (q493, .inl (y 1, 50, .inr (.inl (fun _ => 0))))] H) (hD : va_D A [(h0, .inr (8, [.ref q493, .int wp492])), (q493, .inl (y 1, 50, .inr (.inl (fun _ => 0))))]) hS => ?_
  exact g_vret hx hb hr hlocks q493 hP hD hS trivial (Nat.le_of_ble_eq_true rfl) (Nat.le_of_ble_eq_true rfl) dX8_init_19
theorem ggI_RX10_13_X8_init : GoodIn wsL_law ([] ++ (Cond.code yX8_init cX8_init 2 none :: wsL_law)) := g_gi (fun _ h => h) gW_good (fun _ h => nomatch h) ⟨gw_96, rfl⟩
set_option maxRecDepth 100000 in
set_option maxHeartbeats 4000000 in
theorem k_X10_init_0 (l : Launch) (D : va_G) (y : Nat → ClassId) (aS : Nat → Nat) (sz : Nat) (h0 : Nat) : Met l yX10_init (Cond.code yX10_init cX10_init 1 none :: wsL_law) ({ frames := 2, cells := 8, slots := 208, locals := 33 } : Room) (va_Pc [.ref h0] (gI D y aS [(h0, .inr (10, [.null, .null, .null, .null]))] sz)) (va_Qv (fun (u : Nat × Nat × Nat × Nat × Nat × Nat × Nat × Nat) => True) (fun u => gO D (va_A [(h0, .inr (10, [.null, .null, .null, .null]))] sz) [(h0, .inr (10, [.ref u.1, .ref u.2.1, .ref u.2.2.1, .ref u.2.2.2.1])), (u.1, .inr (8, [.ref u.2.2.2.2.1, .int 0])), (u.2.1, .inr (8, [.ref u.2.2.2.2.2.1, .int 0])), (u.2.2.1, .inr (8, [.ref u.2.2.2.2.2.2.1, .int 0])), (u.2.2.2.1, .inr (8, [.ref u.2.2.2.2.2.2.2, .int 0]))]) (va_A [(h0, .inr (10, [.null, .null, .null, .null]))] sz)) 8 208 (va_A [(h0, .inr (10, [.null, .null, .null, .null]))] sz) := by
  refine g_of (by decide) (Nat.le_of_ble_eq_true rfl) ?_
  intro p e s m below meth c ls A hx hb hr hml hown hg hlocks hin hsz hK hP hD hS hA hAe hl
  rw [← hAe]
  replace hown : s.vm.findClass RX10 = some m.cls := hown
  replace hin : meth.name = "<init>" := hin
  replace hl : lv_has ls 1 [(0, .ref h0)] := hl
  refine lv_aload_n hx hb dX10_init_0 rfl (lv_at hl 0 rfl) ?_
  refine W.objInit hx hb hown (hg _ gw_127) (hg _ gw_11) (hg _ gw_12) rfl (by rw [hml]; exact hl.1) rfl dX10_init_1 (Nat.le_of_ble_eq_true rfl) (Nat.le_of_ble_eq_true rfl) ?_
  refine W.eq (g2 := F0 m 4 ls []) rfl ?_
  refine lv_aload_n hx hb dX10_init_4 rfl (lv_at hl 0 rfl) ?_
  refine va_new (ci := 8) (fs := [.null, .int 0]) (C := RX8) (T := TX8) (N := 2) hx hb hg inlX8 tyX8 tyX8_ok hown (hg _ gw_128) (hg _ gw_47) (hg _ gw_48) hK.1 hP hD hS hA rfl dfX8 (Nat.le_of_ble_eq_true rfl) (Nat.le_of_ble_eq_true rfl) dX10_init_5 ?_
  clear hP hD hS
  refine fun q505 H (hP : va_P D vwCl [(h0, .inr (10, [.null, .null, .null, .null])), (q505, .inr (8, [.null, .int 0]))] H) (hD : va_D A [(h0, .inr (10, [.null, .null, .null, .null])), (q505, .inr (8, [.null, .int 0]))]) hS => ?_
  refine lv_dup hx hb dX10_init_8 rfl ?_
  refine lv_bipush (v := 50) hx hb dX10_init_9 (by decide +kernel) ?_
  refine g_av (wr := [(h0, .inr (10, [.null, .null, .null, .null]))]) (va_runI (As := [.int 50]) (rest := [.ref q505, .ref h0]) ⟨hx, hb, hml, hown, hg⟩ (k_X8_init_7 l D y aS H.size q505 0) (cwI 1 hg ggI_RX10_13_X8_init rfl rfl rfl (hg _ gw_48) (hg _ gw_133) (hg _ gw_95) rfl (by decide +kernel) ⟨Nat.le_of_ble_eq_true rfl, Nat.le_of_ble_eq_true rfl⟩) (g_preS hK hP hD [1] rfl (by decide)) rfl rfl hl.1 rfl (lv_room (Nat.le_of_ble_eq_true rfl)) dX10_init_11 ⟨Nat.le_of_ble_eq_true rfl, Nat.le_of_ble_eq_true rfl⟩) hP hD hS hA [1] [0] rfl rfl (by decide) (by decide) ?_
  clear hP hD hS H
  refine fun u H locs hq hP hD hS => ?_
  obtain ⟨ca0507, rfl⟩ : ∃ z9, z9 = u := ⟨_, rfl⟩
  replace hP : va_P D vwCl [(h0, .inr (10, [.null, .null, .null, .null])), (q505, .inr (8, [.ref ca0507, .int 0])), (ca0507, .inl (y 1, 50, .inr (.inl (fun _ => 0))))] H := hP
  replace hD : va_D A [(h0, .inr (10, [.null, .null, .null, .null])), (q505, .inr (8, [.ref ca0507, .int 0])), (ca0507, .inl (y 1, 50, .inr (.inl (fun _ => 0))))] := hD
  refine gm_putF (D := D) (ci := 10) (v := .ref q505) (ty := .object "Greentrunk$Row") (C := RX10) (T := TX10) (N := 4) hx hb hg inlX10 tyX10 tyX10_ok nmX10 hown hK.1 hP hD hS 0 rfl rfl 0 (by decide) tX10_0 (hg _ gw_129) hin rfl (by decide +kernel) rfl rfl (Nat.le_of_ble_eq_true rfl) dX10_init_14 ?_
  clear hP hD hS H locs
  refine fun H locs (hP : va_P D vwCl [(h0, .inr (10, [.ref q505, .null, .null, .null])), (q505, .inr (8, [.ref ca0507, .int 0])), (ca0507, .inl (y 1, 50, .inr (.inl (fun _ => 0))))] H) (hD : va_D A [(h0, .inr (10, [.ref q505, .null, .null, .null])), (q505, .inr (8, [.ref ca0507, .int 0])), (ca0507, .inl (y 1, 50, .inr (.inl (fun _ => 0))))]) hS => ?_
  refine lv_aload_n hx hb dX10_init_17 rfl (lv_at hl 0 rfl) ?_
  refine va_new (ci := 8) (fs := [.null, .int 0]) (C := RX8) (T := TX8) (N := 2) hx hb hg inlX8 tyX8 tyX8_ok hown (hg _ gw_128) (hg _ gw_47) (hg _ gw_48) hK.1 hP hD hS hA rfl dfX8 (Nat.le_of_ble_eq_true rfl) (Nat.le_of_ble_eq_true rfl) dX10_init_18 ?_
  clear hP hD hS H
  refine fun q508 H (hP : va_P D vwCl [(h0, .inr (10, [.ref q505, .null, .null, .null])), (q505, .inr (8, [.ref ca0507, .int 0])), (ca0507, .inl (y 1, 50, .inr (.inl (fun _ => 0)))), (q508, .inr (8, [.null, .int 0]))] H) (hD : va_D A [(h0, .inr (10, [.ref q505, .null, .null, .null])), (q505, .inr (8, [.ref ca0507, .int 0])), (ca0507, .inl (y 1, 50, .inr (.inl (fun _ => 0)))), (q508, .inr (8, [.null, .int 0]))]) hS => ?_
  refine lv_dup hx hb dX10_init_21 rfl ?_
  refine lv_bipush (v := 50) hx hb dX10_init_22 (by decide +kernel) ?_
  refine g_av (wr := [(h0, .inr (10, [.ref q505, .null, .null, .null])), (q505, .inr (8, [.ref ca0507, .int 0])), (ca0507, .inl (y 1, 50, .inr (.inl (fun _ => 0))))]) (va_runI (As := [.int 50]) (rest := [.ref q508, .ref h0]) ⟨hx, hb, hml, hown, hg⟩ (k_X8_init_7 l D y aS H.size q508 0) (cwI 1 hg ggI_RX10_13_X8_init rfl rfl rfl (hg _ gw_48) (hg _ gw_133) (hg _ gw_95) rfl (by decide +kernel) ⟨Nat.le_of_ble_eq_true rfl, Nat.le_of_ble_eq_true rfl⟩) (g_preS hK hP hD [3] rfl (by decide)) rfl rfl hl.1 rfl (lv_room (Nat.le_of_ble_eq_true rfl)) dX10_init_24 ⟨Nat.le_of_ble_eq_true rfl, Nat.le_of_ble_eq_true rfl⟩) hP hD hS hA [3] [0, 1, 2] rfl rfl (by decide) (by decide) ?_
  clear hP hD hS H locs
  refine fun u H locs hq hP hD hS => ?_
  obtain ⟨ca0510, rfl⟩ : ∃ z9, z9 = u := ⟨_, rfl⟩
  replace hP : va_P D vwCl [(h0, .inr (10, [.ref q505, .null, .null, .null])), (q505, .inr (8, [.ref ca0507, .int 0])), (ca0507, .inl (y 1, 50, .inr (.inl (fun _ => 0)))), (q508, .inr (8, [.ref ca0510, .int 0])), (ca0510, .inl (y 1, 50, .inr (.inl (fun _ => 0))))] H := hP
  replace hD : va_D A [(h0, .inr (10, [.ref q505, .null, .null, .null])), (q505, .inr (8, [.ref ca0507, .int 0])), (ca0507, .inl (y 1, 50, .inr (.inl (fun _ => 0)))), (q508, .inr (8, [.ref ca0510, .int 0])), (ca0510, .inl (y 1, 50, .inr (.inl (fun _ => 0))))] := hD
  refine gm_putF (D := D) (ci := 10) (v := .ref q508) (ty := .object "Greentrunk$Row") (C := RX10) (T := TX10) (N := 4) hx hb hg inlX10 tyX10 tyX10_ok nmX10 hown hK.1 hP hD hS 0 rfl rfl 1 (by decide) tX10_1 (hg _ gw_130) hin rfl (by decide +kernel) rfl rfl (Nat.le_of_ble_eq_true rfl) dX10_init_27 ?_
  clear hP hD hS H locs
  refine fun H locs (hP : va_P D vwCl [(h0, .inr (10, [.ref q505, .ref q508, .null, .null])), (q505, .inr (8, [.ref ca0507, .int 0])), (ca0507, .inl (y 1, 50, .inr (.inl (fun _ => 0)))), (q508, .inr (8, [.ref ca0510, .int 0])), (ca0510, .inl (y 1, 50, .inr (.inl (fun _ => 0))))] H) (hD : va_D A [(h0, .inr (10, [.ref q505, .ref q508, .null, .null])), (q505, .inr (8, [.ref ca0507, .int 0])), (ca0507, .inl (y 1, 50, .inr (.inl (fun _ => 0)))), (q508, .inr (8, [.ref ca0510, .int 0])), (ca0510, .inl (y 1, 50, .inr (.inl (fun _ => 0))))]) hS => ?_
  refine lv_aload_n hx hb dX10_init_30 rfl (lv_at hl 0 rfl) ?_
  refine va_new (ci := 8) (fs := [.null, .int 0]) (C := RX8) (T := TX8) (N := 2) hx hb hg inlX8 tyX8 tyX8_ok hown (hg _ gw_128) (hg _ gw_47) (hg _ gw_48) hK.1 hP hD hS hA rfl dfX8 (Nat.le_of_ble_eq_true rfl) (Nat.le_of_ble_eq_true rfl) dX10_init_31 ?_
  clear hP hD hS H
  refine fun q511 H (hP : va_P D vwCl [(h0, .inr (10, [.ref q505, .ref q508, .null, .null])), (q505, .inr (8, [.ref ca0507, .int 0])), (ca0507, .inl (y 1, 50, .inr (.inl (fun _ => 0)))), (q508, .inr (8, [.ref ca0510, .int 0])), (ca0510, .inl (y 1, 50, .inr (.inl (fun _ => 0)))), (q511, .inr (8, [.null, .int 0]))] H) (hD : va_D A [(h0, .inr (10, [.ref q505, .ref q508, .null, .null])), (q505, .inr (8, [.ref ca0507, .int 0])), (ca0507, .inl (y 1, 50, .inr (.inl (fun _ => 0)))), (q508, .inr (8, [.ref ca0510, .int 0])), (ca0510, .inl (y 1, 50, .inr (.inl (fun _ => 0)))), (q511, .inr (8, [.null, .int 0]))]) hS => ?_
  refine lv_dup hx hb dX10_init_34 rfl ?_
  refine lv_bipush (v := 50) hx hb dX10_init_35 (by decide +kernel) ?_
  refine g_av (wr := [(h0, .inr (10, [.ref q505, .ref q508, .null, .null])), (q505, .inr (8, [.ref ca0507, .int 0])), (ca0507, .inl (y 1, 50, .inr (.inl (fun _ => 0)))), (q508, .inr (8, [.ref ca0510, .int 0])), (ca0510, .inl (y 1, 50, .inr (.inl (fun _ => 0))))]) (va_runI (As := [.int 50]) (rest := [.ref q511, .ref h0]) ⟨hx, hb, hml, hown, hg⟩ (k_X8_init_7 l D y aS H.size q511 0) (cwI 1 hg ggI_RX10_13_X8_init rfl rfl rfl (hg _ gw_48) (hg _ gw_133) (hg _ gw_95) rfl (by decide +kernel) ⟨Nat.le_of_ble_eq_true rfl, Nat.le_of_ble_eq_true rfl⟩) (g_preS hK hP hD [5] rfl (by decide)) rfl rfl hl.1 rfl (lv_room (Nat.le_of_ble_eq_true rfl)) dX10_init_37 ⟨Nat.le_of_ble_eq_true rfl, Nat.le_of_ble_eq_true rfl⟩) hP hD hS hA [5] [0, 1, 2, 3, 4] rfl rfl (by decide) (by decide) ?_
  clear hP hD hS H locs
  refine fun u H locs hq hP hD hS => ?_
  obtain ⟨ca0513, rfl⟩ : ∃ z9, z9 = u := ⟨_, rfl⟩
  replace hP : va_P D vwCl [(h0, .inr (10, [.ref q505, .ref q508, .null, .null])), (q505, .inr (8, [.ref ca0507, .int 0])), (ca0507, .inl (y 1, 50, .inr (.inl (fun _ => 0)))), (q508, .inr (8, [.ref ca0510, .int 0])), (ca0510, .inl (y 1, 50, .inr (.inl (fun _ => 0)))), (q511, .inr (8, [.ref ca0513, .int 0])), (ca0513, .inl (y 1, 50, .inr (.inl (fun _ => 0))))] H := hP
  replace hD : va_D A [(h0, .inr (10, [.ref q505, .ref q508, .null, .null])), (q505, .inr (8, [.ref ca0507, .int 0])), (ca0507, .inl (y 1, 50, .inr (.inl (fun _ => 0)))), (q508, .inr (8, [.ref ca0510, .int 0])), (ca0510, .inl (y 1, 50, .inr (.inl (fun _ => 0)))), (q511, .inr (8, [.ref ca0513, .int 0])), (ca0513, .inl (y 1, 50, .inr (.inl (fun _ => 0))))] := hD
  refine gm_putF (D := D) (ci := 10) (v := .ref q511) (ty := .object "Greentrunk$Row") (C := RX10) (T := TX10) (N := 4) hx hb hg inlX10 tyX10 tyX10_ok nmX10 hown hK.1 hP hD hS 0 rfl rfl 2 (by decide) tX10_2 (hg _ gw_131) hin rfl (by decide +kernel) rfl rfl (Nat.le_of_ble_eq_true rfl) dX10_init_40 ?_
  clear hP hD hS H locs
  refine fun H locs (hP : va_P D vwCl [(h0, .inr (10, [.ref q505, .ref q508, .ref q511, .null])), (q505, .inr (8, [.ref ca0507, .int 0])), (ca0507, .inl (y 1, 50, .inr (.inl (fun _ => 0)))), (q508, .inr (8, [.ref ca0510, .int 0])), (ca0510, .inl (y 1, 50, .inr (.inl (fun _ => 0)))), (q511, .inr (8, [.ref ca0513, .int 0])), (ca0513, .inl (y 1, 50, .inr (.inl (fun _ => 0))))] H) (hD : va_D A [(h0, .inr (10, [.ref q505, .ref q508, .ref q511, .null])), (q505, .inr (8, [.ref ca0507, .int 0])), (ca0507, .inl (y 1, 50, .inr (.inl (fun _ => 0)))), (q508, .inr (8, [.ref ca0510, .int 0])), (ca0510, .inl (y 1, 50, .inr (.inl (fun _ => 0)))), (q511, .inr (8, [.ref ca0513, .int 0])), (ca0513, .inl (y 1, 50, .inr (.inl (fun _ => 0))))]) hS => ?_
  refine lv_aload_n hx hb dX10_init_43 rfl (lv_at hl 0 rfl) ?_
  refine va_new (ci := 8) (fs := [.null, .int 0]) (C := RX8) (T := TX8) (N := 2) hx hb hg inlX8 tyX8 tyX8_ok hown (hg _ gw_128) (hg _ gw_47) (hg _ gw_48) hK.1 hP hD hS hA rfl dfX8 (Nat.le_of_ble_eq_true rfl) (Nat.le_of_ble_eq_true rfl) dX10_init_44 ?_
  clear hP hD hS H
  refine fun q514 H (hP : va_P D vwCl [(h0, .inr (10, [.ref q505, .ref q508, .ref q511, .null])), (q505, .inr (8, [.ref ca0507, .int 0])), (ca0507, .inl (y 1, 50, .inr (.inl (fun _ => 0)))), (q508, .inr (8, [.ref ca0510, .int 0])), (ca0510, .inl (y 1, 50, .inr (.inl (fun _ => 0)))), (q511, .inr (8, [.ref ca0513, .int 0])), (ca0513, .inl (y 1, 50, .inr (.inl (fun _ => 0)))), (q514, .inr (8, [.null, .int 0]))] H) (hD : va_D A [(h0, .inr (10, [.ref q505, .ref q508, .ref q511, .null])), (q505, .inr (8, [.ref ca0507, .int 0])), (ca0507, .inl (y 1, 50, .inr (.inl (fun _ => 0)))), (q508, .inr (8, [.ref ca0510, .int 0])), (ca0510, .inl (y 1, 50, .inr (.inl (fun _ => 0)))), (q511, .inr (8, [.ref ca0513, .int 0])), (ca0513, .inl (y 1, 50, .inr (.inl (fun _ => 0)))), (q514, .inr (8, [.null, .int 0]))]) hS => ?_
  refine lv_dup hx hb dX10_init_47 rfl ?_
  refine lv_bipush (v := 50) hx hb dX10_init_48 (by decide +kernel) ?_
  refine g_av (wr := [(h0, .inr (10, [.ref q505, .ref q508, .ref q511, .null])), (q505, .inr (8, [.ref ca0507, .int 0])), (ca0507, .inl (y 1, 50, .inr (.inl (fun _ => 0)))), (q508, .inr (8, [.ref ca0510, .int 0])), (ca0510, .inl (y 1, 50, .inr (.inl (fun _ => 0)))), (q511, .inr (8, [.ref ca0513, .int 0])), (ca0513, .inl (y 1, 50, .inr (.inl (fun _ => 0))))]) (va_runI (As := [.int 50]) (rest := [.ref q514, .ref h0]) ⟨hx, hb, hml, hown, hg⟩ (k_X8_init_7 l D y aS H.size q514 0) (cwI 1 hg ggI_RX10_13_X8_init rfl rfl rfl (hg _ gw_48) (hg _ gw_133) (hg _ gw_95) rfl (by decide +kernel) ⟨Nat.le_of_ble_eq_true rfl, Nat.le_of_ble_eq_true rfl⟩) (g_preS hK hP hD [7] rfl (by decide)) rfl rfl hl.1 rfl (lv_room (Nat.le_of_ble_eq_true rfl)) dX10_init_50 ⟨Nat.le_of_ble_eq_true rfl, Nat.le_of_ble_eq_true rfl⟩) hP hD hS hA [7] [0, 1, 2, 3, 4, 5, 6] rfl rfl (by decide) (by decide) ?_
  clear hP hD hS H locs
  refine fun u H locs hq hP hD hS => ?_
  obtain ⟨ca0516, rfl⟩ : ∃ z9, z9 = u := ⟨_, rfl⟩
  replace hP : va_P D vwCl [(h0, .inr (10, [.ref q505, .ref q508, .ref q511, .null])), (q505, .inr (8, [.ref ca0507, .int 0])), (ca0507, .inl (y 1, 50, .inr (.inl (fun _ => 0)))), (q508, .inr (8, [.ref ca0510, .int 0])), (ca0510, .inl (y 1, 50, .inr (.inl (fun _ => 0)))), (q511, .inr (8, [.ref ca0513, .int 0])), (ca0513, .inl (y 1, 50, .inr (.inl (fun _ => 0)))), (q514, .inr (8, [.ref ca0516, .int 0])), (ca0516, .inl (y 1, 50, .inr (.inl (fun _ => 0))))] H := hP
  replace hD : va_D A [(h0, .inr (10, [.ref q505, .ref q508, .ref q511, .null])), (q505, .inr (8, [.ref ca0507, .int 0])), (ca0507, .inl (y 1, 50, .inr (.inl (fun _ => 0)))), (q508, .inr (8, [.ref ca0510, .int 0])), (ca0510, .inl (y 1, 50, .inr (.inl (fun _ => 0)))), (q511, .inr (8, [.ref ca0513, .int 0])), (ca0513, .inl (y 1, 50, .inr (.inl (fun _ => 0)))), (q514, .inr (8, [.ref ca0516, .int 0])), (ca0516, .inl (y 1, 50, .inr (.inl (fun _ => 0))))] := hD
  refine gm_putF (D := D) (ci := 10) (v := .ref q514) (ty := .object "Greentrunk$Row") (C := RX10) (T := TX10) (N := 4) hx hb hg inlX10 tyX10 tyX10_ok nmX10 hown hK.1 hP hD hS 0 rfl rfl 3 (by decide) tX10_3 (hg _ gw_132) hin rfl (by decide +kernel) rfl rfl (Nat.le_of_ble_eq_true rfl) dX10_init_53 ?_
  clear hP hD hS H locs
  refine fun H locs (hP : va_P D vwCl [(h0, .inr (10, [.ref q505, .ref q508, .ref q511, .ref q514])), (q505, .inr (8, [.ref ca0507, .int 0])), (ca0507, .inl (y 1, 50, .inr (.inl (fun _ => 0)))), (q508, .inr (8, [.ref ca0510, .int 0])), (ca0510, .inl (y 1, 50, .inr (.inl (fun _ => 0)))), (q511, .inr (8, [.ref ca0513, .int 0])), (ca0513, .inl (y 1, 50, .inr (.inl (fun _ => 0)))), (q514, .inr (8, [.ref ca0516, .int 0])), (ca0516, .inl (y 1, 50, .inr (.inl (fun _ => 0))))] H) (hD : va_D A [(h0, .inr (10, [.ref q505, .ref q508, .ref q511, .ref q514])), (q505, .inr (8, [.ref ca0507, .int 0])), (ca0507, .inl (y 1, 50, .inr (.inl (fun _ => 0)))), (q508, .inr (8, [.ref ca0510, .int 0])), (ca0510, .inl (y 1, 50, .inr (.inl (fun _ => 0)))), (q511, .inr (8, [.ref ca0513, .int 0])), (ca0513, .inl (y 1, 50, .inr (.inl (fun _ => 0)))), (q514, .inr (8, [.ref ca0516, .int 0])), (ca0516, .inl (y 1, 50, .inr (.inl (fun _ => 0))))]) hS => ?_
  replace hP := hP.sub (ws' := [(h0, .inr (10, [.ref q505, .ref q508, .ref q511, .ref q514])), (q505, .inr (8, [.ref ca0507, .int 0])), (q508, .inr (8, [.ref ca0510, .int 0])), (q511, .inr (8, [.ref ca0513, .int 0])), (q514, .inr (8, [.ref ca0516, .int 0]))]) [0, 1, 3, 5, 7] rfl
  replace hD := hD.sub (ws' := [(h0, .inr (10, [.ref q505, .ref q508, .ref q511, .ref q514])), (q505, .inr (8, [.ref ca0507, .int 0])), (q508, .inr (8, [.ref ca0510, .int 0])), (q511, .inr (8, [.ref ca0513, .int 0])), (q514, .inr (8, [.ref ca0516, .int 0]))]) [0, 1, 3, 5, 7] (by decide +kernel) rfl
  exact g_vret hx hb hr hlocks ⟨q505, q508, q511, q514, ca0507, ca0510, ca0513, ca0516⟩ hP hD hS trivial (Nat.le_of_ble_eq_true rfl) (Nat.le_of_ble_eq_true rfl) dX10_init_56
set_option maxRecDepth 100000 in
set_option maxHeartbeats 4000000 in
theorem k_X8_init_8 (l : Launch) (D : va_G) (y : Nat → ClassId) (aS : Nat → Nat) (sz : Nat) (h0 : Nat) (wp521 : Int32) : Met l yX8_init (Cond.code yX8_init cX8_init 2 none :: wsL_law) ({ frames := 1, cells := 1, slots := 24, locals := 12 } : Room) (va_Pc [.ref h0, .int 24] (gI D y aS [(h0, .inr (8, [.null, .int wp521]))] sz)) (va_Qv (fun (u : Nat) => True) (fun u => gO D (va_A [(h0, .inr (8, [.null, .int wp521]))] sz) [(h0, .inr (8, [.ref u, .int wp521])), (u, .inl (y 1, 24, .inr (.inl (fun _ => 0))))]) (va_A [(h0, .inr (8, [.null, .int wp521]))] sz)) 1 24 (va_A [(h0, .inr (8, [.null, .int wp521]))] sz) := by
  refine g_of (by decide) (Nat.le_of_ble_eq_true rfl) ?_
  intro p e s m below meth c ls A hx hb hr hml hown hg hlocks hin hsz hK hP hD hS hA hAe hl
  rw [← hAe]
  replace hown : s.vm.findClass RX8 = some m.cls := hown
  replace hin : meth.name = "<init>" := hin
  replace hl : lv_has ls 2 [(0, .ref h0), (1, .int 24)] := hl
  refine lv_aload_n hx hb dX8_init_0 rfl (lv_at hl 0 rfl) ?_
  refine W.objInit hx hb hown (hg _ gw_97) (hg _ gw_11) (hg _ gw_12) rfl (by rw [hml]; exact hl.1) rfl dX8_init_1 (Nat.le_of_ble_eq_true rfl) (Nat.le_of_ble_eq_true rfl) ?_
  refine W.eq (g2 := F0 m 4 ls []) rfl ?_
  refine lv_aload_n hx hb dX8_init_4 rfl (lv_at hl 0 rfl) ?_
  refine lv_iload_n hx hb dX8_init_5 rfl (lv_at hl 1 rfl) ?_
  refine lv_if_ge (tgt := 13) hx hb dX8_init_6 (by decide) (fun _ => ?_) (fun c9 => absurd c9 (by decide +kernel))
  refine lv_iload_n hx hb dX8_init_13 rfl (lv_at hl 1 rfl) ?_
  refine g_newa (atype := .long) (ty := .long) (N' := 24) (a0 := (24, .inr (.inl (fun _ => 0)))) hx hb 1 rfl (fun _ h => by cases h) (hg _ gw_6) rfl hK hP hD hS hA (fun _ => rfl) (by decide +kernel) (by decide +kernel) (by decide) (Nat.le_of_ble_eq_true rfl) (Nat.le_of_ble_eq_true rfl) dX8_init_14 ?_
  clear hP hD hS
  refine fun q522 H (hP : va_P D vwCl [(h0, .inr (8, [.null, .int wp521])), (q522, .inl (y 1, 24, .inr (.inl (fun _ => 0))))] H) (hD : va_D A [(h0, .inr (8, [.null, .int wp521])), (q522, .inl (y 1, 24, .inr (.inl (fun _ => 0))))]) hS => ?_
  refine gm_putF (D := D) (ci := 8) (v := .ref q522) (ty := .array .long) (C := RX8) (T := TX8) (N := 2) hx hb hg inlX8 tyX8 tyX8_ok nmX8 hown hK.1 hP hD hS 0 rfl rfl 0 (by decide) tX8_0 (hg _ gw_98) hin rfl (by decide +kernel) rfl rfl (Nat.le_of_ble_eq_true rfl) dX8_init_16 ?_
  clear hP hD hS H
  refine fun H locs (hP : va_P D vwCl [(h0, .inr (8, [.ref q522, .int wp521])), (q522, .inl (y 1, 24, .inr (.inl (fun _ => 0))))] H) (hD : va_D A [(h0, .inr (8, [.ref q522, .int wp521])), (q522, .inl (y 1, 24, .inr (.inl (fun _ => 0))))]) hS => ?_
  exact g_vret hx hb hr hlocks q522 hP hD hS trivial (Nat.le_of_ble_eq_true rfl) (Nat.le_of_ble_eq_true rfl) dX8_init_19
theorem ggI_RX3_11_X8_init : GoodIn wsL_law ([] ++ (Cond.code yX8_init cX8_init 2 none :: wsL_law)) := g_gi (fun _ h => h) gW_good (fun _ h => nomatch h) ⟨gw_96, rfl⟩
set_option maxRecDepth 100000 in
set_option maxHeartbeats 4000000 in
theorem k_X3_init_0 (l : Launch) (D : va_G) (y : Nat → ClassId) (aS : Nat → Nat) (sz : Nat) (h0 : Nat) (wp525 : Int32) (wp526 : Int32) (wp527 : Int64) (wp528 : Int32) (wp529 : Int32) (wp530 : Int32) (wp531 : Int32) (wp532 : Int32) (wp533 : Int32) : Met l yX3_init (Cond.code yX3_init cX3_init 2 none :: wsL_law) ({ frames := 2, cells := 2, slots := 26, locals := 33 } : Room) (va_Pc [.ref h0, .int (-1)] (gI D y aS [(h0, .inr (3, [.int wp525, .null, .int wp526, .long wp527, .int wp528, .int wp529, .int wp530, .int wp531, .int wp532, .int wp533]))] sz)) (va_Qv (fun (u : Nat × Nat) => True) (fun u => gO D (va_A [(h0, .inr (3, [.int wp525, .null, .int wp526, .long wp527, .int wp528, .int wp529, .int wp530, .int wp531, .int wp532, .int wp533]))] sz) [(h0, .inr (3, [.int (-1), .ref u.1, .int wp526, .long wp527, .int wp528, .int wp529, .int wp530, .int wp531, .int wp532, .int wp533])), (u.1, .inr (8, [.ref u.2, .int 0])), (u.2, .inl (y 1, 24, .inr (.inl (fun _ => 0))))]) (va_A [(h0, .inr (3, [.int wp525, .null, .int wp526, .long wp527, .int wp528, .int wp529, .int wp530, .int wp531, .int wp532, .int wp533]))] sz)) 2 26 (va_A [(h0, .inr (3, [.int wp525, .null, .int wp526, .long wp527, .int wp528, .int wp529, .int wp530, .int wp531, .int wp532, .int wp533]))] sz) := by
  refine g_of (by decide) (Nat.le_of_ble_eq_true rfl) ?_
  intro p e s m below meth c ls A hx hb hr hml hown hg hlocks hin hsz hK hP hD hS hA hAe hl
  rw [← hAe]
  replace hown : s.vm.findClass RX3 = some m.cls := hown
  replace hin : meth.name = "<init>" := hin
  replace hl : lv_has ls 2 [(0, .ref h0), (1, .int (-1))] := hl
  refine lv_aload_n hx hb dX3_init_0 rfl (lv_at hl 0 rfl) ?_
  refine W.objInit hx hb hown (hg _ gw_90) (hg _ gw_11) (hg _ gw_12) rfl (by rw [hml]; exact hl.1) rfl dX3_init_1 (Nat.le_of_ble_eq_true rfl) (Nat.le_of_ble_eq_true rfl) ?_
  refine W.eq (g2 := F0 m 4 ls []) rfl ?_
  refine lv_aload_n hx hb dX3_init_4 rfl (lv_at hl 0 rfl) ?_
  refine va_new (ci := 8) (fs := [.null, .int 0]) (C := RX8) (T := TX8) (N := 2) hx hb hg inlX8 tyX8 tyX8_ok hown (hg _ gw_91) (hg _ gw_47) (hg _ gw_48) hK.1 hP hD hS hA rfl dfX8 (Nat.le_of_ble_eq_true rfl) (Nat.le_of_ble_eq_true rfl) dX3_init_5 ?_
  clear hP hD hS
  refine fun q534 H (hP : va_P D vwCl [(h0, .inr (3, [.int wp525, .null, .int wp526, .long wp527, .int wp528, .int wp529, .int wp530, .int wp531, .int wp532, .int wp533])), (q534, .inr (8, [.null, .int 0]))] H) (hD : va_D A [(h0, .inr (3, [.int wp525, .null, .int wp526, .long wp527, .int wp528, .int wp529, .int wp530, .int wp531, .int wp532, .int wp533])), (q534, .inr (8, [.null, .int 0]))]) hS => ?_
  refine lv_dup hx hb dX3_init_8 rfl ?_
  refine lv_bipush (v := 24) hx hb dX3_init_9 (by decide +kernel) ?_
  refine g_av (wr := [(h0, .inr (3, [.int wp525, .null, .int wp526, .long wp527, .int wp528, .int wp529, .int wp530, .int wp531, .int wp532, .int wp533]))]) (va_runI (As := [.int 24]) (rest := [.ref q534, .ref h0]) ⟨hx, hb, hml, hown, hg⟩ (k_X8_init_8 l D y aS H.size q534 0) (cwI 1 hg ggI_RX3_11_X8_init rfl rfl rfl (hg _ gw_48) (hg _ gw_94) (hg _ gw_95) rfl (by decide +kernel) ⟨Nat.le_of_ble_eq_true rfl, Nat.le_of_ble_eq_true rfl⟩) (g_preS hK hP hD [1] rfl (by decide)) rfl rfl hl.1 rfl (lv_room (Nat.le_of_ble_eq_true rfl)) dX3_init_11 ⟨Nat.le_of_ble_eq_true rfl, Nat.le_of_ble_eq_true rfl⟩) hP hD hS hA [1] [0] rfl rfl (by decide) (by decide) ?_
  clear hP hD hS H
  refine fun u H locs hq hP hD hS => ?_
  obtain ⟨ca0536, rfl⟩ : ∃ z9, z9 = u := ⟨_, rfl⟩
  replace hP : va_P D vwCl [(h0, .inr (3, [.int wp525, .null, .int wp526, .long wp527, .int wp528, .int wp529, .int wp530, .int wp531, .int wp532, .int wp533])), (q534, .inr (8, [.ref ca0536, .int 0])), (ca0536, .inl (y 1, 24, .inr (.inl (fun _ => 0))))] H := hP
  replace hD : va_D A [(h0, .inr (3, [.int wp525, .null, .int wp526, .long wp527, .int wp528, .int wp529, .int wp530, .int wp531, .int wp532, .int wp533])), (q534, .inr (8, [.ref ca0536, .int 0])), (ca0536, .inl (y 1, 24, .inr (.inl (fun _ => 0))))] := hD
  refine gm_putF (D := D) (ci := 3) (v := .ref q534) (ty := .object "Greentrunk$Row") (C := RX3) (T := TX3) (N := 10) hx hb hg inlX3 tyX3 tyX3_ok nmX3 hown hK.1 hP hD hS 0 rfl rfl 1 (by decide) tX3_1 (hg _ gw_92) hin rfl (by decide +kernel) rfl rfl (Nat.le_of_ble_eq_true rfl) dX3_init_14 ?_
  clear hP hD hS H locs
  refine fun H locs (hP : va_P D vwCl [(h0, .inr (3, [.int wp525, .ref q534, .int wp526, .long wp527, .int wp528, .int wp529, .int wp530, .int wp531, .int wp532, .int wp533])), (q534, .inr (8, [.ref ca0536, .int 0])), (ca0536, .inl (y 1, 24, .inr (.inl (fun _ => 0))))] H) (hD : va_D A [(h0, .inr (3, [.int wp525, .ref q534, .int wp526, .long wp527, .int wp528, .int wp529, .int wp530, .int wp531, .int wp532, .int wp533])), (q534, .inr (8, [.ref ca0536, .int 0])), (ca0536, .inl (y 1, 24, .inr (.inl (fun _ => 0))))]) hS => ?_
  refine lv_aload_n hx hb dX3_init_17 rfl (lv_at hl 0 rfl) ?_
  refine lv_iload_n hx hb dX3_init_18 rfl (lv_at hl 1 rfl) ?_
  refine gm_putF (D := D) (ci := 3) (v := .int (-1)) (ty := .int) (C := RX3) (T := TX3) (N := 10) hx hb hg inlX3 tyX3 tyX3_ok nmX3 hown hK.1 hP hD hS 0 rfl rfl 0 (by decide) tX3_0 (hg _ gw_93) hin rfl (by decide +kernel) rfl rfl (Nat.le_of_ble_eq_true rfl) dX3_init_19 ?_
  clear hP hD hS H locs
  refine fun H locs (hP : va_P D vwCl [(h0, .inr (3, [.int (-1), .ref q534, .int wp526, .long wp527, .int wp528, .int wp529, .int wp530, .int wp531, .int wp532, .int wp533])), (q534, .inr (8, [.ref ca0536, .int 0])), (ca0536, .inl (y 1, 24, .inr (.inl (fun _ => 0))))] H) (hD : va_D A [(h0, .inr (3, [.int (-1), .ref q534, .int wp526, .long wp527, .int wp528, .int wp529, .int wp530, .int wp531, .int wp532, .int wp533])), (q534, .inr (8, [.ref ca0536, .int 0])), (ca0536, .inl (y 1, 24, .inr (.inl (fun _ => 0))))]) hS => ?_
  exact g_vret hx hb hr hlocks ⟨q534, ca0536⟩ hP hD hS trivial (Nat.le_of_ble_eq_true rfl) (Nat.le_of_ble_eq_true rfl) dX3_init_22
theorem ggI_RX7_17_X3_init : GoodIn wsL_law ([] ++ (Cond.code yX3_init cX3_init 2 none :: wsL_law)) := g_gi (fun _ h => h) gW_good (fun _ h => nomatch h) ⟨gw_89, rfl⟩
set_option maxRecDepth 100000 in
set_option maxHeartbeats 4000000 in
theorem k_X8_init_9 (l : Launch) (D : va_G) (y : Nat → ClassId) (aS : Nat → Nat) (sz : Nat) (h0 : Nat) (wp542 : Int32) : Met l yX8_init (Cond.code yX8_init cX8_init 2 none :: wsL_law) ({ frames := 1, cells := 1, slots := 12, locals := 12 } : Room) (va_Pc [.ref h0, .int 12] (gI D y aS [(h0, .inr (8, [.null, .int wp542]))] sz)) (va_Qv (fun (u : Nat) => True) (fun u => gO D (va_A [(h0, .inr (8, [.null, .int wp542]))] sz) [(h0, .inr (8, [.ref u, .int wp542])), (u, .inl (y 1, 12, .inr (.inl (fun _ => 0))))]) (va_A [(h0, .inr (8, [.null, .int wp542]))] sz)) 1 12 (va_A [(h0, .inr (8, [.null, .int wp542]))] sz) := by
  refine g_of (by decide) (Nat.le_of_ble_eq_true rfl) ?_
  intro p e s m below meth c ls A hx hb hr hml hown hg hlocks hin hsz hK hP hD hS hA hAe hl
  rw [← hAe]
  replace hown : s.vm.findClass RX8 = some m.cls := hown
  replace hin : meth.name = "<init>" := hin
  replace hl : lv_has ls 2 [(0, .ref h0), (1, .int 12)] := hl
  refine lv_aload_n hx hb dX8_init_0 rfl (lv_at hl 0 rfl) ?_
  refine W.objInit hx hb hown (hg _ gw_97) (hg _ gw_11) (hg _ gw_12) rfl (by rw [hml]; exact hl.1) rfl dX8_init_1 (Nat.le_of_ble_eq_true rfl) (Nat.le_of_ble_eq_true rfl) ?_
  refine W.eq (g2 := F0 m 4 ls []) rfl ?_
  refine lv_aload_n hx hb dX8_init_4 rfl (lv_at hl 0 rfl) ?_
  refine lv_iload_n hx hb dX8_init_5 rfl (lv_at hl 1 rfl) ?_
  refine lv_if_ge (tgt := 13) hx hb dX8_init_6 (by decide) (fun _ => ?_) (fun c9 => absurd c9 (by decide +kernel))
  refine lv_iload_n hx hb dX8_init_13 rfl (lv_at hl 1 rfl) ?_
  refine g_newa (atype := .long) (ty := .long) (N' := 12) (a0 := (12, .inr (.inl (fun _ => 0)))) hx hb 1 rfl (fun _ h => by cases h) (hg _ gw_6) rfl hK hP hD hS hA (fun _ => rfl) (by decide +kernel) (by decide +kernel) (by decide) (Nat.le_of_ble_eq_true rfl) (Nat.le_of_ble_eq_true rfl) dX8_init_14 ?_
  clear hP hD hS
  refine fun q543 H (hP : va_P D vwCl [(h0, .inr (8, [.null, .int wp542])), (q543, .inl (y 1, 12, .inr (.inl (fun _ => 0))))] H) (hD : va_D A [(h0, .inr (8, [.null, .int wp542])), (q543, .inl (y 1, 12, .inr (.inl (fun _ => 0))))]) hS => ?_
  refine gm_putF (D := D) (ci := 8) (v := .ref q543) (ty := .array .long) (C := RX8) (T := TX8) (N := 2) hx hb hg inlX8 tyX8 tyX8_ok nmX8 hown hK.1 hP hD hS 0 rfl rfl 0 (by decide) tX8_0 (hg _ gw_98) hin rfl (by decide +kernel) rfl rfl (Nat.le_of_ble_eq_true rfl) dX8_init_16 ?_
  clear hP hD hS H
  refine fun H locs (hP : va_P D vwCl [(h0, .inr (8, [.ref q543, .int wp542])), (q543, .inl (y 1, 12, .inr (.inl (fun _ => 0))))] H) (hD : va_D A [(h0, .inr (8, [.ref q543, .int wp542])), (q543, .inl (y 1, 12, .inr (.inl (fun _ => 0))))]) hS => ?_
  exact g_vret hx hb hr hlocks q543 hP hD hS trivial (Nat.le_of_ble_eq_true rfl) (Nat.le_of_ble_eq_true rfl) dX8_init_19
theorem ggI_RX7_26_X8_init : GoodIn wsL_law ([] ++ (Cond.code yX8_init cX8_init 2 none :: wsL_law)) := g_gi (fun _ h => h) gW_good (fun _ h => nomatch h) ⟨gw_96, rfl⟩
set_option maxRecDepth 100000 in
set_option maxHeartbeats 4000000 in
theorem k_X3_init_1 (l : Launch) (D : va_G) (y : Nat → ClassId) (aS : Nat → Nat) (sz : Nat) (h0 : Nat) (wp556 : Int32) (wp557 : Int32) (wp558 : Int64) (wp559 : Int32) (wp560 : Int32) (wp561 : Int32) (wp562 : Int32) (wp563 : Int32) (wp564 : Int32) : Met l yX3_init (Cond.code yX3_init cX3_init 2 none :: wsL_law) ({ frames := 2, cells := 2, slots := 26, locals := 33 } : Room) (va_Pc [.ref h0, .int 0] (gI D y aS [(h0, .inr (3, [.int wp556, .null, .int wp557, .long wp558, .int wp559, .int wp560, .int wp561, .int wp562, .int wp563, .int wp564]))] sz)) (va_Qv (fun (u : Nat × Nat) => True) (fun u => gO D (va_A [(h0, .inr (3, [.int wp556, .null, .int wp557, .long wp558, .int wp559, .int wp560, .int wp561, .int wp562, .int wp563, .int wp564]))] sz) [(h0, .inr (3, [.int 0, .ref u.1, .int wp557, .long wp558, .int wp559, .int wp560, .int wp561, .int wp562, .int wp563, .int wp564])), (u.1, .inr (8, [.ref u.2, .int 0])), (u.2, .inl (y 1, 24, .inr (.inl (fun _ => 0))))]) (va_A [(h0, .inr (3, [.int wp556, .null, .int wp557, .long wp558, .int wp559, .int wp560, .int wp561, .int wp562, .int wp563, .int wp564]))] sz)) 2 26 (va_A [(h0, .inr (3, [.int wp556, .null, .int wp557, .long wp558, .int wp559, .int wp560, .int wp561, .int wp562, .int wp563, .int wp564]))] sz) := by
  refine g_of (by decide) (Nat.le_of_ble_eq_true rfl) ?_
  intro p e s m below meth c ls A hx hb hr hml hown hg hlocks hin hsz hK hP hD hS hA hAe hl
  rw [← hAe]
  replace hown : s.vm.findClass RX3 = some m.cls := hown
  replace hin : meth.name = "<init>" := hin
  replace hl : lv_has ls 2 [(0, .ref h0), (1, .int 0)] := hl
  refine lv_aload_n hx hb dX3_init_0 rfl (lv_at hl 0 rfl) ?_
  refine W.objInit hx hb hown (hg _ gw_90) (hg _ gw_11) (hg _ gw_12) rfl (by rw [hml]; exact hl.1) rfl dX3_init_1 (Nat.le_of_ble_eq_true rfl) (Nat.le_of_ble_eq_true rfl) ?_
  refine W.eq (g2 := F0 m 4 ls []) rfl ?_
  refine lv_aload_n hx hb dX3_init_4 rfl (lv_at hl 0 rfl) ?_
  refine va_new (ci := 8) (fs := [.null, .int 0]) (C := RX8) (T := TX8) (N := 2) hx hb hg inlX8 tyX8 tyX8_ok hown (hg _ gw_91) (hg _ gw_47) (hg _ gw_48) hK.1 hP hD hS hA rfl dfX8 (Nat.le_of_ble_eq_true rfl) (Nat.le_of_ble_eq_true rfl) dX3_init_5 ?_
  clear hP hD hS
  refine fun q565 H (hP : va_P D vwCl [(h0, .inr (3, [.int wp556, .null, .int wp557, .long wp558, .int wp559, .int wp560, .int wp561, .int wp562, .int wp563, .int wp564])), (q565, .inr (8, [.null, .int 0]))] H) (hD : va_D A [(h0, .inr (3, [.int wp556, .null, .int wp557, .long wp558, .int wp559, .int wp560, .int wp561, .int wp562, .int wp563, .int wp564])), (q565, .inr (8, [.null, .int 0]))]) hS => ?_
  refine lv_dup hx hb dX3_init_8 rfl ?_
  refine lv_bipush (v := 24) hx hb dX3_init_9 (by decide +kernel) ?_
  refine g_av (wr := [(h0, .inr (3, [.int wp556, .null, .int wp557, .long wp558, .int wp559, .int wp560, .int wp561, .int wp562, .int wp563, .int wp564]))]) (va_runI (As := [.int 24]) (rest := [.ref q565, .ref h0]) ⟨hx, hb, hml, hown, hg⟩ (k_X8_init_8 l D y aS H.size q565 0) (cwI 1 hg ggI_RX3_11_X8_init rfl rfl rfl (hg _ gw_48) (hg _ gw_94) (hg _ gw_95) rfl (by decide +kernel) ⟨Nat.le_of_ble_eq_true rfl, Nat.le_of_ble_eq_true rfl⟩) (g_preS hK hP hD [1] rfl (by decide)) rfl rfl hl.1 rfl (lv_room (Nat.le_of_ble_eq_true rfl)) dX3_init_11 ⟨Nat.le_of_ble_eq_true rfl, Nat.le_of_ble_eq_true rfl⟩) hP hD hS hA [1] [0] rfl rfl (by decide) (by decide) ?_
  clear hP hD hS H
  refine fun u H locs hq hP hD hS => ?_
  obtain ⟨ca0567, rfl⟩ : ∃ z9, z9 = u := ⟨_, rfl⟩
  replace hP : va_P D vwCl [(h0, .inr (3, [.int wp556, .null, .int wp557, .long wp558, .int wp559, .int wp560, .int wp561, .int wp562, .int wp563, .int wp564])), (q565, .inr (8, [.ref ca0567, .int 0])), (ca0567, .inl (y 1, 24, .inr (.inl (fun _ => 0))))] H := hP
  replace hD : va_D A [(h0, .inr (3, [.int wp556, .null, .int wp557, .long wp558, .int wp559, .int wp560, .int wp561, .int wp562, .int wp563, .int wp564])), (q565, .inr (8, [.ref ca0567, .int 0])), (ca0567, .inl (y 1, 24, .inr (.inl (fun _ => 0))))] := hD
  refine gm_putF (D := D) (ci := 3) (v := .ref q565) (ty := .object "Greentrunk$Row") (C := RX3) (T := TX3) (N := 10) hx hb hg inlX3 tyX3 tyX3_ok nmX3 hown hK.1 hP hD hS 0 rfl rfl 1 (by decide) tX3_1 (hg _ gw_92) hin rfl (by decide +kernel) rfl rfl (Nat.le_of_ble_eq_true rfl) dX3_init_14 ?_
  clear hP hD hS H locs
  refine fun H locs (hP : va_P D vwCl [(h0, .inr (3, [.int wp556, .ref q565, .int wp557, .long wp558, .int wp559, .int wp560, .int wp561, .int wp562, .int wp563, .int wp564])), (q565, .inr (8, [.ref ca0567, .int 0])), (ca0567, .inl (y 1, 24, .inr (.inl (fun _ => 0))))] H) (hD : va_D A [(h0, .inr (3, [.int wp556, .ref q565, .int wp557, .long wp558, .int wp559, .int wp560, .int wp561, .int wp562, .int wp563, .int wp564])), (q565, .inr (8, [.ref ca0567, .int 0])), (ca0567, .inl (y 1, 24, .inr (.inl (fun _ => 0))))]) hS => ?_
  refine lv_aload_n hx hb dX3_init_17 rfl (lv_at hl 0 rfl) ?_
  refine lv_iload_n hx hb dX3_init_18 rfl (lv_at hl 1 rfl) ?_
  refine gm_putF (D := D) (ci := 3) (v := .int 0) (ty := .int) (C := RX3) (T := TX3) (N := 10) hx hb hg inlX3 tyX3 tyX3_ok nmX3 hown hK.1 hP hD hS 0 rfl rfl 0 (by decide) tX3_0 (hg _ gw_93) hin rfl (by decide +kernel) rfl rfl (Nat.le_of_ble_eq_true rfl) dX3_init_19 ?_
  clear hP hD hS H locs
  refine fun H locs (hP : va_P D vwCl [(h0, .inr (3, [.int 0, .ref q565, .int wp557, .long wp558, .int wp559, .int wp560, .int wp561, .int wp562, .int wp563, .int wp564])), (q565, .inr (8, [.ref ca0567, .int 0])), (ca0567, .inl (y 1, 24, .inr (.inl (fun _ => 0))))] H) (hD : va_D A [(h0, .inr (3, [.int 0, .ref q565, .int wp557, .long wp558, .int wp559, .int wp560, .int wp561, .int wp562, .int wp563, .int wp564])), (q565, .inr (8, [.ref ca0567, .int 0])), (ca0567, .inl (y 1, 24, .inr (.inl (fun _ => 0))))]) hS => ?_
  exact g_vret hx hb hr hlocks ⟨q565, ca0567⟩ hP hD hS trivial (Nat.le_of_ble_eq_true rfl) (Nat.le_of_ble_eq_true rfl) dX3_init_22
set_option maxRecDepth 100000 in
set_option maxHeartbeats 4000000 in
theorem k_X3_init_2 (l : Launch) (D : va_G) (y : Nat → ClassId) (aS : Nat → Nat) (sz : Nat) (h0 : Nat) (wp575 : Int32) (wp576 : Int32) (wp577 : Int64) (wp578 : Int32) (wp579 : Int32) (wp580 : Int32) (wp581 : Int32) (wp582 : Int32) (wp583 : Int32) : Met l yX3_init (Cond.code yX3_init cX3_init 2 none :: wsL_law) ({ frames := 2, cells := 2, slots := 26, locals := 33 } : Room) (va_Pc [.ref h0, .int 1] (gI D y aS [(h0, .inr (3, [.int wp575, .null, .int wp576, .long wp577, .int wp578, .int wp579, .int wp580, .int wp581, .int wp582, .int wp583]))] sz)) (va_Qv (fun (u : Nat × Nat) => True) (fun u => gO D (va_A [(h0, .inr (3, [.int wp575, .null, .int wp576, .long wp577, .int wp578, .int wp579, .int wp580, .int wp581, .int wp582, .int wp583]))] sz) [(h0, .inr (3, [.int 1, .ref u.1, .int wp576, .long wp577, .int wp578, .int wp579, .int wp580, .int wp581, .int wp582, .int wp583])), (u.1, .inr (8, [.ref u.2, .int 0])), (u.2, .inl (y 1, 24, .inr (.inl (fun _ => 0))))]) (va_A [(h0, .inr (3, [.int wp575, .null, .int wp576, .long wp577, .int wp578, .int wp579, .int wp580, .int wp581, .int wp582, .int wp583]))] sz)) 2 26 (va_A [(h0, .inr (3, [.int wp575, .null, .int wp576, .long wp577, .int wp578, .int wp579, .int wp580, .int wp581, .int wp582, .int wp583]))] sz) := by
  refine g_of (by decide) (Nat.le_of_ble_eq_true rfl) ?_
  intro p e s m below meth c ls A hx hb hr hml hown hg hlocks hin hsz hK hP hD hS hA hAe hl
  rw [← hAe]
  replace hown : s.vm.findClass RX3 = some m.cls := hown
  replace hin : meth.name = "<init>" := hin
  replace hl : lv_has ls 2 [(0, .ref h0), (1, .int 1)] := hl
  refine lv_aload_n hx hb dX3_init_0 rfl (lv_at hl 0 rfl) ?_
  refine W.objInit hx hb hown (hg _ gw_90) (hg _ gw_11) (hg _ gw_12) rfl (by rw [hml]; exact hl.1) rfl dX3_init_1 (Nat.le_of_ble_eq_true rfl) (Nat.le_of_ble_eq_true rfl) ?_
  refine W.eq (g2 := F0 m 4 ls []) rfl ?_
  refine lv_aload_n hx hb dX3_init_4 rfl (lv_at hl 0 rfl) ?_
  refine va_new (ci := 8) (fs := [.null, .int 0]) (C := RX8) (T := TX8) (N := 2) hx hb hg inlX8 tyX8 tyX8_ok hown (hg _ gw_91) (hg _ gw_47) (hg _ gw_48) hK.1 hP hD hS hA rfl dfX8 (Nat.le_of_ble_eq_true rfl) (Nat.le_of_ble_eq_true rfl) dX3_init_5 ?_
  clear hP hD hS
  refine fun q584 H (hP : va_P D vwCl [(h0, .inr (3, [.int wp575, .null, .int wp576, .long wp577, .int wp578, .int wp579, .int wp580, .int wp581, .int wp582, .int wp583])), (q584, .inr (8, [.null, .int 0]))] H) (hD : va_D A [(h0, .inr (3, [.int wp575, .null, .int wp576, .long wp577, .int wp578, .int wp579, .int wp580, .int wp581, .int wp582, .int wp583])), (q584, .inr (8, [.null, .int 0]))]) hS => ?_
  refine lv_dup hx hb dX3_init_8 rfl ?_
  refine lv_bipush (v := 24) hx hb dX3_init_9 (by decide +kernel) ?_
  refine g_av (wr := [(h0, .inr (3, [.int wp575, .null, .int wp576, .long wp577, .int wp578, .int wp579, .int wp580, .int wp581, .int wp582, .int wp583]))]) (va_runI (As := [.int 24]) (rest := [.ref q584, .ref h0]) ⟨hx, hb, hml, hown, hg⟩ (k_X8_init_8 l D y aS H.size q584 0) (cwI 1 hg ggI_RX3_11_X8_init rfl rfl rfl (hg _ gw_48) (hg _ gw_94) (hg _ gw_95) rfl (by decide +kernel) ⟨Nat.le_of_ble_eq_true rfl, Nat.le_of_ble_eq_true rfl⟩) (g_preS hK hP hD [1] rfl (by decide)) rfl rfl hl.1 rfl (lv_room (Nat.le_of_ble_eq_true rfl)) dX3_init_11 ⟨Nat.le_of_ble_eq_true rfl, Nat.le_of_ble_eq_true rfl⟩) hP hD hS hA [1] [0] rfl rfl (by decide) (by decide) ?_
  clear hP hD hS H
  refine fun u H locs hq hP hD hS => ?_
  obtain ⟨ca0586, rfl⟩ : ∃ z9, z9 = u := ⟨_, rfl⟩
  replace hP : va_P D vwCl [(h0, .inr (3, [.int wp575, .null, .int wp576, .long wp577, .int wp578, .int wp579, .int wp580, .int wp581, .int wp582, .int wp583])), (q584, .inr (8, [.ref ca0586, .int 0])), (ca0586, .inl (y 1, 24, .inr (.inl (fun _ => 0))))] H := hP
  replace hD : va_D A [(h0, .inr (3, [.int wp575, .null, .int wp576, .long wp577, .int wp578, .int wp579, .int wp580, .int wp581, .int wp582, .int wp583])), (q584, .inr (8, [.ref ca0586, .int 0])), (ca0586, .inl (y 1, 24, .inr (.inl (fun _ => 0))))] := hD
  refine gm_putF (D := D) (ci := 3) (v := .ref q584) (ty := .object "Greentrunk$Row") (C := RX3) (T := TX3) (N := 10) hx hb hg inlX3 tyX3 tyX3_ok nmX3 hown hK.1 hP hD hS 0 rfl rfl 1 (by decide) tX3_1 (hg _ gw_92) hin rfl (by decide +kernel) rfl rfl (Nat.le_of_ble_eq_true rfl) dX3_init_14 ?_
  clear hP hD hS H locs
  refine fun H locs (hP : va_P D vwCl [(h0, .inr (3, [.int wp575, .ref q584, .int wp576, .long wp577, .int wp578, .int wp579, .int wp580, .int wp581, .int wp582, .int wp583])), (q584, .inr (8, [.ref ca0586, .int 0])), (ca0586, .inl (y 1, 24, .inr (.inl (fun _ => 0))))] H) (hD : va_D A [(h0, .inr (3, [.int wp575, .ref q584, .int wp576, .long wp577, .int wp578, .int wp579, .int wp580, .int wp581, .int wp582, .int wp583])), (q584, .inr (8, [.ref ca0586, .int 0])), (ca0586, .inl (y 1, 24, .inr (.inl (fun _ => 0))))]) hS => ?_
  refine lv_aload_n hx hb dX3_init_17 rfl (lv_at hl 0 rfl) ?_
  refine lv_iload_n hx hb dX3_init_18 rfl (lv_at hl 1 rfl) ?_
  refine gm_putF (D := D) (ci := 3) (v := .int 1) (ty := .int) (C := RX3) (T := TX3) (N := 10) hx hb hg inlX3 tyX3 tyX3_ok nmX3 hown hK.1 hP hD hS 0 rfl rfl 0 (by decide) tX3_0 (hg _ gw_93) hin rfl (by decide +kernel) rfl rfl (Nat.le_of_ble_eq_true rfl) dX3_init_19 ?_
  clear hP hD hS H locs
  refine fun H locs (hP : va_P D vwCl [(h0, .inr (3, [.int 1, .ref q584, .int wp576, .long wp577, .int wp578, .int wp579, .int wp580, .int wp581, .int wp582, .int wp583])), (q584, .inr (8, [.ref ca0586, .int 0])), (ca0586, .inl (y 1, 24, .inr (.inl (fun _ => 0))))] H) (hD : va_D A [(h0, .inr (3, [.int 1, .ref q584, .int wp576, .long wp577, .int wp578, .int wp579, .int wp580, .int wp581, .int wp582, .int wp583])), (q584, .inr (8, [.ref ca0586, .int 0])), (ca0586, .inl (y 1, 24, .inr (.inl (fun _ => 0))))]) hS => ?_
  exact g_vret hx hb hr hlocks ⟨q584, ca0586⟩ hP hD hS trivial (Nat.le_of_ble_eq_true rfl) (Nat.le_of_ble_eq_true rfl) dX3_init_22
set_option maxRecDepth 100000 in
set_option maxHeartbeats 4000000 in
theorem k_X3_init_3 (l : Launch) (D : va_G) (y : Nat → ClassId) (aS : Nat → Nat) (sz : Nat) (h0 : Nat) (wp594 : Int32) (wp595 : Int32) (wp596 : Int64) (wp597 : Int32) (wp598 : Int32) (wp599 : Int32) (wp600 : Int32) (wp601 : Int32) (wp602 : Int32) : Met l yX3_init (Cond.code yX3_init cX3_init 2 none :: wsL_law) ({ frames := 2, cells := 2, slots := 26, locals := 33 } : Room) (va_Pc [.ref h0, .int 2] (gI D y aS [(h0, .inr (3, [.int wp594, .null, .int wp595, .long wp596, .int wp597, .int wp598, .int wp599, .int wp600, .int wp601, .int wp602]))] sz)) (va_Qv (fun (u : Nat × Nat) => True) (fun u => gO D (va_A [(h0, .inr (3, [.int wp594, .null, .int wp595, .long wp596, .int wp597, .int wp598, .int wp599, .int wp600, .int wp601, .int wp602]))] sz) [(h0, .inr (3, [.int 2, .ref u.1, .int wp595, .long wp596, .int wp597, .int wp598, .int wp599, .int wp600, .int wp601, .int wp602])), (u.1, .inr (8, [.ref u.2, .int 0])), (u.2, .inl (y 1, 24, .inr (.inl (fun _ => 0))))]) (va_A [(h0, .inr (3, [.int wp594, .null, .int wp595, .long wp596, .int wp597, .int wp598, .int wp599, .int wp600, .int wp601, .int wp602]))] sz)) 2 26 (va_A [(h0, .inr (3, [.int wp594, .null, .int wp595, .long wp596, .int wp597, .int wp598, .int wp599, .int wp600, .int wp601, .int wp602]))] sz) := by
  refine g_of (by decide) (Nat.le_of_ble_eq_true rfl) ?_
  intro p e s m below meth c ls A hx hb hr hml hown hg hlocks hin hsz hK hP hD hS hA hAe hl
  rw [← hAe]
  replace hown : s.vm.findClass RX3 = some m.cls := hown
  replace hin : meth.name = "<init>" := hin
  replace hl : lv_has ls 2 [(0, .ref h0), (1, .int 2)] := hl
  refine lv_aload_n hx hb dX3_init_0 rfl (lv_at hl 0 rfl) ?_
  refine W.objInit hx hb hown (hg _ gw_90) (hg _ gw_11) (hg _ gw_12) rfl (by rw [hml]; exact hl.1) rfl dX3_init_1 (Nat.le_of_ble_eq_true rfl) (Nat.le_of_ble_eq_true rfl) ?_
  refine W.eq (g2 := F0 m 4 ls []) rfl ?_
  refine lv_aload_n hx hb dX3_init_4 rfl (lv_at hl 0 rfl) ?_
  refine va_new (ci := 8) (fs := [.null, .int 0]) (C := RX8) (T := TX8) (N := 2) hx hb hg inlX8 tyX8 tyX8_ok hown (hg _ gw_91) (hg _ gw_47) (hg _ gw_48) hK.1 hP hD hS hA rfl dfX8 (Nat.le_of_ble_eq_true rfl) (Nat.le_of_ble_eq_true rfl) dX3_init_5 ?_
  clear hP hD hS
  refine fun q603 H (hP : va_P D vwCl [(h0, .inr (3, [.int wp594, .null, .int wp595, .long wp596, .int wp597, .int wp598, .int wp599, .int wp600, .int wp601, .int wp602])), (q603, .inr (8, [.null, .int 0]))] H) (hD : va_D A [(h0, .inr (3, [.int wp594, .null, .int wp595, .long wp596, .int wp597, .int wp598, .int wp599, .int wp600, .int wp601, .int wp602])), (q603, .inr (8, [.null, .int 0]))]) hS => ?_
  refine lv_dup hx hb dX3_init_8 rfl ?_
  refine lv_bipush (v := 24) hx hb dX3_init_9 (by decide +kernel) ?_
  refine g_av (wr := [(h0, .inr (3, [.int wp594, .null, .int wp595, .long wp596, .int wp597, .int wp598, .int wp599, .int wp600, .int wp601, .int wp602]))]) (va_runI (As := [.int 24]) (rest := [.ref q603, .ref h0]) ⟨hx, hb, hml, hown, hg⟩ (k_X8_init_8 l D y aS H.size q603 0) (cwI 1 hg ggI_RX3_11_X8_init rfl rfl rfl (hg _ gw_48) (hg _ gw_94) (hg _ gw_95) rfl (by decide +kernel) ⟨Nat.le_of_ble_eq_true rfl, Nat.le_of_ble_eq_true rfl⟩) (g_preS hK hP hD [1] rfl (by decide)) rfl rfl hl.1 rfl (lv_room (Nat.le_of_ble_eq_true rfl)) dX3_init_11 ⟨Nat.le_of_ble_eq_true rfl, Nat.le_of_ble_eq_true rfl⟩) hP hD hS hA [1] [0] rfl rfl (by decide) (by decide) ?_
  clear hP hD hS H
  refine fun u H locs hq hP hD hS => ?_
  obtain ⟨ca0605, rfl⟩ : ∃ z9, z9 = u := ⟨_, rfl⟩
  replace hP : va_P D vwCl [(h0, .inr (3, [.int wp594, .null, .int wp595, .long wp596, .int wp597, .int wp598, .int wp599, .int wp600, .int wp601, .int wp602])), (q603, .inr (8, [.ref ca0605, .int 0])), (ca0605, .inl (y 1, 24, .inr (.inl (fun _ => 0))))] H := hP
  replace hD : va_D A [(h0, .inr (3, [.int wp594, .null, .int wp595, .long wp596, .int wp597, .int wp598, .int wp599, .int wp600, .int wp601, .int wp602])), (q603, .inr (8, [.ref ca0605, .int 0])), (ca0605, .inl (y 1, 24, .inr (.inl (fun _ => 0))))] := hD
  refine gm_putF (D := D) (ci := 3) (v := .ref q603) (ty := .object "Greentrunk$Row") (C := RX3) (T := TX3) (N := 10) hx hb hg inlX3 tyX3 tyX3_ok nmX3 hown hK.1 hP hD hS 0 rfl rfl 1 (by decide) tX3_1 (hg _ gw_92) hin rfl (by decide +kernel) rfl rfl (Nat.le_of_ble_eq_true rfl) dX3_init_14 ?_
  clear hP hD hS H locs
  refine fun H locs (hP : va_P D vwCl [(h0, .inr (3, [.int wp594, .ref q603, .int wp595, .long wp596, .int wp597, .int wp598, .int wp599, .int wp600, .int wp601, .int wp602])), (q603, .inr (8, [.ref ca0605, .int 0])), (ca0605, .inl (y 1, 24, .inr (.inl (fun _ => 0))))] H) (hD : va_D A [(h0, .inr (3, [.int wp594, .ref q603, .int wp595, .long wp596, .int wp597, .int wp598, .int wp599, .int wp600, .int wp601, .int wp602])), (q603, .inr (8, [.ref ca0605, .int 0])), (ca0605, .inl (y 1, 24, .inr (.inl (fun _ => 0))))]) hS => ?_
  refine lv_aload_n hx hb dX3_init_17 rfl (lv_at hl 0 rfl) ?_
  refine lv_iload_n hx hb dX3_init_18 rfl (lv_at hl 1 rfl) ?_
  refine gm_putF (D := D) (ci := 3) (v := .int 2) (ty := .int) (C := RX3) (T := TX3) (N := 10) hx hb hg inlX3 tyX3 tyX3_ok nmX3 hown hK.1 hP hD hS 0 rfl rfl 0 (by decide) tX3_0 (hg _ gw_93) hin rfl (by decide +kernel) rfl rfl (Nat.le_of_ble_eq_true rfl) dX3_init_19 ?_
  clear hP hD hS H locs
  refine fun H locs (hP : va_P D vwCl [(h0, .inr (3, [.int 2, .ref q603, .int wp595, .long wp596, .int wp597, .int wp598, .int wp599, .int wp600, .int wp601, .int wp602])), (q603, .inr (8, [.ref ca0605, .int 0])), (ca0605, .inl (y 1, 24, .inr (.inl (fun _ => 0))))] H) (hD : va_D A [(h0, .inr (3, [.int 2, .ref q603, .int wp595, .long wp596, .int wp597, .int wp598, .int wp599, .int wp600, .int wp601, .int wp602])), (q603, .inr (8, [.ref ca0605, .int 0])), (ca0605, .inl (y 1, 24, .inr (.inl (fun _ => 0))))]) hS => ?_
  exact g_vret hx hb hr hlocks ⟨q603, ca0605⟩ hP hD hS trivial (Nat.le_of_ble_eq_true rfl) (Nat.le_of_ble_eq_true rfl) dX3_init_22
set_option maxRecDepth 100000 in
set_option maxHeartbeats 4000000 in
theorem k_X3_init_4 (l : Launch) (D : va_G) (y : Nat → ClassId) (aS : Nat → Nat) (sz : Nat) (h0 : Nat) (wp613 : Int32) (wp614 : Int32) (wp615 : Int64) (wp616 : Int32) (wp617 : Int32) (wp618 : Int32) (wp619 : Int32) (wp620 : Int32) (wp621 : Int32) : Met l yX3_init (Cond.code yX3_init cX3_init 2 none :: wsL_law) ({ frames := 2, cells := 2, slots := 26, locals := 33 } : Room) (va_Pc [.ref h0, .int 3] (gI D y aS [(h0, .inr (3, [.int wp613, .null, .int wp614, .long wp615, .int wp616, .int wp617, .int wp618, .int wp619, .int wp620, .int wp621]))] sz)) (va_Qv (fun (u : Nat × Nat) => True) (fun u => gO D (va_A [(h0, .inr (3, [.int wp613, .null, .int wp614, .long wp615, .int wp616, .int wp617, .int wp618, .int wp619, .int wp620, .int wp621]))] sz) [(h0, .inr (3, [.int 3, .ref u.1, .int wp614, .long wp615, .int wp616, .int wp617, .int wp618, .int wp619, .int wp620, .int wp621])), (u.1, .inr (8, [.ref u.2, .int 0])), (u.2, .inl (y 1, 24, .inr (.inl (fun _ => 0))))]) (va_A [(h0, .inr (3, [.int wp613, .null, .int wp614, .long wp615, .int wp616, .int wp617, .int wp618, .int wp619, .int wp620, .int wp621]))] sz)) 2 26 (va_A [(h0, .inr (3, [.int wp613, .null, .int wp614, .long wp615, .int wp616, .int wp617, .int wp618, .int wp619, .int wp620, .int wp621]))] sz) := by
  refine g_of (by decide) (Nat.le_of_ble_eq_true rfl) ?_
  intro p e s m below meth c ls A hx hb hr hml hown hg hlocks hin hsz hK hP hD hS hA hAe hl
  rw [← hAe]
  replace hown : s.vm.findClass RX3 = some m.cls := hown
  replace hin : meth.name = "<init>" := hin
  replace hl : lv_has ls 2 [(0, .ref h0), (1, .int 3)] := hl
  refine lv_aload_n hx hb dX3_init_0 rfl (lv_at hl 0 rfl) ?_
  refine W.objInit hx hb hown (hg _ gw_90) (hg _ gw_11) (hg _ gw_12) rfl (by rw [hml]; exact hl.1) rfl dX3_init_1 (Nat.le_of_ble_eq_true rfl) (Nat.le_of_ble_eq_true rfl) ?_
  refine W.eq (g2 := F0 m 4 ls []) rfl ?_
  refine lv_aload_n hx hb dX3_init_4 rfl (lv_at hl 0 rfl) ?_
  refine va_new (ci := 8) (fs := [.null, .int 0]) (C := RX8) (T := TX8) (N := 2) hx hb hg inlX8 tyX8 tyX8_ok hown (hg _ gw_91) (hg _ gw_47) (hg _ gw_48) hK.1 hP hD hS hA rfl dfX8 (Nat.le_of_ble_eq_true rfl) (Nat.le_of_ble_eq_true rfl) dX3_init_5 ?_
  clear hP hD hS
  refine fun q622 H (hP : va_P D vwCl [(h0, .inr (3, [.int wp613, .null, .int wp614, .long wp615, .int wp616, .int wp617, .int wp618, .int wp619, .int wp620, .int wp621])), (q622, .inr (8, [.null, .int 0]))] H) (hD : va_D A [(h0, .inr (3, [.int wp613, .null, .int wp614, .long wp615, .int wp616, .int wp617, .int wp618, .int wp619, .int wp620, .int wp621])), (q622, .inr (8, [.null, .int 0]))]) hS => ?_
  refine lv_dup hx hb dX3_init_8 rfl ?_
  refine lv_bipush (v := 24) hx hb dX3_init_9 (by decide +kernel) ?_
  refine g_av (wr := [(h0, .inr (3, [.int wp613, .null, .int wp614, .long wp615, .int wp616, .int wp617, .int wp618, .int wp619, .int wp620, .int wp621]))]) (va_runI (As := [.int 24]) (rest := [.ref q622, .ref h0]) ⟨hx, hb, hml, hown, hg⟩ (k_X8_init_8 l D y aS H.size q622 0) (cwI 1 hg ggI_RX3_11_X8_init rfl rfl rfl (hg _ gw_48) (hg _ gw_94) (hg _ gw_95) rfl (by decide +kernel) ⟨Nat.le_of_ble_eq_true rfl, Nat.le_of_ble_eq_true rfl⟩) (g_preS hK hP hD [1] rfl (by decide)) rfl rfl hl.1 rfl (lv_room (Nat.le_of_ble_eq_true rfl)) dX3_init_11 ⟨Nat.le_of_ble_eq_true rfl, Nat.le_of_ble_eq_true rfl⟩) hP hD hS hA [1] [0] rfl rfl (by decide) (by decide) ?_
  clear hP hD hS H
  refine fun u H locs hq hP hD hS => ?_
  obtain ⟨ca0624, rfl⟩ : ∃ z9, z9 = u := ⟨_, rfl⟩
  replace hP : va_P D vwCl [(h0, .inr (3, [.int wp613, .null, .int wp614, .long wp615, .int wp616, .int wp617, .int wp618, .int wp619, .int wp620, .int wp621])), (q622, .inr (8, [.ref ca0624, .int 0])), (ca0624, .inl (y 1, 24, .inr (.inl (fun _ => 0))))] H := hP
  replace hD : va_D A [(h0, .inr (3, [.int wp613, .null, .int wp614, .long wp615, .int wp616, .int wp617, .int wp618, .int wp619, .int wp620, .int wp621])), (q622, .inr (8, [.ref ca0624, .int 0])), (ca0624, .inl (y 1, 24, .inr (.inl (fun _ => 0))))] := hD
  refine gm_putF (D := D) (ci := 3) (v := .ref q622) (ty := .object "Greentrunk$Row") (C := RX3) (T := TX3) (N := 10) hx hb hg inlX3 tyX3 tyX3_ok nmX3 hown hK.1 hP hD hS 0 rfl rfl 1 (by decide) tX3_1 (hg _ gw_92) hin rfl (by decide +kernel) rfl rfl (Nat.le_of_ble_eq_true rfl) dX3_init_14 ?_
  clear hP hD hS H locs
  refine fun H locs (hP : va_P D vwCl [(h0, .inr (3, [.int wp613, .ref q622, .int wp614, .long wp615, .int wp616, .int wp617, .int wp618, .int wp619, .int wp620, .int wp621])), (q622, .inr (8, [.ref ca0624, .int 0])), (ca0624, .inl (y 1, 24, .inr (.inl (fun _ => 0))))] H) (hD : va_D A [(h0, .inr (3, [.int wp613, .ref q622, .int wp614, .long wp615, .int wp616, .int wp617, .int wp618, .int wp619, .int wp620, .int wp621])), (q622, .inr (8, [.ref ca0624, .int 0])), (ca0624, .inl (y 1, 24, .inr (.inl (fun _ => 0))))]) hS => ?_
  refine lv_aload_n hx hb dX3_init_17 rfl (lv_at hl 0 rfl) ?_
  refine lv_iload_n hx hb dX3_init_18 rfl (lv_at hl 1 rfl) ?_
  refine gm_putF (D := D) (ci := 3) (v := .int 3) (ty := .int) (C := RX3) (T := TX3) (N := 10) hx hb hg inlX3 tyX3 tyX3_ok nmX3 hown hK.1 hP hD hS 0 rfl rfl 0 (by decide) tX3_0 (hg _ gw_93) hin rfl (by decide +kernel) rfl rfl (Nat.le_of_ble_eq_true rfl) dX3_init_19 ?_
  clear hP hD hS H locs
  refine fun H locs (hP : va_P D vwCl [(h0, .inr (3, [.int 3, .ref q622, .int wp614, .long wp615, .int wp616, .int wp617, .int wp618, .int wp619, .int wp620, .int wp621])), (q622, .inr (8, [.ref ca0624, .int 0])), (ca0624, .inl (y 1, 24, .inr (.inl (fun _ => 0))))] H) (hD : va_D A [(h0, .inr (3, [.int 3, .ref q622, .int wp614, .long wp615, .int wp616, .int wp617, .int wp618, .int wp619, .int wp620, .int wp621])), (q622, .inr (8, [.ref ca0624, .int 0])), (ca0624, .inl (y 1, 24, .inr (.inl (fun _ => 0))))]) hS => ?_
  exact g_vret hx hb hr hlocks ⟨q622, ca0624⟩ hP hD hS trivial (Nat.le_of_ble_eq_true rfl) (Nat.le_of_ble_eq_true rfl) dX3_init_22
set_option maxRecDepth 100000 in
set_option maxHeartbeats 4000000 in
theorem k_X3_init_5 (l : Launch) (D : va_G) (y : Nat → ClassId) (aS : Nat → Nat) (sz : Nat) (h0 : Nat) (wp632 : Int32) (wp633 : Int32) (wp634 : Int64) (wp635 : Int32) (wp636 : Int32) (wp637 : Int32) (wp638 : Int32) (wp639 : Int32) (wp640 : Int32) : Met l yX3_init (Cond.code yX3_init cX3_init 2 none :: wsL_law) ({ frames := 2, cells := 2, slots := 26, locals := 33 } : Room) (va_Pc [.ref h0, .int 4] (gI D y aS [(h0, .inr (3, [.int wp632, .null, .int wp633, .long wp634, .int wp635, .int wp636, .int wp637, .int wp638, .int wp639, .int wp640]))] sz)) (va_Qv (fun (u : Nat × Nat) => True) (fun u => gO D (va_A [(h0, .inr (3, [.int wp632, .null, .int wp633, .long wp634, .int wp635, .int wp636, .int wp637, .int wp638, .int wp639, .int wp640]))] sz) [(h0, .inr (3, [.int 4, .ref u.1, .int wp633, .long wp634, .int wp635, .int wp636, .int wp637, .int wp638, .int wp639, .int wp640])), (u.1, .inr (8, [.ref u.2, .int 0])), (u.2, .inl (y 1, 24, .inr (.inl (fun _ => 0))))]) (va_A [(h0, .inr (3, [.int wp632, .null, .int wp633, .long wp634, .int wp635, .int wp636, .int wp637, .int wp638, .int wp639, .int wp640]))] sz)) 2 26 (va_A [(h0, .inr (3, [.int wp632, .null, .int wp633, .long wp634, .int wp635, .int wp636, .int wp637, .int wp638, .int wp639, .int wp640]))] sz) := by
  refine g_of (by decide) (Nat.le_of_ble_eq_true rfl) ?_
  intro p e s m below meth c ls A hx hb hr hml hown hg hlocks hin hsz hK hP hD hS hA hAe hl
  rw [← hAe]
  replace hown : s.vm.findClass RX3 = some m.cls := hown
  replace hin : meth.name = "<init>" := hin
  replace hl : lv_has ls 2 [(0, .ref h0), (1, .int 4)] := hl
  refine lv_aload_n hx hb dX3_init_0 rfl (lv_at hl 0 rfl) ?_
  refine W.objInit hx hb hown (hg _ gw_90) (hg _ gw_11) (hg _ gw_12) rfl (by rw [hml]; exact hl.1) rfl dX3_init_1 (Nat.le_of_ble_eq_true rfl) (Nat.le_of_ble_eq_true rfl) ?_
  refine W.eq (g2 := F0 m 4 ls []) rfl ?_
  refine lv_aload_n hx hb dX3_init_4 rfl (lv_at hl 0 rfl) ?_
  refine va_new (ci := 8) (fs := [.null, .int 0]) (C := RX8) (T := TX8) (N := 2) hx hb hg inlX8 tyX8 tyX8_ok hown (hg _ gw_91) (hg _ gw_47) (hg _ gw_48) hK.1 hP hD hS hA rfl dfX8 (Nat.le_of_ble_eq_true rfl) (Nat.le_of_ble_eq_true rfl) dX3_init_5 ?_
  clear hP hD hS
  refine fun q641 H (hP : va_P D vwCl [(h0, .inr (3, [.int wp632, .null, .int wp633, .long wp634, .int wp635, .int wp636, .int wp637, .int wp638, .int wp639, .int wp640])), (q641, .inr (8, [.null, .int 0]))] H) (hD : va_D A [(h0, .inr (3, [.int wp632, .null, .int wp633, .long wp634, .int wp635, .int wp636, .int wp637, .int wp638, .int wp639, .int wp640])), (q641, .inr (8, [.null, .int 0]))]) hS => ?_
  refine lv_dup hx hb dX3_init_8 rfl ?_
  refine lv_bipush (v := 24) hx hb dX3_init_9 (by decide +kernel) ?_
  refine g_av (wr := [(h0, .inr (3, [.int wp632, .null, .int wp633, .long wp634, .int wp635, .int wp636, .int wp637, .int wp638, .int wp639, .int wp640]))]) (va_runI (As := [.int 24]) (rest := [.ref q641, .ref h0]) ⟨hx, hb, hml, hown, hg⟩ (k_X8_init_8 l D y aS H.size q641 0) (cwI 1 hg ggI_RX3_11_X8_init rfl rfl rfl (hg _ gw_48) (hg _ gw_94) (hg _ gw_95) rfl (by decide +kernel) ⟨Nat.le_of_ble_eq_true rfl, Nat.le_of_ble_eq_true rfl⟩) (g_preS hK hP hD [1] rfl (by decide)) rfl rfl hl.1 rfl (lv_room (Nat.le_of_ble_eq_true rfl)) dX3_init_11 ⟨Nat.le_of_ble_eq_true rfl, Nat.le_of_ble_eq_true rfl⟩) hP hD hS hA [1] [0] rfl rfl (by decide) (by decide) ?_
  clear hP hD hS H
  refine fun u H locs hq hP hD hS => ?_
  obtain ⟨ca0643, rfl⟩ : ∃ z9, z9 = u := ⟨_, rfl⟩
  replace hP : va_P D vwCl [(h0, .inr (3, [.int wp632, .null, .int wp633, .long wp634, .int wp635, .int wp636, .int wp637, .int wp638, .int wp639, .int wp640])), (q641, .inr (8, [.ref ca0643, .int 0])), (ca0643, .inl (y 1, 24, .inr (.inl (fun _ => 0))))] H := hP
  replace hD : va_D A [(h0, .inr (3, [.int wp632, .null, .int wp633, .long wp634, .int wp635, .int wp636, .int wp637, .int wp638, .int wp639, .int wp640])), (q641, .inr (8, [.ref ca0643, .int 0])), (ca0643, .inl (y 1, 24, .inr (.inl (fun _ => 0))))] := hD
  refine gm_putF (D := D) (ci := 3) (v := .ref q641) (ty := .object "Greentrunk$Row") (C := RX3) (T := TX3) (N := 10) hx hb hg inlX3 tyX3 tyX3_ok nmX3 hown hK.1 hP hD hS 0 rfl rfl 1 (by decide) tX3_1 (hg _ gw_92) hin rfl (by decide +kernel) rfl rfl (Nat.le_of_ble_eq_true rfl) dX3_init_14 ?_
  clear hP hD hS H locs
  refine fun H locs (hP : va_P D vwCl [(h0, .inr (3, [.int wp632, .ref q641, .int wp633, .long wp634, .int wp635, .int wp636, .int wp637, .int wp638, .int wp639, .int wp640])), (q641, .inr (8, [.ref ca0643, .int 0])), (ca0643, .inl (y 1, 24, .inr (.inl (fun _ => 0))))] H) (hD : va_D A [(h0, .inr (3, [.int wp632, .ref q641, .int wp633, .long wp634, .int wp635, .int wp636, .int wp637, .int wp638, .int wp639, .int wp640])), (q641, .inr (8, [.ref ca0643, .int 0])), (ca0643, .inl (y 1, 24, .inr (.inl (fun _ => 0))))]) hS => ?_
  refine lv_aload_n hx hb dX3_init_17 rfl (lv_at hl 0 rfl) ?_
  refine lv_iload_n hx hb dX3_init_18 rfl (lv_at hl 1 rfl) ?_
  refine gm_putF (D := D) (ci := 3) (v := .int 4) (ty := .int) (C := RX3) (T := TX3) (N := 10) hx hb hg inlX3 tyX3 tyX3_ok nmX3 hown hK.1 hP hD hS 0 rfl rfl 0 (by decide) tX3_0 (hg _ gw_93) hin rfl (by decide +kernel) rfl rfl (Nat.le_of_ble_eq_true rfl) dX3_init_19 ?_
  clear hP hD hS H locs
  refine fun H locs (hP : va_P D vwCl [(h0, .inr (3, [.int 4, .ref q641, .int wp633, .long wp634, .int wp635, .int wp636, .int wp637, .int wp638, .int wp639, .int wp640])), (q641, .inr (8, [.ref ca0643, .int 0])), (ca0643, .inl (y 1, 24, .inr (.inl (fun _ => 0))))] H) (hD : va_D A [(h0, .inr (3, [.int 4, .ref q641, .int wp633, .long wp634, .int wp635, .int wp636, .int wp637, .int wp638, .int wp639, .int wp640])), (q641, .inr (8, [.ref ca0643, .int 0])), (ca0643, .inl (y 1, 24, .inr (.inl (fun _ => 0))))]) hS => ?_
  exact g_vret hx hb hr hlocks ⟨q641, ca0643⟩ hP hD hS trivial (Nat.le_of_ble_eq_true rfl) (Nat.le_of_ble_eq_true rfl) dX3_init_22
set_option maxRecDepth 100000 in
set_option maxHeartbeats 4000000 in
theorem k_X3_init_6 (l : Launch) (D : va_G) (y : Nat → ClassId) (aS : Nat → Nat) (sz : Nat) (h0 : Nat) (wp651 : Int32) (wp652 : Int32) (wp653 : Int64) (wp654 : Int32) (wp655 : Int32) (wp656 : Int32) (wp657 : Int32) (wp658 : Int32) (wp659 : Int32) : Met l yX3_init (Cond.code yX3_init cX3_init 2 none :: wsL_law) ({ frames := 2, cells := 2, slots := 26, locals := 33 } : Room) (va_Pc [.ref h0, .int 5] (gI D y aS [(h0, .inr (3, [.int wp651, .null, .int wp652, .long wp653, .int wp654, .int wp655, .int wp656, .int wp657, .int wp658, .int wp659]))] sz)) (va_Qv (fun (u : Nat × Nat) => True) (fun u => gO D (va_A [(h0, .inr (3, [.int wp651, .null, .int wp652, .long wp653, .int wp654, .int wp655, .int wp656, .int wp657, .int wp658, .int wp659]))] sz) [(h0, .inr (3, [.int 5, .ref u.1, .int wp652, .long wp653, .int wp654, .int wp655, .int wp656, .int wp657, .int wp658, .int wp659])), (u.1, .inr (8, [.ref u.2, .int 0])), (u.2, .inl (y 1, 24, .inr (.inl (fun _ => 0))))]) (va_A [(h0, .inr (3, [.int wp651, .null, .int wp652, .long wp653, .int wp654, .int wp655, .int wp656, .int wp657, .int wp658, .int wp659]))] sz)) 2 26 (va_A [(h0, .inr (3, [.int wp651, .null, .int wp652, .long wp653, .int wp654, .int wp655, .int wp656, .int wp657, .int wp658, .int wp659]))] sz) := by
  refine g_of (by decide) (Nat.le_of_ble_eq_true rfl) ?_
  intro p e s m below meth c ls A hx hb hr hml hown hg hlocks hin hsz hK hP hD hS hA hAe hl
  rw [← hAe]
  replace hown : s.vm.findClass RX3 = some m.cls := hown
  replace hin : meth.name = "<init>" := hin
  replace hl : lv_has ls 2 [(0, .ref h0), (1, .int 5)] := hl
  refine lv_aload_n hx hb dX3_init_0 rfl (lv_at hl 0 rfl) ?_
  refine W.objInit hx hb hown (hg _ gw_90) (hg _ gw_11) (hg _ gw_12) rfl (by rw [hml]; exact hl.1) rfl dX3_init_1 (Nat.le_of_ble_eq_true rfl) (Nat.le_of_ble_eq_true rfl) ?_
  refine W.eq (g2 := F0 m 4 ls []) rfl ?_
  refine lv_aload_n hx hb dX3_init_4 rfl (lv_at hl 0 rfl) ?_
  refine va_new (ci := 8) (fs := [.null, .int 0]) (C := RX8) (T := TX8) (N := 2) hx hb hg inlX8 tyX8 tyX8_ok hown (hg _ gw_91) (hg _ gw_47) (hg _ gw_48) hK.1 hP hD hS hA rfl dfX8 (Nat.le_of_ble_eq_true rfl) (Nat.le_of_ble_eq_true rfl) dX3_init_5 ?_
  clear hP hD hS
  refine fun q660 H (hP : va_P D vwCl [(h0, .inr (3, [.int wp651, .null, .int wp652, .long wp653, .int wp654, .int wp655, .int wp656, .int wp657, .int wp658, .int wp659])), (q660, .inr (8, [.null, .int 0]))] H) (hD : va_D A [(h0, .inr (3, [.int wp651, .null, .int wp652, .long wp653, .int wp654, .int wp655, .int wp656, .int wp657, .int wp658, .int wp659])), (q660, .inr (8, [.null, .int 0]))]) hS => ?_
  refine lv_dup hx hb dX3_init_8 rfl ?_
  refine lv_bipush (v := 24) hx hb dX3_init_9 (by decide +kernel) ?_
  refine g_av (wr := [(h0, .inr (3, [.int wp651, .null, .int wp652, .long wp653, .int wp654, .int wp655, .int wp656, .int wp657, .int wp658, .int wp659]))]) (va_runI (As := [.int 24]) (rest := [.ref q660, .ref h0]) ⟨hx, hb, hml, hown, hg⟩ (k_X8_init_8 l D y aS H.size q660 0) (cwI 1 hg ggI_RX3_11_X8_init rfl rfl rfl (hg _ gw_48) (hg _ gw_94) (hg _ gw_95) rfl (by decide +kernel) ⟨Nat.le_of_ble_eq_true rfl, Nat.le_of_ble_eq_true rfl⟩) (g_preS hK hP hD [1] rfl (by decide)) rfl rfl hl.1 rfl (lv_room (Nat.le_of_ble_eq_true rfl)) dX3_init_11 ⟨Nat.le_of_ble_eq_true rfl, Nat.le_of_ble_eq_true rfl⟩) hP hD hS hA [1] [0] rfl rfl (by decide) (by decide) ?_
  clear hP hD hS H
  refine fun u H locs hq hP hD hS => ?_
  obtain ⟨ca0662, rfl⟩ : ∃ z9, z9 = u := ⟨_, rfl⟩
  replace hP : va_P D vwCl [(h0, .inr (3, [.int wp651, .null, .int wp652, .long wp653, .int wp654, .int wp655, .int wp656, .int wp657, .int wp658, .int wp659])), (q660, .inr (8, [.ref ca0662, .int 0])), (ca0662, .inl (y 1, 24, .inr (.inl (fun _ => 0))))] H := hP
  replace hD : va_D A [(h0, .inr (3, [.int wp651, .null, .int wp652, .long wp653, .int wp654, .int wp655, .int wp656, .int wp657, .int wp658, .int wp659])), (q660, .inr (8, [.ref ca0662, .int 0])), (ca0662, .inl (y 1, 24, .inr (.inl (fun _ => 0))))] := hD
  refine gm_putF (D := D) (ci := 3) (v := .ref q660) (ty := .object "Greentrunk$Row") (C := RX3) (T := TX3) (N := 10) hx hb hg inlX3 tyX3 tyX3_ok nmX3 hown hK.1 hP hD hS 0 rfl rfl 1 (by decide) tX3_1 (hg _ gw_92) hin rfl (by decide +kernel) rfl rfl (Nat.le_of_ble_eq_true rfl) dX3_init_14 ?_
  clear hP hD hS H locs
  refine fun H locs (hP : va_P D vwCl [(h0, .inr (3, [.int wp651, .ref q660, .int wp652, .long wp653, .int wp654, .int wp655, .int wp656, .int wp657, .int wp658, .int wp659])), (q660, .inr (8, [.ref ca0662, .int 0])), (ca0662, .inl (y 1, 24, .inr (.inl (fun _ => 0))))] H) (hD : va_D A [(h0, .inr (3, [.int wp651, .ref q660, .int wp652, .long wp653, .int wp654, .int wp655, .int wp656, .int wp657, .int wp658, .int wp659])), (q660, .inr (8, [.ref ca0662, .int 0])), (ca0662, .inl (y 1, 24, .inr (.inl (fun _ => 0))))]) hS => ?_
  refine lv_aload_n hx hb dX3_init_17 rfl (lv_at hl 0 rfl) ?_
  refine lv_iload_n hx hb dX3_init_18 rfl (lv_at hl 1 rfl) ?_
  refine gm_putF (D := D) (ci := 3) (v := .int 5) (ty := .int) (C := RX3) (T := TX3) (N := 10) hx hb hg inlX3 tyX3 tyX3_ok nmX3 hown hK.1 hP hD hS 0 rfl rfl 0 (by decide) tX3_0 (hg _ gw_93) hin rfl (by decide +kernel) rfl rfl (Nat.le_of_ble_eq_true rfl) dX3_init_19 ?_
  clear hP hD hS H locs
  refine fun H locs (hP : va_P D vwCl [(h0, .inr (3, [.int 5, .ref q660, .int wp652, .long wp653, .int wp654, .int wp655, .int wp656, .int wp657, .int wp658, .int wp659])), (q660, .inr (8, [.ref ca0662, .int 0])), (ca0662, .inl (y 1, 24, .inr (.inl (fun _ => 0))))] H) (hD : va_D A [(h0, .inr (3, [.int 5, .ref q660, .int wp652, .long wp653, .int wp654, .int wp655, .int wp656, .int wp657, .int wp658, .int wp659])), (q660, .inr (8, [.ref ca0662, .int 0])), (ca0662, .inl (y 1, 24, .inr (.inl (fun _ => 0))))]) hS => ?_
  exact g_vret hx hb hr hlocks ⟨q660, ca0662⟩ hP hD hS trivial (Nat.le_of_ble_eq_true rfl) (Nat.le_of_ble_eq_true rfl) dX3_init_22
set_option maxRecDepth 100000 in
set_option maxHeartbeats 4000000 in
theorem k_X3_init_7 (l : Launch) (D : va_G) (y : Nat → ClassId) (aS : Nat → Nat) (sz : Nat) (h0 : Nat) (wp670 : Int32) (wp671 : Int32) (wp672 : Int64) (wp673 : Int32) (wp674 : Int32) (wp675 : Int32) (wp676 : Int32) (wp677 : Int32) (wp678 : Int32) : Met l yX3_init (Cond.code yX3_init cX3_init 2 none :: wsL_law) ({ frames := 2, cells := 2, slots := 26, locals := 33 } : Room) (va_Pc [.ref h0, .int 6] (gI D y aS [(h0, .inr (3, [.int wp670, .null, .int wp671, .long wp672, .int wp673, .int wp674, .int wp675, .int wp676, .int wp677, .int wp678]))] sz)) (va_Qv (fun (u : Nat × Nat) => True) (fun u => gO D (va_A [(h0, .inr (3, [.int wp670, .null, .int wp671, .long wp672, .int wp673, .int wp674, .int wp675, .int wp676, .int wp677, .int wp678]))] sz) [(h0, .inr (3, [.int 6, .ref u.1, .int wp671, .long wp672, .int wp673, .int wp674, .int wp675, .int wp676, .int wp677, .int wp678])), (u.1, .inr (8, [.ref u.2, .int 0])), (u.2, .inl (y 1, 24, .inr (.inl (fun _ => 0))))]) (va_A [(h0, .inr (3, [.int wp670, .null, .int wp671, .long wp672, .int wp673, .int wp674, .int wp675, .int wp676, .int wp677, .int wp678]))] sz)) 2 26 (va_A [(h0, .inr (3, [.int wp670, .null, .int wp671, .long wp672, .int wp673, .int wp674, .int wp675, .int wp676, .int wp677, .int wp678]))] sz) := by
  refine g_of (by decide) (Nat.le_of_ble_eq_true rfl) ?_
  intro p e s m below meth c ls A hx hb hr hml hown hg hlocks hin hsz hK hP hD hS hA hAe hl
  rw [← hAe]
  replace hown : s.vm.findClass RX3 = some m.cls := hown
  replace hin : meth.name = "<init>" := hin
  replace hl : lv_has ls 2 [(0, .ref h0), (1, .int 6)] := hl
  refine lv_aload_n hx hb dX3_init_0 rfl (lv_at hl 0 rfl) ?_
  refine W.objInit hx hb hown (hg _ gw_90) (hg _ gw_11) (hg _ gw_12) rfl (by rw [hml]; exact hl.1) rfl dX3_init_1 (Nat.le_of_ble_eq_true rfl) (Nat.le_of_ble_eq_true rfl) ?_
  refine W.eq (g2 := F0 m 4 ls []) rfl ?_
  refine lv_aload_n hx hb dX3_init_4 rfl (lv_at hl 0 rfl) ?_
  refine va_new (ci := 8) (fs := [.null, .int 0]) (C := RX8) (T := TX8) (N := 2) hx hb hg inlX8 tyX8 tyX8_ok hown (hg _ gw_91) (hg _ gw_47) (hg _ gw_48) hK.1 hP hD hS hA rfl dfX8 (Nat.le_of_ble_eq_true rfl) (Nat.le_of_ble_eq_true rfl) dX3_init_5 ?_
  clear hP hD hS
  refine fun q679 H (hP : va_P D vwCl [(h0, .inr (3, [.int wp670, .null, .int wp671, .long wp672, .int wp673, .int wp674, .int wp675, .int wp676, .int wp677, .int wp678])), (q679, .inr (8, [.null, .int 0]))] H) (hD : va_D A [(h0, .inr (3, [.int wp670, .null, .int wp671, .long wp672, .int wp673, .int wp674, .int wp675, .int wp676, .int wp677, .int wp678])), (q679, .inr (8, [.null, .int 0]))]) hS => ?_
  refine lv_dup hx hb dX3_init_8 rfl ?_
  refine lv_bipush (v := 24) hx hb dX3_init_9 (by decide +kernel) ?_
  refine g_av (wr := [(h0, .inr (3, [.int wp670, .null, .int wp671, .long wp672, .int wp673, .int wp674, .int wp675, .int wp676, .int wp677, .int wp678]))]) (va_runI (As := [.int 24]) (rest := [.ref q679, .ref h0]) ⟨hx, hb, hml, hown, hg⟩ (k_X8_init_8 l D y aS H.size q679 0) (cwI 1 hg ggI_RX3_11_X8_init rfl rfl rfl (hg _ gw_48) (hg _ gw_94) (hg _ gw_95) rfl (by decide +kernel) ⟨Nat.le_of_ble_eq_true rfl, Nat.le_of_ble_eq_true rfl⟩) (g_preS hK hP hD [1] rfl (by decide)) rfl rfl hl.1 rfl (lv_room (Nat.le_of_ble_eq_true rfl)) dX3_init_11 ⟨Nat.le_of_ble_eq_true rfl, Nat.le_of_ble_eq_true rfl⟩) hP hD hS hA [1] [0] rfl rfl (by decide) (by decide) ?_
  clear hP hD hS H
  refine fun u H locs hq hP hD hS => ?_
  obtain ⟨ca0681, rfl⟩ : ∃ z9, z9 = u := ⟨_, rfl⟩
  replace hP : va_P D vwCl [(h0, .inr (3, [.int wp670, .null, .int wp671, .long wp672, .int wp673, .int wp674, .int wp675, .int wp676, .int wp677, .int wp678])), (q679, .inr (8, [.ref ca0681, .int 0])), (ca0681, .inl (y 1, 24, .inr (.inl (fun _ => 0))))] H := hP
  replace hD : va_D A [(h0, .inr (3, [.int wp670, .null, .int wp671, .long wp672, .int wp673, .int wp674, .int wp675, .int wp676, .int wp677, .int wp678])), (q679, .inr (8, [.ref ca0681, .int 0])), (ca0681, .inl (y 1, 24, .inr (.inl (fun _ => 0))))] := hD
  refine gm_putF (D := D) (ci := 3) (v := .ref q679) (ty := .object "Greentrunk$Row") (C := RX3) (T := TX3) (N := 10) hx hb hg inlX3 tyX3 tyX3_ok nmX3 hown hK.1 hP hD hS 0 rfl rfl 1 (by decide) tX3_1 (hg _ gw_92) hin rfl (by decide +kernel) rfl rfl (Nat.le_of_ble_eq_true rfl) dX3_init_14 ?_
  clear hP hD hS H locs
  refine fun H locs (hP : va_P D vwCl [(h0, .inr (3, [.int wp670, .ref q679, .int wp671, .long wp672, .int wp673, .int wp674, .int wp675, .int wp676, .int wp677, .int wp678])), (q679, .inr (8, [.ref ca0681, .int 0])), (ca0681, .inl (y 1, 24, .inr (.inl (fun _ => 0))))] H) (hD : va_D A [(h0, .inr (3, [.int wp670, .ref q679, .int wp671, .long wp672, .int wp673, .int wp674, .int wp675, .int wp676, .int wp677, .int wp678])), (q679, .inr (8, [.ref ca0681, .int 0])), (ca0681, .inl (y 1, 24, .inr (.inl (fun _ => 0))))]) hS => ?_
  refine lv_aload_n hx hb dX3_init_17 rfl (lv_at hl 0 rfl) ?_
  refine lv_iload_n hx hb dX3_init_18 rfl (lv_at hl 1 rfl) ?_
  refine gm_putF (D := D) (ci := 3) (v := .int 6) (ty := .int) (C := RX3) (T := TX3) (N := 10) hx hb hg inlX3 tyX3 tyX3_ok nmX3 hown hK.1 hP hD hS 0 rfl rfl 0 (by decide) tX3_0 (hg _ gw_93) hin rfl (by decide +kernel) rfl rfl (Nat.le_of_ble_eq_true rfl) dX3_init_19 ?_
  clear hP hD hS H locs
  refine fun H locs (hP : va_P D vwCl [(h0, .inr (3, [.int 6, .ref q679, .int wp671, .long wp672, .int wp673, .int wp674, .int wp675, .int wp676, .int wp677, .int wp678])), (q679, .inr (8, [.ref ca0681, .int 0])), (ca0681, .inl (y 1, 24, .inr (.inl (fun _ => 0))))] H) (hD : va_D A [(h0, .inr (3, [.int 6, .ref q679, .int wp671, .long wp672, .int wp673, .int wp674, .int wp675, .int wp676, .int wp677, .int wp678])), (q679, .inr (8, [.ref ca0681, .int 0])), (ca0681, .inl (y 1, 24, .inr (.inl (fun _ => 0))))]) hS => ?_
  exact g_vret hx hb hr hlocks ⟨q679, ca0681⟩ hP hD hS trivial (Nat.le_of_ble_eq_true rfl) (Nat.le_of_ble_eq_true rfl) dX3_init_22
set_option maxRecDepth 100000 in
set_option maxHeartbeats 4000000 in
theorem k_X3_init_8 (l : Launch) (D : va_G) (y : Nat → ClassId) (aS : Nat → Nat) (sz : Nat) (h0 : Nat) (wp689 : Int32) (wp690 : Int32) (wp691 : Int64) (wp692 : Int32) (wp693 : Int32) (wp694 : Int32) (wp695 : Int32) (wp696 : Int32) (wp697 : Int32) : Met l yX3_init (Cond.code yX3_init cX3_init 2 none :: wsL_law) ({ frames := 2, cells := 2, slots := 26, locals := 33 } : Room) (va_Pc [.ref h0, .int 7] (gI D y aS [(h0, .inr (3, [.int wp689, .null, .int wp690, .long wp691, .int wp692, .int wp693, .int wp694, .int wp695, .int wp696, .int wp697]))] sz)) (va_Qv (fun (u : Nat × Nat) => True) (fun u => gO D (va_A [(h0, .inr (3, [.int wp689, .null, .int wp690, .long wp691, .int wp692, .int wp693, .int wp694, .int wp695, .int wp696, .int wp697]))] sz) [(h0, .inr (3, [.int 7, .ref u.1, .int wp690, .long wp691, .int wp692, .int wp693, .int wp694, .int wp695, .int wp696, .int wp697])), (u.1, .inr (8, [.ref u.2, .int 0])), (u.2, .inl (y 1, 24, .inr (.inl (fun _ => 0))))]) (va_A [(h0, .inr (3, [.int wp689, .null, .int wp690, .long wp691, .int wp692, .int wp693, .int wp694, .int wp695, .int wp696, .int wp697]))] sz)) 2 26 (va_A [(h0, .inr (3, [.int wp689, .null, .int wp690, .long wp691, .int wp692, .int wp693, .int wp694, .int wp695, .int wp696, .int wp697]))] sz) := by
  refine g_of (by decide) (Nat.le_of_ble_eq_true rfl) ?_
  intro p e s m below meth c ls A hx hb hr hml hown hg hlocks hin hsz hK hP hD hS hA hAe hl
  rw [← hAe]
  replace hown : s.vm.findClass RX3 = some m.cls := hown
  replace hin : meth.name = "<init>" := hin
  replace hl : lv_has ls 2 [(0, .ref h0), (1, .int 7)] := hl
  refine lv_aload_n hx hb dX3_init_0 rfl (lv_at hl 0 rfl) ?_
  refine W.objInit hx hb hown (hg _ gw_90) (hg _ gw_11) (hg _ gw_12) rfl (by rw [hml]; exact hl.1) rfl dX3_init_1 (Nat.le_of_ble_eq_true rfl) (Nat.le_of_ble_eq_true rfl) ?_
  refine W.eq (g2 := F0 m 4 ls []) rfl ?_
  refine lv_aload_n hx hb dX3_init_4 rfl (lv_at hl 0 rfl) ?_
  refine va_new (ci := 8) (fs := [.null, .int 0]) (C := RX8) (T := TX8) (N := 2) hx hb hg inlX8 tyX8 tyX8_ok hown (hg _ gw_91) (hg _ gw_47) (hg _ gw_48) hK.1 hP hD hS hA rfl dfX8 (Nat.le_of_ble_eq_true rfl) (Nat.le_of_ble_eq_true rfl) dX3_init_5 ?_
  clear hP hD hS
  refine fun q698 H (hP : va_P D vwCl [(h0, .inr (3, [.int wp689, .null, .int wp690, .long wp691, .int wp692, .int wp693, .int wp694, .int wp695, .int wp696, .int wp697])), (q698, .inr (8, [.null, .int 0]))] H) (hD : va_D A [(h0, .inr (3, [.int wp689, .null, .int wp690, .long wp691, .int wp692, .int wp693, .int wp694, .int wp695, .int wp696, .int wp697])), (q698, .inr (8, [.null, .int 0]))]) hS => ?_
  refine lv_dup hx hb dX3_init_8 rfl ?_
  refine lv_bipush (v := 24) hx hb dX3_init_9 (by decide +kernel) ?_
  refine g_av (wr := [(h0, .inr (3, [.int wp689, .null, .int wp690, .long wp691, .int wp692, .int wp693, .int wp694, .int wp695, .int wp696, .int wp697]))]) (va_runI (As := [.int 24]) (rest := [.ref q698, .ref h0]) ⟨hx, hb, hml, hown, hg⟩ (k_X8_init_8 l D y aS H.size q698 0) (cwI 1 hg ggI_RX3_11_X8_init rfl rfl rfl (hg _ gw_48) (hg _ gw_94) (hg _ gw_95) rfl (by decide +kernel) ⟨Nat.le_of_ble_eq_true rfl, Nat.le_of_ble_eq_true rfl⟩) (g_preS hK hP hD [1] rfl (by decide)) rfl rfl hl.1 rfl (lv_room (Nat.le_of_ble_eq_true rfl)) dX3_init_11 ⟨Nat.le_of_ble_eq_true rfl, Nat.le_of_ble_eq_true rfl⟩) hP hD hS hA [1] [0] rfl rfl (by decide) (by decide) ?_
  clear hP hD hS H
  refine fun u H locs hq hP hD hS => ?_
  obtain ⟨ca0700, rfl⟩ : ∃ z9, z9 = u := ⟨_, rfl⟩
  replace hP : va_P D vwCl [(h0, .inr (3, [.int wp689, .null, .int wp690, .long wp691, .int wp692, .int wp693, .int wp694, .int wp695, .int wp696, .int wp697])), (q698, .inr (8, [.ref ca0700, .int 0])), (ca0700, .inl (y 1, 24, .inr (.inl (fun _ => 0))))] H := hP
  replace hD : va_D A [(h0, .inr (3, [.int wp689, .null, .int wp690, .long wp691, .int wp692, .int wp693, .int wp694, .int wp695, .int wp696, .int wp697])), (q698, .inr (8, [.ref ca0700, .int 0])), (ca0700, .inl (y 1, 24, .inr (.inl (fun _ => 0))))] := hD
  refine gm_putF (D := D) (ci := 3) (v := .ref q698) (ty := .object "Greentrunk$Row") (C := RX3) (T := TX3) (N := 10) hx hb hg inlX3 tyX3 tyX3_ok nmX3 hown hK.1 hP hD hS 0 rfl rfl 1 (by decide) tX3_1 (hg _ gw_92) hin rfl (by decide +kernel) rfl rfl (Nat.le_of_ble_eq_true rfl) dX3_init_14 ?_
  clear hP hD hS H locs
  refine fun H locs (hP : va_P D vwCl [(h0, .inr (3, [.int wp689, .ref q698, .int wp690, .long wp691, .int wp692, .int wp693, .int wp694, .int wp695, .int wp696, .int wp697])), (q698, .inr (8, [.ref ca0700, .int 0])), (ca0700, .inl (y 1, 24, .inr (.inl (fun _ => 0))))] H) (hD : va_D A [(h0, .inr (3, [.int wp689, .ref q698, .int wp690, .long wp691, .int wp692, .int wp693, .int wp694, .int wp695, .int wp696, .int wp697])), (q698, .inr (8, [.ref ca0700, .int 0])), (ca0700, .inl (y 1, 24, .inr (.inl (fun _ => 0))))]) hS => ?_
  refine lv_aload_n hx hb dX3_init_17 rfl (lv_at hl 0 rfl) ?_
  refine lv_iload_n hx hb dX3_init_18 rfl (lv_at hl 1 rfl) ?_
  refine gm_putF (D := D) (ci := 3) (v := .int 7) (ty := .int) (C := RX3) (T := TX3) (N := 10) hx hb hg inlX3 tyX3 tyX3_ok nmX3 hown hK.1 hP hD hS 0 rfl rfl 0 (by decide) tX3_0 (hg _ gw_93) hin rfl (by decide +kernel) rfl rfl (Nat.le_of_ble_eq_true rfl) dX3_init_19 ?_
  clear hP hD hS H locs
  refine fun H locs (hP : va_P D vwCl [(h0, .inr (3, [.int 7, .ref q698, .int wp690, .long wp691, .int wp692, .int wp693, .int wp694, .int wp695, .int wp696, .int wp697])), (q698, .inr (8, [.ref ca0700, .int 0])), (ca0700, .inl (y 1, 24, .inr (.inl (fun _ => 0))))] H) (hD : va_D A [(h0, .inr (3, [.int 7, .ref q698, .int wp690, .long wp691, .int wp692, .int wp693, .int wp694, .int wp695, .int wp696, .int wp697])), (q698, .inr (8, [.ref ca0700, .int 0])), (ca0700, .inl (y 1, 24, .inr (.inl (fun _ => 0))))]) hS => ?_
  exact g_vret hx hb hr hlocks ⟨q698, ca0700⟩ hP hD hS trivial (Nat.le_of_ble_eq_true rfl) (Nat.le_of_ble_eq_true rfl) dX3_init_22
set_option maxRecDepth 100000 in
set_option maxHeartbeats 4000000 in
theorem k_X3_init_9 (l : Launch) (D : va_G) (y : Nat → ClassId) (aS : Nat → Nat) (sz : Nat) (h0 : Nat) (wp708 : Int32) (wp709 : Int32) (wp710 : Int64) (wp711 : Int32) (wp712 : Int32) (wp713 : Int32) (wp714 : Int32) (wp715 : Int32) (wp716 : Int32) : Met l yX3_init (Cond.code yX3_init cX3_init 2 none :: wsL_law) ({ frames := 2, cells := 2, slots := 26, locals := 33 } : Room) (va_Pc [.ref h0, .int 8] (gI D y aS [(h0, .inr (3, [.int wp708, .null, .int wp709, .long wp710, .int wp711, .int wp712, .int wp713, .int wp714, .int wp715, .int wp716]))] sz)) (va_Qv (fun (u : Nat × Nat) => True) (fun u => gO D (va_A [(h0, .inr (3, [.int wp708, .null, .int wp709, .long wp710, .int wp711, .int wp712, .int wp713, .int wp714, .int wp715, .int wp716]))] sz) [(h0, .inr (3, [.int 8, .ref u.1, .int wp709, .long wp710, .int wp711, .int wp712, .int wp713, .int wp714, .int wp715, .int wp716])), (u.1, .inr (8, [.ref u.2, .int 0])), (u.2, .inl (y 1, 24, .inr (.inl (fun _ => 0))))]) (va_A [(h0, .inr (3, [.int wp708, .null, .int wp709, .long wp710, .int wp711, .int wp712, .int wp713, .int wp714, .int wp715, .int wp716]))] sz)) 2 26 (va_A [(h0, .inr (3, [.int wp708, .null, .int wp709, .long wp710, .int wp711, .int wp712, .int wp713, .int wp714, .int wp715, .int wp716]))] sz) := by
  refine g_of (by decide) (Nat.le_of_ble_eq_true rfl) ?_
  intro p e s m below meth c ls A hx hb hr hml hown hg hlocks hin hsz hK hP hD hS hA hAe hl
  rw [← hAe]
  replace hown : s.vm.findClass RX3 = some m.cls := hown
  replace hin : meth.name = "<init>" := hin
  replace hl : lv_has ls 2 [(0, .ref h0), (1, .int 8)] := hl
  refine lv_aload_n hx hb dX3_init_0 rfl (lv_at hl 0 rfl) ?_
  refine W.objInit hx hb hown (hg _ gw_90) (hg _ gw_11) (hg _ gw_12) rfl (by rw [hml]; exact hl.1) rfl dX3_init_1 (Nat.le_of_ble_eq_true rfl) (Nat.le_of_ble_eq_true rfl) ?_
  refine W.eq (g2 := F0 m 4 ls []) rfl ?_
  refine lv_aload_n hx hb dX3_init_4 rfl (lv_at hl 0 rfl) ?_
  refine va_new (ci := 8) (fs := [.null, .int 0]) (C := RX8) (T := TX8) (N := 2) hx hb hg inlX8 tyX8 tyX8_ok hown (hg _ gw_91) (hg _ gw_47) (hg _ gw_48) hK.1 hP hD hS hA rfl dfX8 (Nat.le_of_ble_eq_true rfl) (Nat.le_of_ble_eq_true rfl) dX3_init_5 ?_
  clear hP hD hS
  refine fun q717 H (hP : va_P D vwCl [(h0, .inr (3, [.int wp708, .null, .int wp709, .long wp710, .int wp711, .int wp712, .int wp713, .int wp714, .int wp715, .int wp716])), (q717, .inr (8, [.null, .int 0]))] H) (hD : va_D A [(h0, .inr (3, [.int wp708, .null, .int wp709, .long wp710, .int wp711, .int wp712, .int wp713, .int wp714, .int wp715, .int wp716])), (q717, .inr (8, [.null, .int 0]))]) hS => ?_
  refine lv_dup hx hb dX3_init_8 rfl ?_
  refine lv_bipush (v := 24) hx hb dX3_init_9 (by decide +kernel) ?_
  refine g_av (wr := [(h0, .inr (3, [.int wp708, .null, .int wp709, .long wp710, .int wp711, .int wp712, .int wp713, .int wp714, .int wp715, .int wp716]))]) (va_runI (As := [.int 24]) (rest := [.ref q717, .ref h0]) ⟨hx, hb, hml, hown, hg⟩ (k_X8_init_8 l D y aS H.size q717 0) (cwI 1 hg ggI_RX3_11_X8_init rfl rfl rfl (hg _ gw_48) (hg _ gw_94) (hg _ gw_95) rfl (by decide +kernel) ⟨Nat.le_of_ble_eq_true rfl, Nat.le_of_ble_eq_true rfl⟩) (g_preS hK hP hD [1] rfl (by decide)) rfl rfl hl.1 rfl (lv_room (Nat.le_of_ble_eq_true rfl)) dX3_init_11 ⟨Nat.le_of_ble_eq_true rfl, Nat.le_of_ble_eq_true rfl⟩) hP hD hS hA [1] [0] rfl rfl (by decide) (by decide) ?_
  clear hP hD hS H
  refine fun u H locs hq hP hD hS => ?_
  obtain ⟨ca0719, rfl⟩ : ∃ z9, z9 = u := ⟨_, rfl⟩
  replace hP : va_P D vwCl [(h0, .inr (3, [.int wp708, .null, .int wp709, .long wp710, .int wp711, .int wp712, .int wp713, .int wp714, .int wp715, .int wp716])), (q717, .inr (8, [.ref ca0719, .int 0])), (ca0719, .inl (y 1, 24, .inr (.inl (fun _ => 0))))] H := hP
  replace hD : va_D A [(h0, .inr (3, [.int wp708, .null, .int wp709, .long wp710, .int wp711, .int wp712, .int wp713, .int wp714, .int wp715, .int wp716])), (q717, .inr (8, [.ref ca0719, .int 0])), (ca0719, .inl (y 1, 24, .inr (.inl (fun _ => 0))))] := hD
  refine gm_putF (D := D) (ci := 3) (v := .ref q717) (ty := .object "Greentrunk$Row") (C := RX3) (T := TX3) (N := 10) hx hb hg inlX3 tyX3 tyX3_ok nmX3 hown hK.1 hP hD hS 0 rfl rfl 1 (by decide) tX3_1 (hg _ gw_92) hin rfl (by decide +kernel) rfl rfl (Nat.le_of_ble_eq_true rfl) dX3_init_14 ?_
  clear hP hD hS H locs
  refine fun H locs (hP : va_P D vwCl [(h0, .inr (3, [.int wp708, .ref q717, .int wp709, .long wp710, .int wp711, .int wp712, .int wp713, .int wp714, .int wp715, .int wp716])), (q717, .inr (8, [.ref ca0719, .int 0])), (ca0719, .inl (y 1, 24, .inr (.inl (fun _ => 0))))] H) (hD : va_D A [(h0, .inr (3, [.int wp708, .ref q717, .int wp709, .long wp710, .int wp711, .int wp712, .int wp713, .int wp714, .int wp715, .int wp716])), (q717, .inr (8, [.ref ca0719, .int 0])), (ca0719, .inl (y 1, 24, .inr (.inl (fun _ => 0))))]) hS => ?_
  refine lv_aload_n hx hb dX3_init_17 rfl (lv_at hl 0 rfl) ?_
  refine lv_iload_n hx hb dX3_init_18 rfl (lv_at hl 1 rfl) ?_
  refine gm_putF (D := D) (ci := 3) (v := .int 8) (ty := .int) (C := RX3) (T := TX3) (N := 10) hx hb hg inlX3 tyX3 tyX3_ok nmX3 hown hK.1 hP hD hS 0 rfl rfl 0 (by decide) tX3_0 (hg _ gw_93) hin rfl (by decide +kernel) rfl rfl (Nat.le_of_ble_eq_true rfl) dX3_init_19 ?_
  clear hP hD hS H locs
  refine fun H locs (hP : va_P D vwCl [(h0, .inr (3, [.int 8, .ref q717, .int wp709, .long wp710, .int wp711, .int wp712, .int wp713, .int wp714, .int wp715, .int wp716])), (q717, .inr (8, [.ref ca0719, .int 0])), (ca0719, .inl (y 1, 24, .inr (.inl (fun _ => 0))))] H) (hD : va_D A [(h0, .inr (3, [.int 8, .ref q717, .int wp709, .long wp710, .int wp711, .int wp712, .int wp713, .int wp714, .int wp715, .int wp716])), (q717, .inr (8, [.ref ca0719, .int 0])), (ca0719, .inl (y 1, 24, .inr (.inl (fun _ => 0))))]) hS => ?_
  exact g_vret hx hb hr hlocks ⟨q717, ca0719⟩ hP hD hS trivial (Nat.le_of_ble_eq_true rfl) (Nat.le_of_ble_eq_true rfl) dX3_init_22
set_option maxRecDepth 100000 in
set_option maxHeartbeats 4000000 in
theorem k_X3_init_10 (l : Launch) (D : va_G) (y : Nat → ClassId) (aS : Nat → Nat) (sz : Nat) (h0 : Nat) (wp727 : Int32) (wp728 : Int32) (wp729 : Int64) (wp730 : Int32) (wp731 : Int32) (wp732 : Int32) (wp733 : Int32) (wp734 : Int32) (wp735 : Int32) : Met l yX3_init (Cond.code yX3_init cX3_init 2 none :: wsL_law) ({ frames := 2, cells := 2, slots := 26, locals := 33 } : Room) (va_Pc [.ref h0, .int 9] (gI D y aS [(h0, .inr (3, [.int wp727, .null, .int wp728, .long wp729, .int wp730, .int wp731, .int wp732, .int wp733, .int wp734, .int wp735]))] sz)) (va_Qv (fun (u : Nat × Nat) => True) (fun u => gO D (va_A [(h0, .inr (3, [.int wp727, .null, .int wp728, .long wp729, .int wp730, .int wp731, .int wp732, .int wp733, .int wp734, .int wp735]))] sz) [(h0, .inr (3, [.int 9, .ref u.1, .int wp728, .long wp729, .int wp730, .int wp731, .int wp732, .int wp733, .int wp734, .int wp735])), (u.1, .inr (8, [.ref u.2, .int 0])), (u.2, .inl (y 1, 24, .inr (.inl (fun _ => 0))))]) (va_A [(h0, .inr (3, [.int wp727, .null, .int wp728, .long wp729, .int wp730, .int wp731, .int wp732, .int wp733, .int wp734, .int wp735]))] sz)) 2 26 (va_A [(h0, .inr (3, [.int wp727, .null, .int wp728, .long wp729, .int wp730, .int wp731, .int wp732, .int wp733, .int wp734, .int wp735]))] sz) := by
  refine g_of (by decide) (Nat.le_of_ble_eq_true rfl) ?_
  intro p e s m below meth c ls A hx hb hr hml hown hg hlocks hin hsz hK hP hD hS hA hAe hl
  rw [← hAe]
  replace hown : s.vm.findClass RX3 = some m.cls := hown
  replace hin : meth.name = "<init>" := hin
  replace hl : lv_has ls 2 [(0, .ref h0), (1, .int 9)] := hl
  refine lv_aload_n hx hb dX3_init_0 rfl (lv_at hl 0 rfl) ?_
  refine W.objInit hx hb hown (hg _ gw_90) (hg _ gw_11) (hg _ gw_12) rfl (by rw [hml]; exact hl.1) rfl dX3_init_1 (Nat.le_of_ble_eq_true rfl) (Nat.le_of_ble_eq_true rfl) ?_
  refine W.eq (g2 := F0 m 4 ls []) rfl ?_
  refine lv_aload_n hx hb dX3_init_4 rfl (lv_at hl 0 rfl) ?_
  refine va_new (ci := 8) (fs := [.null, .int 0]) (C := RX8) (T := TX8) (N := 2) hx hb hg inlX8 tyX8 tyX8_ok hown (hg _ gw_91) (hg _ gw_47) (hg _ gw_48) hK.1 hP hD hS hA rfl dfX8 (Nat.le_of_ble_eq_true rfl) (Nat.le_of_ble_eq_true rfl) dX3_init_5 ?_
  clear hP hD hS
  refine fun q736 H (hP : va_P D vwCl [(h0, .inr (3, [.int wp727, .null, .int wp728, .long wp729, .int wp730, .int wp731, .int wp732, .int wp733, .int wp734, .int wp735])), (q736, .inr (8, [.null, .int 0]))] H) (hD : va_D A [(h0, .inr (3, [.int wp727, .null, .int wp728, .long wp729, .int wp730, .int wp731, .int wp732, .int wp733, .int wp734, .int wp735])), (q736, .inr (8, [.null, .int 0]))]) hS => ?_
  refine lv_dup hx hb dX3_init_8 rfl ?_
  refine lv_bipush (v := 24) hx hb dX3_init_9 (by decide +kernel) ?_
  refine g_av (wr := [(h0, .inr (3, [.int wp727, .null, .int wp728, .long wp729, .int wp730, .int wp731, .int wp732, .int wp733, .int wp734, .int wp735]))]) (va_runI (As := [.int 24]) (rest := [.ref q736, .ref h0]) ⟨hx, hb, hml, hown, hg⟩ (k_X8_init_8 l D y aS H.size q736 0) (cwI 1 hg ggI_RX3_11_X8_init rfl rfl rfl (hg _ gw_48) (hg _ gw_94) (hg _ gw_95) rfl (by decide +kernel) ⟨Nat.le_of_ble_eq_true rfl, Nat.le_of_ble_eq_true rfl⟩) (g_preS hK hP hD [1] rfl (by decide)) rfl rfl hl.1 rfl (lv_room (Nat.le_of_ble_eq_true rfl)) dX3_init_11 ⟨Nat.le_of_ble_eq_true rfl, Nat.le_of_ble_eq_true rfl⟩) hP hD hS hA [1] [0] rfl rfl (by decide) (by decide) ?_
  clear hP hD hS H
  refine fun u H locs hq hP hD hS => ?_
  obtain ⟨ca0738, rfl⟩ : ∃ z9, z9 = u := ⟨_, rfl⟩
  replace hP : va_P D vwCl [(h0, .inr (3, [.int wp727, .null, .int wp728, .long wp729, .int wp730, .int wp731, .int wp732, .int wp733, .int wp734, .int wp735])), (q736, .inr (8, [.ref ca0738, .int 0])), (ca0738, .inl (y 1, 24, .inr (.inl (fun _ => 0))))] H := hP
  replace hD : va_D A [(h0, .inr (3, [.int wp727, .null, .int wp728, .long wp729, .int wp730, .int wp731, .int wp732, .int wp733, .int wp734, .int wp735])), (q736, .inr (8, [.ref ca0738, .int 0])), (ca0738, .inl (y 1, 24, .inr (.inl (fun _ => 0))))] := hD
  refine gm_putF (D := D) (ci := 3) (v := .ref q736) (ty := .object "Greentrunk$Row") (C := RX3) (T := TX3) (N := 10) hx hb hg inlX3 tyX3 tyX3_ok nmX3 hown hK.1 hP hD hS 0 rfl rfl 1 (by decide) tX3_1 (hg _ gw_92) hin rfl (by decide +kernel) rfl rfl (Nat.le_of_ble_eq_true rfl) dX3_init_14 ?_
  clear hP hD hS H locs
  refine fun H locs (hP : va_P D vwCl [(h0, .inr (3, [.int wp727, .ref q736, .int wp728, .long wp729, .int wp730, .int wp731, .int wp732, .int wp733, .int wp734, .int wp735])), (q736, .inr (8, [.ref ca0738, .int 0])), (ca0738, .inl (y 1, 24, .inr (.inl (fun _ => 0))))] H) (hD : va_D A [(h0, .inr (3, [.int wp727, .ref q736, .int wp728, .long wp729, .int wp730, .int wp731, .int wp732, .int wp733, .int wp734, .int wp735])), (q736, .inr (8, [.ref ca0738, .int 0])), (ca0738, .inl (y 1, 24, .inr (.inl (fun _ => 0))))]) hS => ?_
  refine lv_aload_n hx hb dX3_init_17 rfl (lv_at hl 0 rfl) ?_
  refine lv_iload_n hx hb dX3_init_18 rfl (lv_at hl 1 rfl) ?_
  refine gm_putF (D := D) (ci := 3) (v := .int 9) (ty := .int) (C := RX3) (T := TX3) (N := 10) hx hb hg inlX3 tyX3 tyX3_ok nmX3 hown hK.1 hP hD hS 0 rfl rfl 0 (by decide) tX3_0 (hg _ gw_93) hin rfl (by decide +kernel) rfl rfl (Nat.le_of_ble_eq_true rfl) dX3_init_19 ?_
  clear hP hD hS H locs
  refine fun H locs (hP : va_P D vwCl [(h0, .inr (3, [.int 9, .ref q736, .int wp728, .long wp729, .int wp730, .int wp731, .int wp732, .int wp733, .int wp734, .int wp735])), (q736, .inr (8, [.ref ca0738, .int 0])), (ca0738, .inl (y 1, 24, .inr (.inl (fun _ => 0))))] H) (hD : va_D A [(h0, .inr (3, [.int 9, .ref q736, .int wp728, .long wp729, .int wp730, .int wp731, .int wp732, .int wp733, .int wp734, .int wp735])), (q736, .inr (8, [.ref ca0738, .int 0])), (ca0738, .inl (y 1, 24, .inr (.inl (fun _ => 0))))]) hS => ?_
  exact g_vret hx hb hr hlocks ⟨q736, ca0738⟩ hP hD hS trivial (Nat.le_of_ble_eq_true rfl) (Nat.le_of_ble_eq_true rfl) dX3_init_22
set_option maxRecDepth 100000 in
set_option maxHeartbeats 4000000 in
theorem k_X7_init_0 (l : Launch) (D : va_G) (y : Nat → ClassId) (aS : Nat → Nat) (sz : Nat) (h0 : Nat) (wp742 : Int32) : Met l yX7_init (Cond.code yX7_init cX7_init 2 none :: wsL_law) ({ frames := 3, cells := 40, slots := 448, locals := 54 } : Room) (va_Pc [.ref h0] (gI D y aS [(h0, .inr (7, [.null, .null, .null, .null, .null, .int wp742]))] sz)) (va_Qv (fun (u : (Nat × Nat × Nat × Nat × Nat × Nat × Nat × Nat) × (Nat × Nat × Nat × Nat × Nat × Nat × Nat × Nat)) => True) (fun u => gO D (va_A [(h0, .inr (7, [.null, .null, .null, .null, .null, .int wp742]))] sz) [(h0, .inr (7, [.ref u.1.1, .ref u.1.2.1, .ref u.1.2.2.1, .ref u.1.2.2.2.1, .ref u.1.2.2.2.2.1, .int wp742])), (u.1.1, .inl (y 4, 10, .inr (.inr (.inr (.inr (va_up (va_up (va_up (va_up (va_up (va_up (va_up (va_up (va_up (va_up (fun _ => none) ((0 : Int32).toNatClampNeg) (some u.1.2.2.2.2.2.1)) ((1 : Int32).toNatClampNeg) (some u.1.2.2.2.2.2.2.1)) ((2 : Int32).toNatClampNeg) (some u.1.2.2.2.2.2.2.2)) ((3 : Int32).toNatClampNeg) (some u.2.1)) ((4 : Int32).toNatClampNeg) (some u.2.2.1)) ((5 : Int32).toNatClampNeg) (some u.2.2.2.1)) ((6 : Int32).toNatClampNeg) (some u.2.2.2.2.1)) ((7 : Int32).toNatClampNeg) (some u.2.2.2.2.2.1)) ((8 : Int32).toNatClampNeg) (some u.2.2.2.2.2.2.1)) ((9 : Int32).toNatClampNeg) (some u.2.2.2.2.2.2.2.1))))))), (u.1.2.2.2.2.2.1, .inr (3, [.int 0, .ref u.2.2.2.2.2.2.2.2, .int 0, .long 0, .int 0, .int 0, .int 0, .int 0, .int 0, .int 0]))]) (va_A [(h0, .inr (7, [.null, .null, .null, .null, .null, .int wp742]))] sz)) 40 448 (va_A [(h0, .inr (7, [.null, .null, .null, .null, .null, .int wp742]))] sz) := by
  refine g_of (by decide) (Nat.le_of_ble_eq_true rfl) ?_
  intro p e s m below meth c ls A hx hb hr hml hown hg hlocks hin hsz hK hP hD hS hA hAe hl
  rw [← hAe]
  replace hown : s.vm.findClass RX7 = some m.cls := hown
  replace hin : meth.name = "<init>" := hin
  replace hl : lv_has ls 2 [(0, .ref h0)] := hl
  refine lv_aload_n hx hb dX7_init_0 rfl (lv_at hl 0 rfl) ?_
  refine W.objInit hx hb hown (hg _ gw_77) (hg _ gw_11) (hg _ gw_12) rfl (by rw [hml]; exact hl.1) rfl dX7_init_1 (Nat.le_of_ble_eq_true rfl) (Nat.le_of_ble_eq_true rfl) ?_
  refine W.eq (g2 := F0 m 4 ls []) rfl ?_
  refine lv_aload_n hx hb dX7_init_4 rfl (lv_at hl 0 rfl) ?_
  refine lv_bipush (v := 10) hx hb dX7_init_5 (by decide +kernel) ?_
  refine g_newq (C := RX3) hx hb 4 rfl hown (hg _ gw_78) hK.2.2.1.2.1 hK hP hD hS hA (N' := 10) (by decide +kernel) (by decide +kernel) (by decide) (Nat.le_of_ble_eq_true rfl) (Nat.le_of_ble_eq_true rfl) dX7_init_7 ?_
  clear hP hD hS
  refine fun q743 H (hP : va_P D vwCl [(h0, .inr (7, [.null, .null, .null, .null, .null, .int wp742])), (q743, .inl (y 4, 10, .inr (.inr (.inr (.inr (fun _ => none))))))] H) (hD : va_D A [(h0, .inr (7, [.null, .null, .null, .null, .null, .int wp742])), (q743, .inl (y 4, 10, .inr (.inr (.inr (.inr (fun _ => none))))))]) hS => ?_
  refine gm_putF (D := D) (ci := 7) (v := .ref q743) (ty := .array (.object "Greentrunk$Check")) (C := RX7) (T := TX7) (N := 6) hx hb hg inlX7 tyX7 tyX7_ok nmX7 hown hK.1 hP hD hS 0 rfl rfl 0 (by decide) tX7_0 (hg _ gw_79) hin rfl (by decide +kernel) rfl rfl (Nat.le_of_ble_eq_true rfl) dX7_init_10 ?_
  clear hP hD hS H
  refine fun H locs (hP : va_P D vwCl [(h0, .inr (7, [.ref q743, .null, .null, .null, .null, .int wp742])), (q743, .inl (y 4, 10, .inr (.inr (.inr (.inr (fun _ => none))))))] H) (hD : va_D A [(h0, .inr (7, [.ref q743, .null, .null, .null, .null, .int wp742])), (q743, .inl (y 4, 10, .inr (.inr (.inr (.inr (fun _ => none))))))]) hS => ?_
  refine lv_aload_n hx hb dX7_init_13 rfl (lv_at hl 0 rfl) ?_
  refine va_new (ci := 3) (fs := [.int 0, .null, .int 0, .long 0, .int 0, .int 0, .int 0, .int 0, .int 0, .int 0]) (C := RX3) (T := TX3) (N := 10) hx hb hg inlX3 tyX3 tyX3_ok hown (hg _ gw_78) (hg _ gw_80) (hg _ gw_81) hK.1 hP hD hS hA rfl dfX3 (Nat.le_of_ble_eq_true rfl) (Nat.le_of_ble_eq_true rfl) dX7_init_14 ?_
  clear hP hD hS H
  refine fun q744 H (hP : va_P D vwCl [(h0, .inr (7, [.ref q743, .null, .null, .null, .null, .int wp742])), (q743, .inl (y 4, 10, .inr (.inr (.inr (.inr (fun _ => none)))))), (q744, .inr (3, [.int 0, .null, .int 0, .long 0, .int 0, .int 0, .int 0, .int 0, .int 0, .int 0]))] H) (hD : va_D A [(h0, .inr (7, [.ref q743, .null, .null, .null, .null, .int wp742])), (q743, .inl (y 4, 10, .inr (.inr (.inr (.inr (fun _ => none)))))), (q744, .inr (3, [.int 0, .null, .int 0, .long 0, .int 0, .int 0, .int 0, .int 0, .int 0, .int 0]))]) hS => ?_
  refine lv_dup hx hb dX7_init_17 rfl ?_
  refine lv_iconst (v := (-1)) hx hb dX7_init_18 (by decide) ?_
  refine g_av (wr := [(h0, .inr (7, [.ref q743, .null, .null, .null, .null, .int wp742])), (q743, .inl (y 4, 10, .inr (.inr (.inr (.inr (fun _ => none))))))]) (va_runI (As := [.int (-1)]) (rest := [.ref q744, .ref h0]) ⟨hx, hb, hml, hown, hg⟩ (k_X3_init_0 l D y aS H.size q744 0 0 0 0 0 0 0 0 0) (cwI 1 hg ggI_RX7_17_X3_init rfl rfl rfl (hg _ gw_81) (hg _ gw_87) (hg _ gw_88) rfl (by decide +kernel) ⟨Nat.le_of_ble_eq_true rfl, Nat.le_of_ble_eq_true rfl⟩) (g_preS hK hP hD [2] rfl (by decide)) rfl rfl hl.1 rfl (lv_room (Nat.le_of_ble_eq_true rfl)) dX7_init_19 ⟨Nat.le_of_ble_eq_true rfl, Nat.le_of_ble_eq_true rfl⟩) hP hD hS hA [2] [0, 1] rfl rfl (by decide) (by decide) ?_
  clear hP hD hS H locs
  refine fun u H locs hq hP hD hS => ?_
  obtain ⟨ca0746, ca1747⟩ := u
  replace hP : va_P D vwCl [(h0, .inr (7, [.ref q743, .null, .null, .null, .null, .int wp742])), (q743, .inl (y 4, 10, .inr (.inr (.inr (.inr (fun _ => none)))))), (q744, .inr (3, [.int (-1), .ref ca0746, .int 0, .long 0, .int 0, .int 0, .int 0, .int 0, .int 0, .int 0])), (ca0746, .inr (8, [.ref ca1747, .int 0])), (ca1747, .inl (y 1, 24, .inr (.inl (fun _ => 0))))] H := hP
  replace hD : va_D A [(h0, .inr (7, [.ref q743, .null, .null, .null, .null, .int wp742])), (q743, .inl (y 4, 10, .inr (.inr (.inr (.inr (fun _ => none)))))), (q744, .inr (3, [.int (-1), .ref ca0746, .int 0, .long 0, .int 0, .int 0, .int 0, .int 0, .int 0, .int 0])), (ca0746, .inr (8, [.ref ca1747, .int 0])), (ca1747, .inl (y 1, 24, .inr (.inl (fun _ => 0))))] := hD
  refine gm_putF (D := D) (ci := 7) (v := .ref q744) (ty := .object "Greentrunk$Check") (C := RX7) (T := TX7) (N := 6) hx hb hg inlX7 tyX7 tyX7_ok nmX7 hown hK.1 hP hD hS 0 rfl rfl 1 (by decide) tX7_1 (hg _ gw_82) hin rfl (by decide +kernel) rfl rfl (Nat.le_of_ble_eq_true rfl) dX7_init_22 ?_
  clear hP hD hS H locs
  refine fun H locs (hP : va_P D vwCl [(h0, .inr (7, [.ref q743, .ref q744, .null, .null, .null, .int wp742])), (q743, .inl (y 4, 10, .inr (.inr (.inr (.inr (fun _ => none)))))), (q744, .inr (3, [.int (-1), .ref ca0746, .int 0, .long 0, .int 0, .int 0, .int 0, .int 0, .int 0, .int 0])), (ca0746, .inr (8, [.ref ca1747, .int 0])), (ca1747, .inl (y 1, 24, .inr (.inl (fun _ => 0))))] H) (hD : va_D A [(h0, .inr (7, [.ref q743, .ref q744, .null, .null, .null, .int wp742])), (q743, .inl (y 4, 10, .inr (.inr (.inr (.inr (fun _ => none)))))), (q744, .inr (3, [.int (-1), .ref ca0746, .int 0, .long 0, .int 0, .int 0, .int 0, .int 0, .int 0, .int 0])), (ca0746, .inr (8, [.ref ca1747, .int 0])), (ca1747, .inl (y 1, 24, .inr (.inl (fun _ => 0))))]) hS => ?_
  refine lv_aload_n hx hb dX7_init_25 rfl (lv_at hl 0 rfl) ?_
  refine va_new (ci := 8) (fs := [.null, .int 0]) (C := RX8) (T := TX8) (N := 2) hx hb hg inlX8 tyX8 tyX8_ok hown (hg _ gw_83) (hg _ gw_47) (hg _ gw_48) hK.1 hP hD hS hA rfl dfX8 (Nat.le_of_ble_eq_true rfl) (Nat.le_of_ble_eq_true rfl) dX7_init_26 ?_
  clear hP hD hS H
  refine fun q748 H (hP : va_P D vwCl [(h0, .inr (7, [.ref q743, .ref q744, .null, .null, .null, .int wp742])), (q743, .inl (y 4, 10, .inr (.inr (.inr (.inr (fun _ => none)))))), (q744, .inr (3, [.int (-1), .ref ca0746, .int 0, .long 0, .int 0, .int 0, .int 0, .int 0, .int 0, .int 0])), (ca0746, .inr (8, [.ref ca1747, .int 0])), (ca1747, .inl (y 1, 24, .inr (.inl (fun _ => 0)))), (q748, .inr (8, [.null, .int 0]))] H) (hD : va_D A [(h0, .inr (7, [.ref q743, .ref q744, .null, .null, .null, .int wp742])), (q743, .inl (y 4, 10, .inr (.inr (.inr (.inr (fun _ => none)))))), (q744, .inr (3, [.int (-1), .ref ca0746, .int 0, .long 0, .int 0, .int 0, .int 0, .int 0, .int 0, .int 0])), (ca0746, .inr (8, [.ref ca1747, .int 0])), (ca1747, .inl (y 1, 24, .inr (.inl (fun _ => 0)))), (q748, .inr (8, [.null, .int 0]))]) hS => ?_
  refine lv_dup hx hb dX7_init_29 rfl ?_
  refine lv_bipush (v := 12) hx hb dX7_init_30 (by decide +kernel) ?_
  refine g_av (wr := [(h0, .inr (7, [.ref q743, .ref q744, .null, .null, .null, .int wp742])), (q743, .inl (y 4, 10, .inr (.inr (.inr (.inr (fun _ => none)))))), (q744, .inr (3, [.int (-1), .ref ca0746, .int 0, .long 0, .int 0, .int 0, .int 0, .int 0, .int 0, .int 0])), (ca0746, .inr (8, [.ref ca1747, .int 0])), (ca1747, .inl (y 1, 24, .inr (.inl (fun _ => 0))))]) (va_runI (As := [.int 12]) (rest := [.ref q748, .ref h0]) ⟨hx, hb, hml, hown, hg⟩ (k_X8_init_9 l D y aS H.size q748 0) (cwI 1 hg ggI_RX7_26_X8_init rfl rfl rfl (hg _ gw_48) (hg _ gw_99) (hg _ gw_95) rfl (by decide +kernel) ⟨Nat.le_of_ble_eq_true rfl, Nat.le_of_ble_eq_true rfl⟩) (g_preS hK hP hD [5] rfl (by decide)) rfl rfl hl.1 rfl (lv_room (Nat.le_of_ble_eq_true rfl)) dX7_init_32 ⟨Nat.le_of_ble_eq_true rfl, Nat.le_of_ble_eq_true rfl⟩) hP hD hS hA [5] [0, 1, 2, 3, 4] rfl rfl (by decide) (by decide) ?_
  clear hP hD hS H locs
  refine fun u H locs hq hP hD hS => ?_
  obtain ⟨ca0750, rfl⟩ : ∃ z9, z9 = u := ⟨_, rfl⟩
  replace hP : va_P D vwCl [(h0, .inr (7, [.ref q743, .ref q744, .null, .null, .null, .int wp742])), (q743, .inl (y 4, 10, .inr (.inr (.inr (.inr (fun _ => none)))))), (q744, .inr (3, [.int (-1), .ref ca0746, .int 0, .long 0, .int 0, .int 0, .int 0, .int 0, .int 0, .int 0])), (ca0746, .inr (8, [.ref ca1747, .int 0])), (ca1747, .inl (y 1, 24, .inr (.inl (fun _ => 0)))), (q748, .inr (8, [.ref ca0750, .int 0])), (ca0750, .inl (y 1, 12, .inr (.inl (fun _ => 0))))] H := hP
  replace hD : va_D A [(h0, .inr (7, [.ref q743, .ref q744, .null, .null, .null, .int wp742])), (q743, .inl (y 4, 10, .inr (.inr (.inr (.inr (fun _ => none)))))), (q744, .inr (3, [.int (-1), .ref ca0746, .int 0, .long 0, .int 0, .int 0, .int 0, .int 0, .int 0, .int 0])), (ca0746, .inr (8, [.ref ca1747, .int 0])), (ca1747, .inl (y 1, 24, .inr (.inl (fun _ => 0)))), (q748, .inr (8, [.ref ca0750, .int 0])), (ca0750, .inl (y 1, 12, .inr (.inl (fun _ => 0))))] := hD
  refine gm_putF (D := D) (ci := 7) (v := .ref q748) (ty := .object "Greentrunk$Row") (C := RX7) (T := TX7) (N := 6) hx hb hg inlX7 tyX7 tyX7_ok nmX7 hown hK.1 hP hD hS 0 rfl rfl 2 (by decide) tX7_2 (hg _ gw_84) hin rfl (by decide +kernel) rfl rfl (Nat.le_of_ble_eq_true rfl) dX7_init_35 ?_
  clear hP hD hS H locs
  refine fun H locs (hP : va_P D vwCl [(h0, .inr (7, [.ref q743, .ref q744, .ref q748, .null, .null, .int wp742])), (q743, .inl (y 4, 10, .inr (.inr (.inr (.inr (fun _ => none)))))), (q744, .inr (3, [.int (-1), .ref ca0746, .int 0, .long 0, .int 0, .int 0, .int 0, .int 0, .int 0, .int 0])), (ca0746, .inr (8, [.ref ca1747, .int 0])), (ca1747, .inl (y 1, 24, .inr (.inl (fun _ => 0)))), (q748, .inr (8, [.ref ca0750, .int 0])), (ca0750, .inl (y 1, 12, .inr (.inl (fun _ => 0))))] H) (hD : va_D A [(h0, .inr (7, [.ref q743, .ref q744, .ref q748, .null, .null, .int wp742])), (q743, .inl (y 4, 10, .inr (.inr (.inr (.inr (fun _ => none)))))), (q744, .inr (3, [.int (-1), .ref ca0746, .int 0, .long 0, .int 0, .int 0, .int 0, .int 0, .int 0, .int 0])), (ca0746, .inr (8, [.ref ca1747, .int 0])), (ca1747, .inl (y 1, 24, .inr (.inl (fun _ => 0)))), (q748, .inr (8, [.ref ca0750, .int 0])), (ca0750, .inl (y 1, 12, .inr (.inl (fun _ => 0))))]) hS => ?_
  refine lv_aload_n hx hb dX7_init_38 rfl (lv_at hl 0 rfl) ?_
  refine va_new (ci := 8) (fs := [.null, .int 0]) (C := RX8) (T := TX8) (N := 2) hx hb hg inlX8 tyX8 tyX8_ok hown (hg _ gw_83) (hg _ gw_47) (hg _ gw_48) hK.1 hP hD hS hA rfl dfX8 (Nat.le_of_ble_eq_true rfl) (Nat.le_of_ble_eq_true rfl) dX7_init_39 ?_
  clear hP hD hS H
  refine fun q751 H (hP : va_P D vwCl [(h0, .inr (7, [.ref q743, .ref q744, .ref q748, .null, .null, .int wp742])), (q743, .inl (y 4, 10, .inr (.inr (.inr (.inr (fun _ => none)))))), (q744, .inr (3, [.int (-1), .ref ca0746, .int 0, .long 0, .int 0, .int 0, .int 0, .int 0, .int 0, .int 0])), (ca0746, .inr (8, [.ref ca1747, .int 0])), (ca1747, .inl (y 1, 24, .inr (.inl (fun _ => 0)))), (q748, .inr (8, [.ref ca0750, .int 0])), (ca0750, .inl (y 1, 12, .inr (.inl (fun _ => 0)))), (q751, .inr (8, [.null, .int 0]))] H) (hD : va_D A [(h0, .inr (7, [.ref q743, .ref q744, .ref q748, .null, .null, .int wp742])), (q743, .inl (y 4, 10, .inr (.inr (.inr (.inr (fun _ => none)))))), (q744, .inr (3, [.int (-1), .ref ca0746, .int 0, .long 0, .int 0, .int 0, .int 0, .int 0, .int 0, .int 0])), (ca0746, .inr (8, [.ref ca1747, .int 0])), (ca1747, .inl (y 1, 24, .inr (.inl (fun _ => 0)))), (q748, .inr (8, [.ref ca0750, .int 0])), (ca0750, .inl (y 1, 12, .inr (.inl (fun _ => 0)))), (q751, .inr (8, [.null, .int 0]))]) hS => ?_
  refine lv_dup hx hb dX7_init_42 rfl ?_
  refine lv_bipush (v := 12) hx hb dX7_init_43 (by decide +kernel) ?_
  refine g_av (wr := [(h0, .inr (7, [.ref q743, .ref q744, .ref q748, .null, .null, .int wp742])), (q743, .inl (y 4, 10, .inr (.inr (.inr (.inr (fun _ => none)))))), (q744, .inr (3, [.int (-1), .ref ca0746, .int 0, .long 0, .int 0, .int 0, .int 0, .int 0, .int 0, .int 0])), (ca0746, .inr (8, [.ref ca1747, .int 0])), (ca1747, .inl (y 1, 24, .inr (.inl (fun _ => 0)))), (q748, .inr (8, [.ref ca0750, .int 0])), (ca0750, .inl (y 1, 12, .inr (.inl (fun _ => 0))))]) (va_runI (As := [.int 12]) (rest := [.ref q751, .ref h0]) ⟨hx, hb, hml, hown, hg⟩ (k_X8_init_9 l D y aS H.size q751 0) (cwI 1 hg ggI_RX7_26_X8_init rfl rfl rfl (hg _ gw_48) (hg _ gw_99) (hg _ gw_95) rfl (by decide +kernel) ⟨Nat.le_of_ble_eq_true rfl, Nat.le_of_ble_eq_true rfl⟩) (g_preS hK hP hD [7] rfl (by decide)) rfl rfl hl.1 rfl (lv_room (Nat.le_of_ble_eq_true rfl)) dX7_init_45 ⟨Nat.le_of_ble_eq_true rfl, Nat.le_of_ble_eq_true rfl⟩) hP hD hS hA [7] [0, 1, 2, 3, 4, 5, 6] rfl rfl (by decide) (by decide) ?_
  clear hP hD hS H locs
  refine fun u H locs hq hP hD hS => ?_
  obtain ⟨ca0753, rfl⟩ : ∃ z9, z9 = u := ⟨_, rfl⟩
  replace hP : va_P D vwCl [(h0, .inr (7, [.ref q743, .ref q744, .ref q748, .null, .null, .int wp742])), (q743, .inl (y 4, 10, .inr (.inr (.inr (.inr (fun _ => none)))))), (q744, .inr (3, [.int (-1), .ref ca0746, .int 0, .long 0, .int 0, .int 0, .int 0, .int 0, .int 0, .int 0])), (ca0746, .inr (8, [.ref ca1747, .int 0])), (ca1747, .inl (y 1, 24, .inr (.inl (fun _ => 0)))), (q748, .inr (8, [.ref ca0750, .int 0])), (ca0750, .inl (y 1, 12, .inr (.inl (fun _ => 0)))), (q751, .inr (8, [.ref ca0753, .int 0])), (ca0753, .inl (y 1, 12, .inr (.inl (fun _ => 0))))] H := hP
  replace hD : va_D A [(h0, .inr (7, [.ref q743, .ref q744, .ref q748, .null, .null, .int wp742])), (q743, .inl (y 4, 10, .inr (.inr (.inr (.inr (fun _ => none)))))), (q744, .inr (3, [.int (-1), .ref ca0746, .int 0, .long 0, .int 0, .int 0, .int 0, .int 0, .int 0, .int 0])), (ca0746, .inr (8, [.ref ca1747, .int 0])), (ca1747, .inl (y 1, 24, .inr (.inl (fun _ => 0)))), (q748, .inr (8, [.ref ca0750, .int 0])), (ca0750, .inl (y 1, 12, .inr (.inl (fun _ => 0)))), (q751, .inr (8, [.ref ca0753, .int 0])), (ca0753, .inl (y 1, 12, .inr (.inl (fun _ => 0))))] := hD
  refine gm_putF (D := D) (ci := 7) (v := .ref q751) (ty := .object "Greentrunk$Row") (C := RX7) (T := TX7) (N := 6) hx hb hg inlX7 tyX7 tyX7_ok nmX7 hown hK.1 hP hD hS 0 rfl rfl 3 (by decide) tX7_3 (hg _ gw_85) hin rfl (by decide +kernel) rfl rfl (Nat.le_of_ble_eq_true rfl) dX7_init_48 ?_
  clear hP hD hS H locs
  refine fun H locs (hP : va_P D vwCl [(h0, .inr (7, [.ref q743, .ref q744, .ref q748, .ref q751, .null, .int wp742])), (q743, .inl (y 4, 10, .inr (.inr (.inr (.inr (fun _ => none)))))), (q744, .inr (3, [.int (-1), .ref ca0746, .int 0, .long 0, .int 0, .int 0, .int 0, .int 0, .int 0, .int 0])), (ca0746, .inr (8, [.ref ca1747, .int 0])), (ca1747, .inl (y 1, 24, .inr (.inl (fun _ => 0)))), (q748, .inr (8, [.ref ca0750, .int 0])), (ca0750, .inl (y 1, 12, .inr (.inl (fun _ => 0)))), (q751, .inr (8, [.ref ca0753, .int 0])), (ca0753, .inl (y 1, 12, .inr (.inl (fun _ => 0))))] H) (hD : va_D A [(h0, .inr (7, [.ref q743, .ref q744, .ref q748, .ref q751, .null, .int wp742])), (q743, .inl (y 4, 10, .inr (.inr (.inr (.inr (fun _ => none)))))), (q744, .inr (3, [.int (-1), .ref ca0746, .int 0, .long 0, .int 0, .int 0, .int 0, .int 0, .int 0, .int 0])), (ca0746, .inr (8, [.ref ca1747, .int 0])), (ca1747, .inl (y 1, 24, .inr (.inl (fun _ => 0)))), (q748, .inr (8, [.ref ca0750, .int 0])), (ca0750, .inl (y 1, 12, .inr (.inl (fun _ => 0)))), (q751, .inr (8, [.ref ca0753, .int 0])), (ca0753, .inl (y 1, 12, .inr (.inl (fun _ => 0))))]) hS => ?_
  refine lv_aload_n hx hb dX7_init_51 rfl (lv_at hl 0 rfl) ?_
  refine va_new (ci := 8) (fs := [.null, .int 0]) (C := RX8) (T := TX8) (N := 2) hx hb hg inlX8 tyX8 tyX8_ok hown (hg _ gw_83) (hg _ gw_47) (hg _ gw_48) hK.1 hP hD hS hA rfl dfX8 (Nat.le_of_ble_eq_true rfl) (Nat.le_of_ble_eq_true rfl) dX7_init_52 ?_
  clear hP hD hS H
  refine fun q754 H (hP : va_P D vwCl [(h0, .inr (7, [.ref q743, .ref q744, .ref q748, .ref q751, .null, .int wp742])), (q743, .inl (y 4, 10, .inr (.inr (.inr (.inr (fun _ => none)))))), (q744, .inr (3, [.int (-1), .ref ca0746, .int 0, .long 0, .int 0, .int 0, .int 0, .int 0, .int 0, .int 0])), (ca0746, .inr (8, [.ref ca1747, .int 0])), (ca1747, .inl (y 1, 24, .inr (.inl (fun _ => 0)))), (q748, .inr (8, [.ref ca0750, .int 0])), (ca0750, .inl (y 1, 12, .inr (.inl (fun _ => 0)))), (q751, .inr (8, [.ref ca0753, .int 0])), (ca0753, .inl (y 1, 12, .inr (.inl (fun _ => 0)))), (q754, .inr (8, [.null, .int 0]))] H) (hD : va_D A [(h0, .inr (7, [.ref q743, .ref q744, .ref q748, .ref q751, .null, .int wp742])), (q743, .inl (y 4, 10, .inr (.inr (.inr (.inr (fun _ => none)))))), (q744, .inr (3, [.int (-1), .ref ca0746, .int 0, .long 0, .int 0, .int 0, .int 0, .int 0, .int 0, .int 0])), (ca0746, .inr (8, [.ref ca1747, .int 0])), (ca1747, .inl (y 1, 24, .inr (.inl (fun _ => 0)))), (q748, .inr (8, [.ref ca0750, .int 0])), (ca0750, .inl (y 1, 12, .inr (.inl (fun _ => 0)))), (q751, .inr (8, [.ref ca0753, .int 0])), (ca0753, .inl (y 1, 12, .inr (.inl (fun _ => 0)))), (q754, .inr (8, [.null, .int 0]))]) hS => ?_
  refine lv_dup hx hb dX7_init_55 rfl ?_
  refine lv_bipush (v := 12) hx hb dX7_init_56 (by decide +kernel) ?_
  refine g_av (wr := [(h0, .inr (7, [.ref q743, .ref q744, .ref q748, .ref q751, .null, .int wp742])), (q743, .inl (y 4, 10, .inr (.inr (.inr (.inr (fun _ => none)))))), (q744, .inr (3, [.int (-1), .ref ca0746, .int 0, .long 0, .int 0, .int 0, .int 0, .int 0, .int 0, .int 0])), (ca0746, .inr (8, [.ref ca1747, .int 0])), (ca1747, .inl (y 1, 24, .inr (.inl (fun _ => 0)))), (q748, .inr (8, [.ref ca0750, .int 0])), (ca0750, .inl (y 1, 12, .inr (.inl (fun _ => 0)))), (q751, .inr (8, [.ref ca0753, .int 0])), (ca0753, .inl (y 1, 12, .inr (.inl (fun _ => 0))))]) (va_runI (As := [.int 12]) (rest := [.ref q754, .ref h0]) ⟨hx, hb, hml, hown, hg⟩ (k_X8_init_9 l D y aS H.size q754 0) (cwI 1 hg ggI_RX7_26_X8_init rfl rfl rfl (hg _ gw_48) (hg _ gw_99) (hg _ gw_95) rfl (by decide +kernel) ⟨Nat.le_of_ble_eq_true rfl, Nat.le_of_ble_eq_true rfl⟩) (g_preS hK hP hD [9] rfl (by decide)) rfl rfl hl.1 rfl (lv_room (Nat.le_of_ble_eq_true rfl)) dX7_init_58 ⟨Nat.le_of_ble_eq_true rfl, Nat.le_of_ble_eq_true rfl⟩) hP hD hS hA [9] [0, 1, 2, 3, 4, 5, 6, 7, 8] rfl rfl (by decide) (by decide) ?_
  clear hP hD hS H locs
  refine fun u H locs hq hP hD hS => ?_
  obtain ⟨ca0756, rfl⟩ : ∃ z9, z9 = u := ⟨_, rfl⟩
  replace hP : va_P D vwCl [(h0, .inr (7, [.ref q743, .ref q744, .ref q748, .ref q751, .null, .int wp742])), (q743, .inl (y 4, 10, .inr (.inr (.inr (.inr (fun _ => none)))))), (q744, .inr (3, [.int (-1), .ref ca0746, .int 0, .long 0, .int 0, .int 0, .int 0, .int 0, .int 0, .int 0])), (ca0746, .inr (8, [.ref ca1747, .int 0])), (ca1747, .inl (y 1, 24, .inr (.inl (fun _ => 0)))), (q748, .inr (8, [.ref ca0750, .int 0])), (ca0750, .inl (y 1, 12, .inr (.inl (fun _ => 0)))), (q751, .inr (8, [.ref ca0753, .int 0])), (ca0753, .inl (y 1, 12, .inr (.inl (fun _ => 0)))), (q754, .inr (8, [.ref ca0756, .int 0])), (ca0756, .inl (y 1, 12, .inr (.inl (fun _ => 0))))] H := hP
  replace hD : va_D A [(h0, .inr (7, [.ref q743, .ref q744, .ref q748, .ref q751, .null, .int wp742])), (q743, .inl (y 4, 10, .inr (.inr (.inr (.inr (fun _ => none)))))), (q744, .inr (3, [.int (-1), .ref ca0746, .int 0, .long 0, .int 0, .int 0, .int 0, .int 0, .int 0, .int 0])), (ca0746, .inr (8, [.ref ca1747, .int 0])), (ca1747, .inl (y 1, 24, .inr (.inl (fun _ => 0)))), (q748, .inr (8, [.ref ca0750, .int 0])), (ca0750, .inl (y 1, 12, .inr (.inl (fun _ => 0)))), (q751, .inr (8, [.ref ca0753, .int 0])), (ca0753, .inl (y 1, 12, .inr (.inl (fun _ => 0)))), (q754, .inr (8, [.ref ca0756, .int 0])), (ca0756, .inl (y 1, 12, .inr (.inl (fun _ => 0))))] := hD
  refine gm_putF (D := D) (ci := 7) (v := .ref q754) (ty := .object "Greentrunk$Row") (C := RX7) (T := TX7) (N := 6) hx hb hg inlX7 tyX7 tyX7_ok nmX7 hown hK.1 hP hD hS 0 rfl rfl 4 (by decide) tX7_4 (hg _ gw_86) hin rfl (by decide +kernel) rfl rfl (Nat.le_of_ble_eq_true rfl) dX7_init_61 ?_
  clear hP hD hS H locs
  refine fun H locs (hP : va_P D vwCl [(h0, .inr (7, [.ref q743, .ref q744, .ref q748, .ref q751, .ref q754, .int wp742])), (q743, .inl (y 4, 10, .inr (.inr (.inr (.inr (fun _ => none)))))), (q744, .inr (3, [.int (-1), .ref ca0746, .int 0, .long 0, .int 0, .int 0, .int 0, .int 0, .int 0, .int 0])), (ca0746, .inr (8, [.ref ca1747, .int 0])), (ca1747, .inl (y 1, 24, .inr (.inl (fun _ => 0)))), (q748, .inr (8, [.ref ca0750, .int 0])), (ca0750, .inl (y 1, 12, .inr (.inl (fun _ => 0)))), (q751, .inr (8, [.ref ca0753, .int 0])), (ca0753, .inl (y 1, 12, .inr (.inl (fun _ => 0)))), (q754, .inr (8, [.ref ca0756, .int 0])), (ca0756, .inl (y 1, 12, .inr (.inl (fun _ => 0))))] H) (hD : va_D A [(h0, .inr (7, [.ref q743, .ref q744, .ref q748, .ref q751, .ref q754, .int wp742])), (q743, .inl (y 4, 10, .inr (.inr (.inr (.inr (fun _ => none)))))), (q744, .inr (3, [.int (-1), .ref ca0746, .int 0, .long 0, .int 0, .int 0, .int 0, .int 0, .int 0, .int 0])), (ca0746, .inr (8, [.ref ca1747, .int 0])), (ca1747, .inl (y 1, 24, .inr (.inl (fun _ => 0)))), (q748, .inr (8, [.ref ca0750, .int 0])), (ca0750, .inl (y 1, 12, .inr (.inl (fun _ => 0)))), (q751, .inr (8, [.ref ca0753, .int 0])), (ca0753, .inl (y 1, 12, .inr (.inl (fun _ => 0)))), (q754, .inr (8, [.ref ca0756, .int 0])), (ca0756, .inl (y 1, 12, .inr (.inl (fun _ => 0))))]) hS => ?_
  refine lv_iconst (v := 0) hx hb dX7_init_64 (by decide) ?_
  refine lv_istore_n (lv' := [(1, .int 0), (0, .ref h0)]) hx hb dX7_init_65 rfl hl (by decide) rfl ?_
  clear hl
  clear ls
  intro ls hl
  refine lv_iload_n hx hb dX7_init_66 rfl (lv_at hl 0 rfl) ?_
  refine lv_aload_n hx hb dX7_init_67 rfl (lv_at hl 1 rfl) ?_
  refine gm_get (D := D) (ci := 7) (v := .ref q743) (C := RX7) (T := TX7) (N := 6) hx hb hg inlX7 hown hK.1 hP 0 rfl rfl 0 (by decide) tX7_0 (hg _ gw_79) rfl dX7_init_68 ?_
  refine va_alen hx hb hK.1 hP 1 4 rfl rfl (v := 10) rfl dX7_init_71 ?_
  refine lv_icmp_ge (tgt := 95) hx hb dX7_init_72 (by decide) (fun c9 => absurd c9 (by decide +kernel)) (fun _ => ?_)
  refine lv_aload_n hx hb dX7_init_75 rfl (lv_at hl 1 rfl) ?_
  refine gm_get (D := D) (ci := 7) (v := .ref q743) (C := RX7) (T := TX7) (N := 6) hx hb hg inlX7 hown hK.1 hP 0 rfl rfl 0 (by decide) tX7_0 (hg _ gw_79) rfl dX7_init_76 ?_
  refine lv_iload_n hx hb dX7_init_79 rfl (lv_at hl 0 rfl) ?_
  refine va_new (ci := 3) (fs := [.int 0, .null, .int 0, .long 0, .int 0, .int 0, .int 0, .int 0, .int 0, .int 0]) (C := RX3) (T := TX3) (N := 10) hx hb hg inlX3 tyX3 tyX3_ok hown (hg _ gw_78) (hg _ gw_80) (hg _ gw_81) hK.1 hP hD hS hA rfl dfX3 (Nat.le_of_ble_eq_true rfl) (Nat.le_of_ble_eq_true rfl) dX7_init_80 ?_
  clear hP hD hS H
  refine fun q757 H (hP : va_P D vwCl [(h0, .inr (7, [.ref q743, .ref q744, .ref q748, .ref q751, .ref q754, .int wp742])), (q743, .inl (y 4, 10, .inr (.inr (.inr (.inr (fun _ => none)))))), (q744, .inr (3, [.int (-1), .ref ca0746, .int 0, .long 0, .int 0, .int 0, .int 0, .int 0, .int 0, .int 0])), (ca0746, .inr (8, [.ref ca1747, .int 0])), (ca1747, .inl (y 1, 24, .inr (.inl (fun _ => 0)))), (q748, .inr (8, [.ref ca0750, .int 0])), (ca0750, .inl (y 1, 12, .inr (.inl (fun _ => 0)))), (q751, .inr (8, [.ref ca0753, .int 0])), (ca0753, .inl (y 1, 12, .inr (.inl (fun _ => 0)))), (q754, .inr (8, [.ref ca0756, .int 0])), (ca0756, .inl (y 1, 12, .inr (.inl (fun _ => 0)))), (q757, .inr (3, [.int 0, .null, .int 0, .long 0, .int 0, .int 0, .int 0, .int 0, .int 0, .int 0]))] H) (hD : va_D A [(h0, .inr (7, [.ref q743, .ref q744, .ref q748, .ref q751, .ref q754, .int wp742])), (q743, .inl (y 4, 10, .inr (.inr (.inr (.inr (fun _ => none)))))), (q744, .inr (3, [.int (-1), .ref ca0746, .int 0, .long 0, .int 0, .int 0, .int 0, .int 0, .int 0, .int 0])), (ca0746, .inr (8, [.ref ca1747, .int 0])), (ca1747, .inl (y 1, 24, .inr (.inl (fun _ => 0)))), (q748, .inr (8, [.ref ca0750, .int 0])), (ca0750, .inl (y 1, 12, .inr (.inl (fun _ => 0)))), (q751, .inr (8, [.ref ca0753, .int 0])), (ca0753, .inl (y 1, 12, .inr (.inl (fun _ => 0)))), (q754, .inr (8, [.ref ca0756, .int 0])), (ca0756, .inl (y 1, 12, .inr (.inl (fun _ => 0)))), (q757, .inr (3, [.int 0, .null, .int 0, .long 0, .int 0, .int 0, .int 0, .int 0, .int 0, .int 0]))]) hS => ?_
  refine lv_dup hx hb dX7_init_83 rfl ?_
  refine lv_iload_n hx hb dX7_init_84 rfl (lv_at hl 0 rfl) ?_
  refine g_av (wr := [(h0, .inr (7, [.ref q743, .ref q744, .ref q748, .ref q751, .ref q754, .int wp742])), (q743, .inl (y 4, 10, .inr (.inr (.inr (.inr (fun _ => none)))))), (q744, .inr (3, [.int (-1), .ref ca0746, .int 0, .long 0, .int 0, .int 0, .int 0, .int 0, .int 0, .int 0])), (ca0746, .inr (8, [.ref ca1747, .int 0])), (ca1747, .inl (y 1, 24, .inr (.inl (fun _ => 0)))), (q748, .inr (8, [.ref ca0750, .int 0])), (ca0750, .inl (y 1, 12, .inr (.inl (fun _ => 0)))), (q751, .inr (8, [.ref ca0753, .int 0])), (ca0753, .inl (y 1, 12, .inr (.inl (fun _ => 0)))), (q754, .inr (8, [.ref ca0756, .int 0])), (ca0756, .inl (y 1, 12, .inr (.inl (fun _ => 0))))]) (va_runI (As := [.int 0]) (rest := [.ref q757, .int 0, .ref q743]) ⟨hx, hb, hml, hown, hg⟩ (k_X3_init_1 l D y aS H.size q757 0 0 0 0 0 0 0 0 0) (cwI 1 hg ggI_RX7_17_X3_init rfl rfl rfl (hg _ gw_81) (hg _ gw_87) (hg _ gw_88) rfl (by decide +kernel) ⟨Nat.le_of_ble_eq_true rfl, Nat.le_of_ble_eq_true rfl⟩) (g_preS hK hP hD [11] rfl (by decide)) rfl rfl hl.1 rfl (lv_room (Nat.le_of_ble_eq_true rfl)) dX7_init_85 ⟨Nat.le_of_ble_eq_true rfl, Nat.le_of_ble_eq_true rfl⟩) hP hD hS hA [11] [0, 1, 2, 3, 4, 5, 6, 7, 8, 9, 10] rfl rfl (by decide) (by decide) ?_
  clear hP hD hS H locs
  refine fun u H locs hq hP hD hS => ?_
  obtain ⟨ca0759, ca1760⟩ := u
  replace hP : va_P D vwCl [(h0, .inr (7, [.ref q743, .ref q744, .ref q748, .ref q751, .ref q754, .int wp742])), (q743, .inl (y 4, 10, .inr (.inr (.inr (.inr (fun _ => none)))))), (q744, .inr (3, [.int (-1), .ref ca0746, .int 0, .long 0, .int 0, .int 0, .int 0, .int 0, .int 0, .int 0])), (ca0746, .inr (8, [.ref ca1747, .int 0])), (ca1747, .inl (y 1, 24, .inr (.inl (fun _ => 0)))), (q748, .inr (8, [.ref ca0750, .int 0])), (ca0750, .inl (y 1, 12, .inr (.inl (fun _ => 0)))), (q751, .inr (8, [.ref ca0753, .int 0])), (ca0753, .inl (y 1, 12, .inr (.inl (fun _ => 0)))), (q754, .inr (8, [.ref ca0756, .int 0])), (ca0756, .inl (y 1, 12, .inr (.inl (fun _ => 0)))), (q757, .inr (3, [.int 0, .ref ca0759, .int 0, .long 0, .int 0, .int 0, .int 0, .int 0, .int 0, .int 0])), (ca0759, .inr (8, [.ref ca1760, .int 0])), (ca1760, .inl (y 1, 24, .inr (.inl (fun _ => 0))))] H := hP
  replace hD : va_D A [(h0, .inr (7, [.ref q743, .ref q744, .ref q748, .ref q751, .ref q754, .int wp742])), (q743, .inl (y 4, 10, .inr (.inr (.inr (.inr (fun _ => none)))))), (q744, .inr (3, [.int (-1), .ref ca0746, .int 0, .long 0, .int 0, .int 0, .int 0, .int 0, .int 0, .int 0])), (ca0746, .inr (8, [.ref ca1747, .int 0])), (ca1747, .inl (y 1, 24, .inr (.inl (fun _ => 0)))), (q748, .inr (8, [.ref ca0750, .int 0])), (ca0750, .inl (y 1, 12, .inr (.inl (fun _ => 0)))), (q751, .inr (8, [.ref ca0753, .int 0])), (ca0753, .inl (y 1, 12, .inr (.inl (fun _ => 0)))), (q754, .inr (8, [.ref ca0756, .int 0])), (ca0756, .inl (y 1, 12, .inr (.inl (fun _ => 0)))), (q757, .inr (3, [.int 0, .ref ca0759, .int 0, .long 0, .int 0, .int 0, .int 0, .int 0, .int 0, .int 0])), (ca0759, .inr (8, [.ref ca1760, .int 0])), (ca1760, .inl (y 1, 24, .inr (.inl (fun _ => 0))))] := hD
  refine va_astq (r := (RX3, TX3, 10)) hx hb hK.1 hP hD hS 1 4 11 3 rfl rfl rfl rfl (by unfold vp_in; decide +kernel) dX7_init_88 ?_
  clear hP hD hS H locs
  refine fun H locs (hP : va_P D vwCl [(h0, .inr (7, [.ref q743, .ref q744, .ref q748, .ref q751, .ref q754, .int wp742])), (q743, .inl (y 4, 10, .inr (.inr (.inr (.inr (va_up (fun _ => none) ((0 : Int32).toNatClampNeg) (some q757))))))), (q744, .inr (3, [.int (-1), .ref ca0746, .int 0, .long 0, .int 0, .int 0, .int 0, .int 0, .int 0, .int 0])), (ca0746, .inr (8, [.ref ca1747, .int 0])), (ca1747, .inl (y 1, 24, .inr (.inl (fun _ => 0)))), (q748, .inr (8, [.ref ca0750, .int 0])), (ca0750, .inl (y 1, 12, .inr (.inl (fun _ => 0)))), (q751, .inr (8, [.ref ca0753, .int 0])), (ca0753, .inl (y 1, 12, .inr (.inl (fun _ => 0)))), (q754, .inr (8, [.ref ca0756, .int 0])), (ca0756, .inl (y 1, 12, .inr (.inl (fun _ => 0)))), (q757, .inr (3, [.int 0, .ref ca0759, .int 0, .long 0, .int 0, .int 0, .int 0, .int 0, .int 0, .int 0])), (ca0759, .inr (8, [.ref ca1760, .int 0])), (ca1760, .inl (y 1, 24, .inr (.inl (fun _ => 0))))] H) (hD : va_D A [(h0, .inr (7, [.ref q743, .ref q744, .ref q748, .ref q751, .ref q754, .int wp742])), (q743, .inl (y 4, 10, .inr (.inr (.inr (.inr (va_up (fun _ => none) ((0 : Int32).toNatClampNeg) (some q757))))))), (q744, .inr (3, [.int (-1), .ref ca0746, .int 0, .long 0, .int 0, .int 0, .int 0, .int 0, .int 0, .int 0])), (ca0746, .inr (8, [.ref ca1747, .int 0])), (ca1747, .inl (y 1, 24, .inr (.inl (fun _ => 0)))), (q748, .inr (8, [.ref ca0750, .int 0])), (ca0750, .inl (y 1, 12, .inr (.inl (fun _ => 0)))), (q751, .inr (8, [.ref ca0753, .int 0])), (ca0753, .inl (y 1, 12, .inr (.inl (fun _ => 0)))), (q754, .inr (8, [.ref ca0756, .int 0])), (ca0756, .inl (y 1, 12, .inr (.inl (fun _ => 0)))), (q757, .inr (3, [.int 0, .ref ca0759, .int 0, .long 0, .int 0, .int 0, .int 0, .int 0, .int 0, .int 0])), (ca0759, .inr (8, [.ref ca1760, .int 0])), (ca1760, .inl (y 1, 24, .inr (.inl (fun _ => 0))))]) hS => ?_
  refine lv_iinc (v := 1) (lv' := [(1, .int 1), (0, .ref h0)]) hx hb dX7_init_89 hl (k := 0) rfl (by decide +kernel) (by decide) rfl ?_
  clear hl
  clear ls
  intro ls hl
  refine lv_goto (tgt := 66) hx hb dX7_init_92 (by decide) ?_
  replace hP := hP.sub (ws' := [(h0, .inr (7, [.ref q743, .ref q744, .ref q748, .ref q751, .ref q754, .int wp742])), (q743, .inl (y 4, 10, .inr (.inr (.inr (.inr (va_up (fun _ => none) ((0 : Int32).toNatClampNeg) (some q757))))))), (q757, .inr (3, [.int 0, .ref ca0759, .int 0, .long 0, .int 0, .int 0, .int 0, .int 0, .int 0, .int 0]))]) [0, 1, 11] rfl
  replace hD := hD.sub (ws' := [(h0, .inr (7, [.ref q743, .ref q744, .ref q748, .ref q751, .ref q754, .int wp742])), (q743, .inl (y 4, 10, .inr (.inr (.inr (.inr (va_up (fun _ => none) ((0 : Int32).toNatClampNeg) (some q757))))))), (q757, .inr (3, [.int 0, .ref ca0759, .int 0, .long 0, .int 0, .int 0, .int 0, .int 0, .int 0, .int 0]))]) [0, 1, 11] (by decide +kernel) rfl
  refine lv_iload_n hx hb dX7_init_66 rfl (lv_at hl 0 rfl) ?_
  refine lv_aload_n hx hb dX7_init_67 rfl (lv_at hl 1 rfl) ?_
  refine gm_get (D := D) (ci := 7) (v := .ref q743) (C := RX7) (T := TX7) (N := 6) hx hb hg inlX7 hown hK.1 hP 0 rfl rfl 0 (by decide) tX7_0 (hg _ gw_79) rfl dX7_init_68 ?_
  refine va_alen hx hb hK.1 hP 1 4 rfl rfl (v := 10) rfl dX7_init_71 ?_
  refine lv_icmp_ge (tgt := 95) hx hb dX7_init_72 (by decide) (fun c9 => absurd c9 (by decide +kernel)) (fun _ => ?_)
  refine lv_aload_n hx hb dX7_init_75 rfl (lv_at hl 1 rfl) ?_
  refine gm_get (D := D) (ci := 7) (v := .ref q743) (C := RX7) (T := TX7) (N := 6) hx hb hg inlX7 hown hK.1 hP 0 rfl rfl 0 (by decide) tX7_0 (hg _ gw_79) rfl dX7_init_76 ?_
  refine lv_iload_n hx hb dX7_init_79 rfl (lv_at hl 0 rfl) ?_
  refine va_new (ci := 3) (fs := [.int 0, .null, .int 0, .long 0, .int 0, .int 0, .int 0, .int 0, .int 0, .int 0]) (C := RX3) (T := TX3) (N := 10) hx hb hg inlX3 tyX3 tyX3_ok hown (hg _ gw_78) (hg _ gw_80) (hg _ gw_81) hK.1 hP hD hS hA rfl dfX3 (Nat.le_of_ble_eq_true rfl) (Nat.le_of_ble_eq_true rfl) dX7_init_80 ?_
  clear hP hD hS H
  refine fun q761 H (hP : va_P D vwCl [(h0, .inr (7, [.ref q743, .ref q744, .ref q748, .ref q751, .ref q754, .int wp742])), (q743, .inl (y 4, 10, .inr (.inr (.inr (.inr (va_up (fun _ => none) ((0 : Int32).toNatClampNeg) (some q757))))))), (q757, .inr (3, [.int 0, .ref ca0759, .int 0, .long 0, .int 0, .int 0, .int 0, .int 0, .int 0, .int 0])), (q761, .inr (3, [.int 0, .null, .int 0, .long 0, .int 0, .int 0, .int 0, .int 0, .int 0, .int 0]))] H) (hD : va_D A [(h0, .inr (7, [.ref q743, .ref q744, .ref q748, .ref q751, .ref q754, .int wp742])), (q743, .inl (y 4, 10, .inr (.inr (.inr (.inr (va_up (fun _ => none) ((0 : Int32).toNatClampNeg) (some q757))))))), (q757, .inr (3, [.int 0, .ref ca0759, .int 0, .long 0, .int 0, .int 0, .int 0, .int 0, .int 0, .int 0])), (q761, .inr (3, [.int 0, .null, .int 0, .long 0, .int 0, .int 0, .int 0, .int 0, .int 0, .int 0]))]) hS => ?_
  refine lv_dup hx hb dX7_init_83 rfl ?_
  refine lv_iload_n hx hb dX7_init_84 rfl (lv_at hl 0 rfl) ?_
  refine g_av (wr := [(h0, .inr (7, [.ref q743, .ref q744, .ref q748, .ref q751, .ref q754, .int wp742])), (q743, .inl (y 4, 10, .inr (.inr (.inr (.inr (va_up (fun _ => none) ((0 : Int32).toNatClampNeg) (some q757))))))), (q757, .inr (3, [.int 0, .ref ca0759, .int 0, .long 0, .int 0, .int 0, .int 0, .int 0, .int 0, .int 0]))]) (va_runI (As := [.int 1]) (rest := [.ref q761, .int 1, .ref q743]) ⟨hx, hb, hml, hown, hg⟩ (k_X3_init_2 l D y aS H.size q761 0 0 0 0 0 0 0 0 0) (cwI 1 hg ggI_RX7_17_X3_init rfl rfl rfl (hg _ gw_81) (hg _ gw_87) (hg _ gw_88) rfl (by decide +kernel) ⟨Nat.le_of_ble_eq_true rfl, Nat.le_of_ble_eq_true rfl⟩) (g_preS hK hP hD [3] rfl (by decide)) rfl rfl hl.1 rfl (lv_room (Nat.le_of_ble_eq_true rfl)) dX7_init_85 ⟨Nat.le_of_ble_eq_true rfl, Nat.le_of_ble_eq_true rfl⟩) hP hD hS hA [3] [0, 1, 2] rfl rfl (by decide) (by decide) ?_
  clear hP hD hS H locs
  refine fun u H locs hq hP hD hS => ?_
  obtain ⟨ca0763, ca1764⟩ := u
  replace hP : va_P D vwCl [(h0, .inr (7, [.ref q743, .ref q744, .ref q748, .ref q751, .ref q754, .int wp742])), (q743, .inl (y 4, 10, .inr (.inr (.inr (.inr (va_up (fun _ => none) ((0 : Int32).toNatClampNeg) (some q757))))))), (q757, .inr (3, [.int 0, .ref ca0759, .int 0, .long 0, .int 0, .int 0, .int 0, .int 0, .int 0, .int 0])), (q761, .inr (3, [.int 1, .ref ca0763, .int 0, .long 0, .int 0, .int 0, .int 0, .int 0, .int 0, .int 0])), (ca0763, .inr (8, [.ref ca1764, .int 0])), (ca1764, .inl (y 1, 24, .inr (.inl (fun _ => 0))))] H := hP
  replace hD : va_D A [(h0, .inr (7, [.ref q743, .ref q744, .ref q748, .ref q751, .ref q754, .int wp742])), (q743, .inl (y 4, 10, .inr (.inr (.inr (.inr (va_up (fun _ => none) ((0 : Int32).toNatClampNeg) (some q757))))))), (q757, .inr (3, [.int 0, .ref ca0759, .int 0, .long 0, .int 0, .int 0, .int 0, .int 0, .int 0, .int 0])), (q761, .inr (3, [.int 1, .ref ca0763, .int 0, .long 0, .int 0, .int 0, .int 0, .int 0, .int 0, .int 0])), (ca0763, .inr (8, [.ref ca1764, .int 0])), (ca1764, .inl (y 1, 24, .inr (.inl (fun _ => 0))))] := hD
  refine va_astq (r := (RX3, TX3, 10)) hx hb hK.1 hP hD hS 1 4 3 3 rfl rfl rfl rfl (by unfold vp_in; decide +kernel) dX7_init_88 ?_
  clear hP hD hS H locs
  refine fun H locs (hP : va_P D vwCl [(h0, .inr (7, [.ref q743, .ref q744, .ref q748, .ref q751, .ref q754, .int wp742])), (q743, .inl (y 4, 10, .inr (.inr (.inr (.inr (va_up (va_up (fun _ => none) ((0 : Int32).toNatClampNeg) (some q757)) ((1 : Int32).toNatClampNeg) (some q761))))))), (q757, .inr (3, [.int 0, .ref ca0759, .int 0, .long 0, .int 0, .int 0, .int 0, .int 0, .int 0, .int 0])), (q761, .inr (3, [.int 1, .ref ca0763, .int 0, .long 0, .int 0, .int 0, .int 0, .int 0, .int 0, .int 0])), (ca0763, .inr (8, [.ref ca1764, .int 0])), (ca1764, .inl (y 1, 24, .inr (.inl (fun _ => 0))))] H) (hD : va_D A [(h0, .inr (7, [.ref q743, .ref q744, .ref q748, .ref q751, .ref q754, .int wp742])), (q743, .inl (y 4, 10, .inr (.inr (.inr (.inr (va_up (va_up (fun _ => none) ((0 : Int32).toNatClampNeg) (some q757)) ((1 : Int32).toNatClampNeg) (some q761))))))), (q757, .inr (3, [.int 0, .ref ca0759, .int 0, .long 0, .int 0, .int 0, .int 0, .int 0, .int 0, .int 0])), (q761, .inr (3, [.int 1, .ref ca0763, .int 0, .long 0, .int 0, .int 0, .int 0, .int 0, .int 0, .int 0])), (ca0763, .inr (8, [.ref ca1764, .int 0])), (ca1764, .inl (y 1, 24, .inr (.inl (fun _ => 0))))]) hS => ?_
  refine lv_iinc (v := 2) (lv' := [(1, .int 2), (0, .ref h0)]) hx hb dX7_init_89 hl (k := 0) rfl (by decide +kernel) (by decide) rfl ?_
  clear hl
  clear ls
  intro ls hl
  refine lv_goto (tgt := 66) hx hb dX7_init_92 (by decide) ?_
  replace hP := hP.sub (ws' := [(h0, .inr (7, [.ref q743, .ref q744, .ref q748, .ref q751, .ref q754, .int wp742])), (q743, .inl (y 4, 10, .inr (.inr (.inr (.inr (va_up (va_up (fun _ => none) ((0 : Int32).toNatClampNeg) (some q757)) ((1 : Int32).toNatClampNeg) (some q761))))))), (q757, .inr (3, [.int 0, .ref ca0759, .int 0, .long 0, .int 0, .int 0, .int 0, .int 0, .int 0, .int 0]))]) [0, 1, 2] rfl
  replace hD := hD.sub (ws' := [(h0, .inr (7, [.ref q743, .ref q744, .ref q748, .ref q751, .ref q754, .int wp742])), (q743, .inl (y 4, 10, .inr (.inr (.inr (.inr (va_up (va_up (fun _ => none) ((0 : Int32).toNatClampNeg) (some q757)) ((1 : Int32).toNatClampNeg) (some q761))))))), (q757, .inr (3, [.int 0, .ref ca0759, .int 0, .long 0, .int 0, .int 0, .int 0, .int 0, .int 0, .int 0]))]) [0, 1, 2] (by decide +kernel) rfl
  refine lv_iload_n hx hb dX7_init_66 rfl (lv_at hl 0 rfl) ?_
  refine lv_aload_n hx hb dX7_init_67 rfl (lv_at hl 1 rfl) ?_
  refine gm_get (D := D) (ci := 7) (v := .ref q743) (C := RX7) (T := TX7) (N := 6) hx hb hg inlX7 hown hK.1 hP 0 rfl rfl 0 (by decide) tX7_0 (hg _ gw_79) rfl dX7_init_68 ?_
  refine va_alen hx hb hK.1 hP 1 4 rfl rfl (v := 10) rfl dX7_init_71 ?_
  refine lv_icmp_ge (tgt := 95) hx hb dX7_init_72 (by decide) (fun c9 => absurd c9 (by decide +kernel)) (fun _ => ?_)
  refine lv_aload_n hx hb dX7_init_75 rfl (lv_at hl 1 rfl) ?_
  refine gm_get (D := D) (ci := 7) (v := .ref q743) (C := RX7) (T := TX7) (N := 6) hx hb hg inlX7 hown hK.1 hP 0 rfl rfl 0 (by decide) tX7_0 (hg _ gw_79) rfl dX7_init_76 ?_
  refine lv_iload_n hx hb dX7_init_79 rfl (lv_at hl 0 rfl) ?_
  refine va_new (ci := 3) (fs := [.int 0, .null, .int 0, .long 0, .int 0, .int 0, .int 0, .int 0, .int 0, .int 0]) (C := RX3) (T := TX3) (N := 10) hx hb hg inlX3 tyX3 tyX3_ok hown (hg _ gw_78) (hg _ gw_80) (hg _ gw_81) hK.1 hP hD hS hA rfl dfX3 (Nat.le_of_ble_eq_true rfl) (Nat.le_of_ble_eq_true rfl) dX7_init_80 ?_
  clear hP hD hS H
  refine fun q765 H (hP : va_P D vwCl [(h0, .inr (7, [.ref q743, .ref q744, .ref q748, .ref q751, .ref q754, .int wp742])), (q743, .inl (y 4, 10, .inr (.inr (.inr (.inr (va_up (va_up (fun _ => none) ((0 : Int32).toNatClampNeg) (some q757)) ((1 : Int32).toNatClampNeg) (some q761))))))), (q757, .inr (3, [.int 0, .ref ca0759, .int 0, .long 0, .int 0, .int 0, .int 0, .int 0, .int 0, .int 0])), (q765, .inr (3, [.int 0, .null, .int 0, .long 0, .int 0, .int 0, .int 0, .int 0, .int 0, .int 0]))] H) (hD : va_D A [(h0, .inr (7, [.ref q743, .ref q744, .ref q748, .ref q751, .ref q754, .int wp742])), (q743, .inl (y 4, 10, .inr (.inr (.inr (.inr (va_up (va_up (fun _ => none) ((0 : Int32).toNatClampNeg) (some q757)) ((1 : Int32).toNatClampNeg) (some q761))))))), (q757, .inr (3, [.int 0, .ref ca0759, .int 0, .long 0, .int 0, .int 0, .int 0, .int 0, .int 0, .int 0])), (q765, .inr (3, [.int 0, .null, .int 0, .long 0, .int 0, .int 0, .int 0, .int 0, .int 0, .int 0]))]) hS => ?_
  refine lv_dup hx hb dX7_init_83 rfl ?_
  refine lv_iload_n hx hb dX7_init_84 rfl (lv_at hl 0 rfl) ?_
  refine g_av (wr := [(h0, .inr (7, [.ref q743, .ref q744, .ref q748, .ref q751, .ref q754, .int wp742])), (q743, .inl (y 4, 10, .inr (.inr (.inr (.inr (va_up (va_up (fun _ => none) ((0 : Int32).toNatClampNeg) (some q757)) ((1 : Int32).toNatClampNeg) (some q761))))))), (q757, .inr (3, [.int 0, .ref ca0759, .int 0, .long 0, .int 0, .int 0, .int 0, .int 0, .int 0, .int 0]))]) (va_runI (As := [.int 2]) (rest := [.ref q765, .int 2, .ref q743]) ⟨hx, hb, hml, hown, hg⟩ (k_X3_init_3 l D y aS H.size q765 0 0 0 0 0 0 0 0 0) (cwI 1 hg ggI_RX7_17_X3_init rfl rfl rfl (hg _ gw_81) (hg _ gw_87) (hg _ gw_88) rfl (by decide +kernel) ⟨Nat.le_of_ble_eq_true rfl, Nat.le_of_ble_eq_true rfl⟩) (g_preS hK hP hD [3] rfl (by decide)) rfl rfl hl.1 rfl (lv_room (Nat.le_of_ble_eq_true rfl)) dX7_init_85 ⟨Nat.le_of_ble_eq_true rfl, Nat.le_of_ble_eq_true rfl⟩) hP hD hS hA [3] [0, 1, 2] rfl rfl (by decide) (by decide) ?_
  clear hP hD hS H locs
  refine fun u H locs hq hP hD hS => ?_
  obtain ⟨ca0767, ca1768⟩ := u
  replace hP : va_P D vwCl [(h0, .inr (7, [.ref q743, .ref q744, .ref q748, .ref q751, .ref q754, .int wp742])), (q743, .inl (y 4, 10, .inr (.inr (.inr (.inr (va_up (va_up (fun _ => none) ((0 : Int32).toNatClampNeg) (some q757)) ((1 : Int32).toNatClampNeg) (some q761))))))), (q757, .inr (3, [.int 0, .ref ca0759, .int 0, .long 0, .int 0, .int 0, .int 0, .int 0, .int 0, .int 0])), (q765, .inr (3, [.int 2, .ref ca0767, .int 0, .long 0, .int 0, .int 0, .int 0, .int 0, .int 0, .int 0])), (ca0767, .inr (8, [.ref ca1768, .int 0])), (ca1768, .inl (y 1, 24, .inr (.inl (fun _ => 0))))] H := hP
  replace hD : va_D A [(h0, .inr (7, [.ref q743, .ref q744, .ref q748, .ref q751, .ref q754, .int wp742])), (q743, .inl (y 4, 10, .inr (.inr (.inr (.inr (va_up (va_up (fun _ => none) ((0 : Int32).toNatClampNeg) (some q757)) ((1 : Int32).toNatClampNeg) (some q761))))))), (q757, .inr (3, [.int 0, .ref ca0759, .int 0, .long 0, .int 0, .int 0, .int 0, .int 0, .int 0, .int 0])), (q765, .inr (3, [.int 2, .ref ca0767, .int 0, .long 0, .int 0, .int 0, .int 0, .int 0, .int 0, .int 0])), (ca0767, .inr (8, [.ref ca1768, .int 0])), (ca1768, .inl (y 1, 24, .inr (.inl (fun _ => 0))))] := hD
  refine va_astq (r := (RX3, TX3, 10)) hx hb hK.1 hP hD hS 1 4 3 3 rfl rfl rfl rfl (by unfold vp_in; decide +kernel) dX7_init_88 ?_
  clear hP hD hS H locs
  refine fun H locs (hP : va_P D vwCl [(h0, .inr (7, [.ref q743, .ref q744, .ref q748, .ref q751, .ref q754, .int wp742])), (q743, .inl (y 4, 10, .inr (.inr (.inr (.inr (va_up (va_up (va_up (fun _ => none) ((0 : Int32).toNatClampNeg) (some q757)) ((1 : Int32).toNatClampNeg) (some q761)) ((2 : Int32).toNatClampNeg) (some q765))))))), (q757, .inr (3, [.int 0, .ref ca0759, .int 0, .long 0, .int 0, .int 0, .int 0, .int 0, .int 0, .int 0])), (q765, .inr (3, [.int 2, .ref ca0767, .int 0, .long 0, .int 0, .int 0, .int 0, .int 0, .int 0, .int 0])), (ca0767, .inr (8, [.ref ca1768, .int 0])), (ca1768, .inl (y 1, 24, .inr (.inl (fun _ => 0))))] H) (hD : va_D A [(h0, .inr (7, [.ref q743, .ref q744, .ref q748, .ref q751, .ref q754, .int wp742])), (q743, .inl (y 4, 10, .inr (.inr (.inr (.inr (va_up (va_up (va_up (fun _ => none) ((0 : Int32).toNatClampNeg) (some q757)) ((1 : Int32).toNatClampNeg) (some q761)) ((2 : Int32).toNatClampNeg) (some q765))))))), (q757, .inr (3, [.int 0, .ref ca0759, .int 0, .long 0, .int 0, .int 0, .int 0, .int 0, .int 0, .int 0])), (q765, .inr (3, [.int 2, .ref ca0767, .int 0, .long 0, .int 0, .int 0, .int 0, .int 0, .int 0, .int 0])), (ca0767, .inr (8, [.ref ca1768, .int 0])), (ca1768, .inl (y 1, 24, .inr (.inl (fun _ => 0))))]) hS => ?_
  refine lv_iinc (v := 3) (lv' := [(1, .int 3), (0, .ref h0)]) hx hb dX7_init_89 hl (k := 0) rfl (by decide +kernel) (by decide) rfl ?_
  clear hl
  clear ls
  intro ls hl
  refine lv_goto (tgt := 66) hx hb dX7_init_92 (by decide) ?_
  replace hP := hP.sub (ws' := [(h0, .inr (7, [.ref q743, .ref q744, .ref q748, .ref q751, .ref q754, .int wp742])), (q743, .inl (y 4, 10, .inr (.inr (.inr (.inr (va_up (va_up (va_up (fun _ => none) ((0 : Int32).toNatClampNeg) (some q757)) ((1 : Int32).toNatClampNeg) (some q761)) ((2 : Int32).toNatClampNeg) (some q765))))))), (q757, .inr (3, [.int 0, .ref ca0759, .int 0, .long 0, .int 0, .int 0, .int 0, .int 0, .int 0, .int 0]))]) [0, 1, 2] rfl
  replace hD := hD.sub (ws' := [(h0, .inr (7, [.ref q743, .ref q744, .ref q748, .ref q751, .ref q754, .int wp742])), (q743, .inl (y 4, 10, .inr (.inr (.inr (.inr (va_up (va_up (va_up (fun _ => none) ((0 : Int32).toNatClampNeg) (some q757)) ((1 : Int32).toNatClampNeg) (some q761)) ((2 : Int32).toNatClampNeg) (some q765))))))), (q757, .inr (3, [.int 0, .ref ca0759, .int 0, .long 0, .int 0, .int 0, .int 0, .int 0, .int 0, .int 0]))]) [0, 1, 2] (by decide +kernel) rfl
  refine lv_iload_n hx hb dX7_init_66 rfl (lv_at hl 0 rfl) ?_
  refine lv_aload_n hx hb dX7_init_67 rfl (lv_at hl 1 rfl) ?_
  refine gm_get (D := D) (ci := 7) (v := .ref q743) (C := RX7) (T := TX7) (N := 6) hx hb hg inlX7 hown hK.1 hP 0 rfl rfl 0 (by decide) tX7_0 (hg _ gw_79) rfl dX7_init_68 ?_
  refine va_alen hx hb hK.1 hP 1 4 rfl rfl (v := 10) rfl dX7_init_71 ?_
  refine lv_icmp_ge (tgt := 95) hx hb dX7_init_72 (by decide) (fun c9 => absurd c9 (by decide +kernel)) (fun _ => ?_)
  refine lv_aload_n hx hb dX7_init_75 rfl (lv_at hl 1 rfl) ?_
  refine gm_get (D := D) (ci := 7) (v := .ref q743) (C := RX7) (T := TX7) (N := 6) hx hb hg inlX7 hown hK.1 hP 0 rfl rfl 0 (by decide) tX7_0 (hg _ gw_79) rfl dX7_init_76 ?_
  refine lv_iload_n hx hb dX7_init_79 rfl (lv_at hl 0 rfl) ?_
  refine va_new (ci := 3) (fs := [.int 0, .null, .int 0, .long 0, .int 0, .int 0, .int 0, .int 0, .int 0, .int 0]) (C := RX3) (T := TX3) (N := 10) hx hb hg inlX3 tyX3 tyX3_ok hown (hg _ gw_78) (hg _ gw_80) (hg _ gw_81) hK.1 hP hD hS hA rfl dfX3 (Nat.le_of_ble_eq_true rfl) (Nat.le_of_ble_eq_true rfl) dX7_init_80 ?_
  clear hP hD hS H
  refine fun q769 H (hP : va_P D vwCl [(h0, .inr (7, [.ref q743, .ref q744, .ref q748, .ref q751, .ref q754, .int wp742])), (q743, .inl (y 4, 10, .inr (.inr (.inr (.inr (va_up (va_up (va_up (fun _ => none) ((0 : Int32).toNatClampNeg) (some q757)) ((1 : Int32).toNatClampNeg) (some q761)) ((2 : Int32).toNatClampNeg) (some q765))))))), (q757, .inr (3, [.int 0, .ref ca0759, .int 0, .long 0, .int 0, .int 0, .int 0, .int 0, .int 0, .int 0])), (q769, .inr (3, [.int 0, .null, .int 0, .long 0, .int 0, .int 0, .int 0, .int 0, .int 0, .int 0]))] H) (hD : va_D A [(h0, .inr (7, [.ref q743, .ref q744, .ref q748, .ref q751, .ref q754, .int wp742])), (q743, .inl (y 4, 10, .inr (.inr (.inr (.inr (va_up (va_up (va_up (fun _ => none) ((0 : Int32).toNatClampNeg) (some q757)) ((1 : Int32).toNatClampNeg) (some q761)) ((2 : Int32).toNatClampNeg) (some q765))))))), (q757, .inr (3, [.int 0, .ref ca0759, .int 0, .long 0, .int 0, .int 0, .int 0, .int 0, .int 0, .int 0])), (q769, .inr (3, [.int 0, .null, .int 0, .long 0, .int 0, .int 0, .int 0, .int 0, .int 0, .int 0]))]) hS => ?_
  refine lv_dup hx hb dX7_init_83 rfl ?_
  refine lv_iload_n hx hb dX7_init_84 rfl (lv_at hl 0 rfl) ?_
  refine g_av (wr := [(h0, .inr (7, [.ref q743, .ref q744, .ref q748, .ref q751, .ref q754, .int wp742])), (q743, .inl (y 4, 10, .inr (.inr (.inr (.inr (va_up (va_up (va_up (fun _ => none) ((0 : Int32).toNatClampNeg) (some q757)) ((1 : Int32).toNatClampNeg) (some q761)) ((2 : Int32).toNatClampNeg) (some q765))))))), (q757, .inr (3, [.int 0, .ref ca0759, .int 0, .long 0, .int 0, .int 0, .int 0, .int 0, .int 0, .int 0]))]) (va_runI (As := [.int 3]) (rest := [.ref q769, .int 3, .ref q743]) ⟨hx, hb, hml, hown, hg⟩ (k_X3_init_4 l D y aS H.size q769 0 0 0 0 0 0 0 0 0) (cwI 1 hg ggI_RX7_17_X3_init rfl rfl rfl (hg _ gw_81) (hg _ gw_87) (hg _ gw_88) rfl (by decide +kernel) ⟨Nat.le_of_ble_eq_true rfl, Nat.le_of_ble_eq_true rfl⟩) (g_preS hK hP hD [3] rfl (by decide)) rfl rfl hl.1 rfl (lv_room (Nat.le_of_ble_eq_true rfl)) dX7_init_85 ⟨Nat.le_of_ble_eq_true rfl, Nat.le_of_ble_eq_true rfl⟩) hP hD hS hA [3] [0, 1, 2] rfl rfl (by decide) (by decide) ?_
  clear hP hD hS H locs
  refine fun u H locs hq hP hD hS => ?_
  obtain ⟨ca0771, ca1772⟩ := u
  replace hP : va_P D vwCl [(h0, .inr (7, [.ref q743, .ref q744, .ref q748, .ref q751, .ref q754, .int wp742])), (q743, .inl (y 4, 10, .inr (.inr (.inr (.inr (va_up (va_up (va_up (fun _ => none) ((0 : Int32).toNatClampNeg) (some q757)) ((1 : Int32).toNatClampNeg) (some q761)) ((2 : Int32).toNatClampNeg) (some q765))))))), (q757, .inr (3, [.int 0, .ref ca0759, .int 0, .long 0, .int 0, .int 0, .int 0, .int 0, .int 0, .int 0])), (q769, .inr (3, [.int 3, .ref ca0771, .int 0, .long 0, .int 0, .int 0, .int 0, .int 0, .int 0, .int 0])), (ca0771, .inr (8, [.ref ca1772, .int 0])), (ca1772, .inl (y 1, 24, .inr (.inl (fun _ => 0))))] H := hP
  replace hD : va_D A [(h0, .inr (7, [.ref q743, .ref q744, .ref q748, .ref q751, .ref q754, .int wp742])), (q743, .inl (y 4, 10, .inr (.inr (.inr (.inr (va_up (va_up (va_up (fun _ => none) ((0 : Int32).toNatClampNeg) (some q757)) ((1 : Int32).toNatClampNeg) (some q761)) ((2 : Int32).toNatClampNeg) (some q765))))))), (q757, .inr (3, [.int 0, .ref ca0759, .int 0, .long 0, .int 0, .int 0, .int 0, .int 0, .int 0, .int 0])), (q769, .inr (3, [.int 3, .ref ca0771, .int 0, .long 0, .int 0, .int 0, .int 0, .int 0, .int 0, .int 0])), (ca0771, .inr (8, [.ref ca1772, .int 0])), (ca1772, .inl (y 1, 24, .inr (.inl (fun _ => 0))))] := hD
  refine va_astq (r := (RX3, TX3, 10)) hx hb hK.1 hP hD hS 1 4 3 3 rfl rfl rfl rfl (by unfold vp_in; decide +kernel) dX7_init_88 ?_
  clear hP hD hS H locs
  refine fun H locs (hP : va_P D vwCl [(h0, .inr (7, [.ref q743, .ref q744, .ref q748, .ref q751, .ref q754, .int wp742])), (q743, .inl (y 4, 10, .inr (.inr (.inr (.inr (va_up (va_up (va_up (va_up (fun _ => none) ((0 : Int32).toNatClampNeg) (some q757)) ((1 : Int32).toNatClampNeg) (some q761)) ((2 : Int32).toNatClampNeg) (some q765)) ((3 : Int32).toNatClampNeg) (some q769))))))), (q757, .inr (3, [.int 0, .ref ca0759, .int 0, .long 0, .int 0, .int 0, .int 0, .int 0, .int 0, .int 0])), (q769, .inr (3, [.int 3, .ref ca0771, .int 0, .long 0, .int 0, .int 0, .int 0, .int 0, .int 0, .int 0])), (ca0771, .inr (8, [.ref ca1772, .int 0])), (ca1772, .inl (y 1, 24, .inr (.inl (fun _ => 0))))] H) (hD : va_D A [(h0, .inr (7, [.ref q743, .ref q744, .ref q748, .ref q751, .ref q754, .int wp742])), (q743, .inl (y 4, 10, .inr (.inr (.inr (.inr (va_up (va_up (va_up (va_up (fun _ => none) ((0 : Int32).toNatClampNeg) (some q757)) ((1 : Int32).toNatClampNeg) (some q761)) ((2 : Int32).toNatClampNeg) (some q765)) ((3 : Int32).toNatClampNeg) (some q769))))))), (q757, .inr (3, [.int 0, .ref ca0759, .int 0, .long 0, .int 0, .int 0, .int 0, .int 0, .int 0, .int 0])), (q769, .inr (3, [.int 3, .ref ca0771, .int 0, .long 0, .int 0, .int 0, .int 0, .int 0, .int 0, .int 0])), (ca0771, .inr (8, [.ref ca1772, .int 0])), (ca1772, .inl (y 1, 24, .inr (.inl (fun _ => 0))))]) hS => ?_
  refine lv_iinc (v := 4) (lv' := [(1, .int 4), (0, .ref h0)]) hx hb dX7_init_89 hl (k := 0) rfl (by decide +kernel) (by decide) rfl ?_
  clear hl
  clear ls
  intro ls hl
  refine lv_goto (tgt := 66) hx hb dX7_init_92 (by decide) ?_
  replace hP := hP.sub (ws' := [(h0, .inr (7, [.ref q743, .ref q744, .ref q748, .ref q751, .ref q754, .int wp742])), (q743, .inl (y 4, 10, .inr (.inr (.inr (.inr (va_up (va_up (va_up (va_up (fun _ => none) ((0 : Int32).toNatClampNeg) (some q757)) ((1 : Int32).toNatClampNeg) (some q761)) ((2 : Int32).toNatClampNeg) (some q765)) ((3 : Int32).toNatClampNeg) (some q769))))))), (q757, .inr (3, [.int 0, .ref ca0759, .int 0, .long 0, .int 0, .int 0, .int 0, .int 0, .int 0, .int 0]))]) [0, 1, 2] rfl
  replace hD := hD.sub (ws' := [(h0, .inr (7, [.ref q743, .ref q744, .ref q748, .ref q751, .ref q754, .int wp742])), (q743, .inl (y 4, 10, .inr (.inr (.inr (.inr (va_up (va_up (va_up (va_up (fun _ => none) ((0 : Int32).toNatClampNeg) (some q757)) ((1 : Int32).toNatClampNeg) (some q761)) ((2 : Int32).toNatClampNeg) (some q765)) ((3 : Int32).toNatClampNeg) (some q769))))))), (q757, .inr (3, [.int 0, .ref ca0759, .int 0, .long 0, .int 0, .int 0, .int 0, .int 0, .int 0, .int 0]))]) [0, 1, 2] (by decide +kernel) rfl
  refine lv_iload_n hx hb dX7_init_66 rfl (lv_at hl 0 rfl) ?_
  refine lv_aload_n hx hb dX7_init_67 rfl (lv_at hl 1 rfl) ?_
  refine gm_get (D := D) (ci := 7) (v := .ref q743) (C := RX7) (T := TX7) (N := 6) hx hb hg inlX7 hown hK.1 hP 0 rfl rfl 0 (by decide) tX7_0 (hg _ gw_79) rfl dX7_init_68 ?_
  refine va_alen hx hb hK.1 hP 1 4 rfl rfl (v := 10) rfl dX7_init_71 ?_
  refine lv_icmp_ge (tgt := 95) hx hb dX7_init_72 (by decide) (fun c9 => absurd c9 (by decide +kernel)) (fun _ => ?_)
  refine lv_aload_n hx hb dX7_init_75 rfl (lv_at hl 1 rfl) ?_
  refine gm_get (D := D) (ci := 7) (v := .ref q743) (C := RX7) (T := TX7) (N := 6) hx hb hg inlX7 hown hK.1 hP 0 rfl rfl 0 (by decide) tX7_0 (hg _ gw_79) rfl dX7_init_76 ?_
  refine lv_iload_n hx hb dX7_init_79 rfl (lv_at hl 0 rfl) ?_
  refine va_new (ci := 3) (fs := [.int 0, .null, .int 0, .long 0, .int 0, .int 0, .int 0, .int 0, .int 0, .int 0]) (C := RX3) (T := TX3) (N := 10) hx hb hg inlX3 tyX3 tyX3_ok hown (hg _ gw_78) (hg _ gw_80) (hg _ gw_81) hK.1 hP hD hS hA rfl dfX3 (Nat.le_of_ble_eq_true rfl) (Nat.le_of_ble_eq_true rfl) dX7_init_80 ?_
  clear hP hD hS H
  refine fun q773 H (hP : va_P D vwCl [(h0, .inr (7, [.ref q743, .ref q744, .ref q748, .ref q751, .ref q754, .int wp742])), (q743, .inl (y 4, 10, .inr (.inr (.inr (.inr (va_up (va_up (va_up (va_up (fun _ => none) ((0 : Int32).toNatClampNeg) (some q757)) ((1 : Int32).toNatClampNeg) (some q761)) ((2 : Int32).toNatClampNeg) (some q765)) ((3 : Int32).toNatClampNeg) (some q769))))))), (q757, .inr (3, [.int 0, .ref ca0759, .int 0, .long 0, .int 0, .int 0, .int 0, .int 0, .int 0, .int 0])), (q773, .inr (3, [.int 0, .null, .int 0, .long 0, .int 0, .int 0, .int 0, .int 0, .int 0, .int 0]))] H) (hD : va_D A [(h0, .inr (7, [.ref q743, .ref q744, .ref q748, .ref q751, .ref q754, .int wp742])), (q743, .inl (y 4, 10, .inr (.inr (.inr (.inr (va_up (va_up (va_up (va_up (fun _ => none) ((0 : Int32).toNatClampNeg) (some q757)) ((1 : Int32).toNatClampNeg) (some q761)) ((2 : Int32).toNatClampNeg) (some q765)) ((3 : Int32).toNatClampNeg) (some q769))))))), (q757, .inr (3, [.int 0, .ref ca0759, .int 0, .long 0, .int 0, .int 0, .int 0, .int 0, .int 0, .int 0])), (q773, .inr (3, [.int 0, .null, .int 0, .long 0, .int 0, .int 0, .int 0, .int 0, .int 0, .int 0]))]) hS => ?_
  refine lv_dup hx hb dX7_init_83 rfl ?_
  refine lv_iload_n hx hb dX7_init_84 rfl (lv_at hl 0 rfl) ?_
  refine g_av (wr := [(h0, .inr (7, [.ref q743, .ref q744, .ref q748, .ref q751, .ref q754, .int wp742])), (q743, .inl (y 4, 10, .inr (.inr (.inr (.inr (va_up (va_up (va_up (va_up (fun _ => none) ((0 : Int32).toNatClampNeg) (some q757)) ((1 : Int32).toNatClampNeg) (some q761)) ((2 : Int32).toNatClampNeg) (some q765)) ((3 : Int32).toNatClampNeg) (some q769))))))), (q757, .inr (3, [.int 0, .ref ca0759, .int 0, .long 0, .int 0, .int 0, .int 0, .int 0, .int 0, .int 0]))]) (va_runI (As := [.int 4]) (rest := [.ref q773, .int 4, .ref q743]) ⟨hx, hb, hml, hown, hg⟩ (k_X3_init_5 l D y aS H.size q773 0 0 0 0 0 0 0 0 0) (cwI 1 hg ggI_RX7_17_X3_init rfl rfl rfl (hg _ gw_81) (hg _ gw_87) (hg _ gw_88) rfl (by decide +kernel) ⟨Nat.le_of_ble_eq_true rfl, Nat.le_of_ble_eq_true rfl⟩) (g_preS hK hP hD [3] rfl (by decide)) rfl rfl hl.1 rfl (lv_room (Nat.le_of_ble_eq_true rfl)) dX7_init_85 ⟨Nat.le_of_ble_eq_true rfl, Nat.le_of_ble_eq_true rfl⟩) hP hD hS hA [3] [0, 1, 2] rfl rfl (by decide) (by decide) ?_
  clear hP hD hS H locs
  refine fun u H locs hq hP hD hS => ?_
  obtain ⟨ca0775, ca1776⟩ := u
  replace hP : va_P D vwCl [(h0, .inr (7, [.ref q743, .ref q744, .ref q748, .ref q751, .ref q754, .int wp742])), (q743, .inl (y 4, 10, .inr (.inr (.inr (.inr (va_up (va_up (va_up (va_up (fun _ => none) ((0 : Int32).toNatClampNeg) (some q757)) ((1 : Int32).toNatClampNeg) (some q761)) ((2 : Int32).toNatClampNeg) (some q765)) ((3 : Int32).toNatClampNeg) (some q769))))))), (q757, .inr (3, [.int 0, .ref ca0759, .int 0, .long 0, .int 0, .int 0, .int 0, .int 0, .int 0, .int 0])), (q773, .inr (3, [.int 4, .ref ca0775, .int 0, .long 0, .int 0, .int 0, .int 0, .int 0, .int 0, .int 0])), (ca0775, .inr (8, [.ref ca1776, .int 0])), (ca1776, .inl (y 1, 24, .inr (.inl (fun _ => 0))))] H := hP
  replace hD : va_D A [(h0, .inr (7, [.ref q743, .ref q744, .ref q748, .ref q751, .ref q754, .int wp742])), (q743, .inl (y 4, 10, .inr (.inr (.inr (.inr (va_up (va_up (va_up (va_up (fun _ => none) ((0 : Int32).toNatClampNeg) (some q757)) ((1 : Int32).toNatClampNeg) (some q761)) ((2 : Int32).toNatClampNeg) (some q765)) ((3 : Int32).toNatClampNeg) (some q769))))))), (q757, .inr (3, [.int 0, .ref ca0759, .int 0, .long 0, .int 0, .int 0, .int 0, .int 0, .int 0, .int 0])), (q773, .inr (3, [.int 4, .ref ca0775, .int 0, .long 0, .int 0, .int 0, .int 0, .int 0, .int 0, .int 0])), (ca0775, .inr (8, [.ref ca1776, .int 0])), (ca1776, .inl (y 1, 24, .inr (.inl (fun _ => 0))))] := hD
  refine va_astq (r := (RX3, TX3, 10)) hx hb hK.1 hP hD hS 1 4 3 3 rfl rfl rfl rfl (by unfold vp_in; decide +kernel) dX7_init_88 ?_
  clear hP hD hS H locs
  refine fun H locs (hP : va_P D vwCl [(h0, .inr (7, [.ref q743, .ref q744, .ref q748, .ref q751, .ref q754, .int wp742])), (q743, .inl (y 4, 10, .inr (.inr (.inr (.inr (va_up (va_up (va_up (va_up (va_up (fun _ => none) ((0 : Int32).toNatClampNeg) (some q757)) ((1 : Int32).toNatClampNeg) (some q761)) ((2 : Int32).toNatClampNeg) (some q765)) ((3 : Int32).toNatClampNeg) (some q769)) ((4 : Int32).toNatClampNeg) (some q773))))))), (q757, .inr (3, [.int 0, .ref ca0759, .int 0, .long 0, .int 0, .int 0, .int 0, .int 0, .int 0, .int 0])), (q773, .inr (3, [.int 4, .ref ca0775, .int 0, .long 0, .int 0, .int 0, .int 0, .int 0, .int 0, .int 0])), (ca0775, .inr (8, [.ref ca1776, .int 0])), (ca1776, .inl (y 1, 24, .inr (.inl (fun _ => 0))))] H) (hD : va_D A [(h0, .inr (7, [.ref q743, .ref q744, .ref q748, .ref q751, .ref q754, .int wp742])), (q743, .inl (y 4, 10, .inr (.inr (.inr (.inr (va_up (va_up (va_up (va_up (va_up (fun _ => none) ((0 : Int32).toNatClampNeg) (some q757)) ((1 : Int32).toNatClampNeg) (some q761)) ((2 : Int32).toNatClampNeg) (some q765)) ((3 : Int32).toNatClampNeg) (some q769)) ((4 : Int32).toNatClampNeg) (some q773))))))), (q757, .inr (3, [.int 0, .ref ca0759, .int 0, .long 0, .int 0, .int 0, .int 0, .int 0, .int 0, .int 0])), (q773, .inr (3, [.int 4, .ref ca0775, .int 0, .long 0, .int 0, .int 0, .int 0, .int 0, .int 0, .int 0])), (ca0775, .inr (8, [.ref ca1776, .int 0])), (ca1776, .inl (y 1, 24, .inr (.inl (fun _ => 0))))]) hS => ?_
  refine lv_iinc (v := 5) (lv' := [(1, .int 5), (0, .ref h0)]) hx hb dX7_init_89 hl (k := 0) rfl (by decide +kernel) (by decide) rfl ?_
  clear hl
  clear ls
  intro ls hl
  refine lv_goto (tgt := 66) hx hb dX7_init_92 (by decide) ?_
  replace hP := hP.sub (ws' := [(h0, .inr (7, [.ref q743, .ref q744, .ref q748, .ref q751, .ref q754, .int wp742])), (q743, .inl (y 4, 10, .inr (.inr (.inr (.inr (va_up (va_up (va_up (va_up (va_up (fun _ => none) ((0 : Int32).toNatClampNeg) (some q757)) ((1 : Int32).toNatClampNeg) (some q761)) ((2 : Int32).toNatClampNeg) (some q765)) ((3 : Int32).toNatClampNeg) (some q769)) ((4 : Int32).toNatClampNeg) (some q773))))))), (q757, .inr (3, [.int 0, .ref ca0759, .int 0, .long 0, .int 0, .int 0, .int 0, .int 0, .int 0, .int 0]))]) [0, 1, 2] rfl
  replace hD := hD.sub (ws' := [(h0, .inr (7, [.ref q743, .ref q744, .ref q748, .ref q751, .ref q754, .int wp742])), (q743, .inl (y 4, 10, .inr (.inr (.inr (.inr (va_up (va_up (va_up (va_up (va_up (fun _ => none) ((0 : Int32).toNatClampNeg) (some q757)) ((1 : Int32).toNatClampNeg) (some q761)) ((2 : Int32).toNatClampNeg) (some q765)) ((3 : Int32).toNatClampNeg) (some q769)) ((4 : Int32).toNatClampNeg) (some q773))))))), (q757, .inr (3, [.int 0, .ref ca0759, .int 0, .long 0, .int 0, .int 0, .int 0, .int 0, .int 0, .int 0]))]) [0, 1, 2] (by decide +kernel) rfl
  refine lv_iload_n hx hb dX7_init_66 rfl (lv_at hl 0 rfl) ?_
  refine lv_aload_n hx hb dX7_init_67 rfl (lv_at hl 1 rfl) ?_
  refine gm_get (D := D) (ci := 7) (v := .ref q743) (C := RX7) (T := TX7) (N := 6) hx hb hg inlX7 hown hK.1 hP 0 rfl rfl 0 (by decide) tX7_0 (hg _ gw_79) rfl dX7_init_68 ?_
  refine va_alen hx hb hK.1 hP 1 4 rfl rfl (v := 10) rfl dX7_init_71 ?_
  refine lv_icmp_ge (tgt := 95) hx hb dX7_init_72 (by decide) (fun c9 => absurd c9 (by decide +kernel)) (fun _ => ?_)
  refine lv_aload_n hx hb dX7_init_75 rfl (lv_at hl 1 rfl) ?_
  refine gm_get (D := D) (ci := 7) (v := .ref q743) (C := RX7) (T := TX7) (N := 6) hx hb hg inlX7 hown hK.1 hP 0 rfl rfl 0 (by decide) tX7_0 (hg _ gw_79) rfl dX7_init_76 ?_
  refine lv_iload_n hx hb dX7_init_79 rfl (lv_at hl 0 rfl) ?_
  refine va_new (ci := 3) (fs := [.int 0, .null, .int 0, .long 0, .int 0, .int 0, .int 0, .int 0, .int 0, .int 0]) (C := RX3) (T := TX3) (N := 10) hx hb hg inlX3 tyX3 tyX3_ok hown (hg _ gw_78) (hg _ gw_80) (hg _ gw_81) hK.1 hP hD hS hA rfl dfX3 (Nat.le_of_ble_eq_true rfl) (Nat.le_of_ble_eq_true rfl) dX7_init_80 ?_
  clear hP hD hS H
  refine fun q777 H (hP : va_P D vwCl [(h0, .inr (7, [.ref q743, .ref q744, .ref q748, .ref q751, .ref q754, .int wp742])), (q743, .inl (y 4, 10, .inr (.inr (.inr (.inr (va_up (va_up (va_up (va_up (va_up (fun _ => none) ((0 : Int32).toNatClampNeg) (some q757)) ((1 : Int32).toNatClampNeg) (some q761)) ((2 : Int32).toNatClampNeg) (some q765)) ((3 : Int32).toNatClampNeg) (some q769)) ((4 : Int32).toNatClampNeg) (some q773))))))), (q757, .inr (3, [.int 0, .ref ca0759, .int 0, .long 0, .int 0, .int 0, .int 0, .int 0, .int 0, .int 0])), (q777, .inr (3, [.int 0, .null, .int 0, .long 0, .int 0, .int 0, .int 0, .int 0, .int 0, .int 0]))] H) (hD : va_D A [(h0, .inr (7, [.ref q743, .ref q744, .ref q748, .ref q751, .ref q754, .int wp742])), (q743, .inl (y 4, 10, .inr (.inr (.inr (.inr (va_up (va_up (va_up (va_up (va_up (fun _ => none) ((0 : Int32).toNatClampNeg) (some q757)) ((1 : Int32).toNatClampNeg) (some q761)) ((2 : Int32).toNatClampNeg) (some q765)) ((3 : Int32).toNatClampNeg) (some q769)) ((4 : Int32).toNatClampNeg) (some q773))))))), (q757, .inr (3, [.int 0, .ref ca0759, .int 0, .long 0, .int 0, .int 0, .int 0, .int 0, .int 0, .int 0])), (q777, .inr (3, [.int 0, .null, .int 0, .long 0, .int 0, .int 0, .int 0, .int 0, .int 0, .int 0]))]) hS => ?_
  refine lv_dup hx hb dX7_init_83 rfl ?_
  refine lv_iload_n hx hb dX7_init_84 rfl (lv_at hl 0 rfl) ?_
  refine g_av (wr := [(h0, .inr (7, [.ref q743, .ref q744, .ref q748, .ref q751, .ref q754, .int wp742])), (q743, .inl (y 4, 10, .inr (.inr (.inr (.inr (va_up (va_up (va_up (va_up (va_up (fun _ => none) ((0 : Int32).toNatClampNeg) (some q757)) ((1 : Int32).toNatClampNeg) (some q761)) ((2 : Int32).toNatClampNeg) (some q765)) ((3 : Int32).toNatClampNeg) (some q769)) ((4 : Int32).toNatClampNeg) (some q773))))))), (q757, .inr (3, [.int 0, .ref ca0759, .int 0, .long 0, .int 0, .int 0, .int 0, .int 0, .int 0, .int 0]))]) (va_runI (As := [.int 5]) (rest := [.ref q777, .int 5, .ref q743]) ⟨hx, hb, hml, hown, hg⟩ (k_X3_init_6 l D y aS H.size q777 0 0 0 0 0 0 0 0 0) (cwI 1 hg ggI_RX7_17_X3_init rfl rfl rfl (hg _ gw_81) (hg _ gw_87) (hg _ gw_88) rfl (by decide +kernel) ⟨Nat.le_of_ble_eq_true rfl, Nat.le_of_ble_eq_true rfl⟩) (g_preS hK hP hD [3] rfl (by decide)) rfl rfl hl.1 rfl (lv_room (Nat.le_of_ble_eq_true rfl)) dX7_init_85 ⟨Nat.le_of_ble_eq_true rfl, Nat.le_of_ble_eq_true rfl⟩) hP hD hS hA [3] [0, 1, 2] rfl rfl (by decide) (by decide) ?_
  clear hP hD hS H locs
  refine fun u H locs hq hP hD hS => ?_
  obtain ⟨ca0779, ca1780⟩ := u
  replace hP : va_P D vwCl [(h0, .inr (7, [.ref q743, .ref q744, .ref q748, .ref q751, .ref q754, .int wp742])), (q743, .inl (y 4, 10, .inr (.inr (.inr (.inr (va_up (va_up (va_up (va_up (va_up (fun _ => none) ((0 : Int32).toNatClampNeg) (some q757)) ((1 : Int32).toNatClampNeg) (some q761)) ((2 : Int32).toNatClampNeg) (some q765)) ((3 : Int32).toNatClampNeg) (some q769)) ((4 : Int32).toNatClampNeg) (some q773))))))), (q757, .inr (3, [.int 0, .ref ca0759, .int 0, .long 0, .int 0, .int 0, .int 0, .int 0, .int 0, .int 0])), (q777, .inr (3, [.int 5, .ref ca0779, .int 0, .long 0, .int 0, .int 0, .int 0, .int 0, .int 0, .int 0])), (ca0779, .inr (8, [.ref ca1780, .int 0])), (ca1780, .inl (y 1, 24, .inr (.inl (fun _ => 0))))] H := hP
  replace hD : va_D A [(h0, .inr (7, [.ref q743, .ref q744, .ref q748, .ref q751, .ref q754, .int wp742])), (q743, .inl (y 4, 10, .inr (.inr (.inr (.inr (va_up (va_up (va_up (va_up (va_up (fun _ => none) ((0 : Int32).toNatClampNeg) (some q757)) ((1 : Int32).toNatClampNeg) (some q761)) ((2 : Int32).toNatClampNeg) (some q765)) ((3 : Int32).toNatClampNeg) (some q769)) ((4 : Int32).toNatClampNeg) (some q773))))))), (q757, .inr (3, [.int 0, .ref ca0759, .int 0, .long 0, .int 0, .int 0, .int 0, .int 0, .int 0, .int 0])), (q777, .inr (3, [.int 5, .ref ca0779, .int 0, .long 0, .int 0, .int 0, .int 0, .int 0, .int 0, .int 0])), (ca0779, .inr (8, [.ref ca1780, .int 0])), (ca1780, .inl (y 1, 24, .inr (.inl (fun _ => 0))))] := hD
  refine va_astq (r := (RX3, TX3, 10)) hx hb hK.1 hP hD hS 1 4 3 3 rfl rfl rfl rfl (by unfold vp_in; decide +kernel) dX7_init_88 ?_
  clear hP hD hS H locs
  refine fun H locs (hP : va_P D vwCl [(h0, .inr (7, [.ref q743, .ref q744, .ref q748, .ref q751, .ref q754, .int wp742])), (q743, .inl (y 4, 10, .inr (.inr (.inr (.inr (va_up (va_up (va_up (va_up (va_up (va_up (fun _ => none) ((0 : Int32).toNatClampNeg) (some q757)) ((1 : Int32).toNatClampNeg) (some q761)) ((2 : Int32).toNatClampNeg) (some q765)) ((3 : Int32).toNatClampNeg) (some q769)) ((4 : Int32).toNatClampNeg) (some q773)) ((5 : Int32).toNatClampNeg) (some q777))))))), (q757, .inr (3, [.int 0, .ref ca0759, .int 0, .long 0, .int 0, .int 0, .int 0, .int 0, .int 0, .int 0])), (q777, .inr (3, [.int 5, .ref ca0779, .int 0, .long 0, .int 0, .int 0, .int 0, .int 0, .int 0, .int 0])), (ca0779, .inr (8, [.ref ca1780, .int 0])), (ca1780, .inl (y 1, 24, .inr (.inl (fun _ => 0))))] H) (hD : va_D A [(h0, .inr (7, [.ref q743, .ref q744, .ref q748, .ref q751, .ref q754, .int wp742])), (q743, .inl (y 4, 10, .inr (.inr (.inr (.inr (va_up (va_up (va_up (va_up (va_up (va_up (fun _ => none) ((0 : Int32).toNatClampNeg) (some q757)) ((1 : Int32).toNatClampNeg) (some q761)) ((2 : Int32).toNatClampNeg) (some q765)) ((3 : Int32).toNatClampNeg) (some q769)) ((4 : Int32).toNatClampNeg) (some q773)) ((5 : Int32).toNatClampNeg) (some q777))))))), (q757, .inr (3, [.int 0, .ref ca0759, .int 0, .long 0, .int 0, .int 0, .int 0, .int 0, .int 0, .int 0])), (q777, .inr (3, [.int 5, .ref ca0779, .int 0, .long 0, .int 0, .int 0, .int 0, .int 0, .int 0, .int 0])), (ca0779, .inr (8, [.ref ca1780, .int 0])), (ca1780, .inl (y 1, 24, .inr (.inl (fun _ => 0))))]) hS => ?_
  refine lv_iinc (v := 6) (lv' := [(1, .int 6), (0, .ref h0)]) hx hb dX7_init_89 hl (k := 0) rfl (by decide +kernel) (by decide) rfl ?_
  clear hl
  clear ls
  intro ls hl
  refine lv_goto (tgt := 66) hx hb dX7_init_92 (by decide) ?_
  replace hP := hP.sub (ws' := [(h0, .inr (7, [.ref q743, .ref q744, .ref q748, .ref q751, .ref q754, .int wp742])), (q743, .inl (y 4, 10, .inr (.inr (.inr (.inr (va_up (va_up (va_up (va_up (va_up (va_up (fun _ => none) ((0 : Int32).toNatClampNeg) (some q757)) ((1 : Int32).toNatClampNeg) (some q761)) ((2 : Int32).toNatClampNeg) (some q765)) ((3 : Int32).toNatClampNeg) (some q769)) ((4 : Int32).toNatClampNeg) (some q773)) ((5 : Int32).toNatClampNeg) (some q777))))))), (q757, .inr (3, [.int 0, .ref ca0759, .int 0, .long 0, .int 0, .int 0, .int 0, .int 0, .int 0, .int 0]))]) [0, 1, 2] rfl
  replace hD := hD.sub (ws' := [(h0, .inr (7, [.ref q743, .ref q744, .ref q748, .ref q751, .ref q754, .int wp742])), (q743, .inl (y 4, 10, .inr (.inr (.inr (.inr (va_up (va_up (va_up (va_up (va_up (va_up (fun _ => none) ((0 : Int32).toNatClampNeg) (some q757)) ((1 : Int32).toNatClampNeg) (some q761)) ((2 : Int32).toNatClampNeg) (some q765)) ((3 : Int32).toNatClampNeg) (some q769)) ((4 : Int32).toNatClampNeg) (some q773)) ((5 : Int32).toNatClampNeg) (some q777))))))), (q757, .inr (3, [.int 0, .ref ca0759, .int 0, .long 0, .int 0, .int 0, .int 0, .int 0, .int 0, .int 0]))]) [0, 1, 2] (by decide +kernel) rfl
  refine lv_iload_n hx hb dX7_init_66 rfl (lv_at hl 0 rfl) ?_
  refine lv_aload_n hx hb dX7_init_67 rfl (lv_at hl 1 rfl) ?_
  refine gm_get (D := D) (ci := 7) (v := .ref q743) (C := RX7) (T := TX7) (N := 6) hx hb hg inlX7 hown hK.1 hP 0 rfl rfl 0 (by decide) tX7_0 (hg _ gw_79) rfl dX7_init_68 ?_
  refine va_alen hx hb hK.1 hP 1 4 rfl rfl (v := 10) rfl dX7_init_71 ?_
  refine lv_icmp_ge (tgt := 95) hx hb dX7_init_72 (by decide) (fun c9 => absurd c9 (by decide +kernel)) (fun _ => ?_)
  refine lv_aload_n hx hb dX7_init_75 rfl (lv_at hl 1 rfl) ?_
  refine gm_get (D := D) (ci := 7) (v := .ref q743) (C := RX7) (T := TX7) (N := 6) hx hb hg inlX7 hown hK.1 hP 0 rfl rfl 0 (by decide) tX7_0 (hg _ gw_79) rfl dX7_init_76 ?_
  refine lv_iload_n hx hb dX7_init_79 rfl (lv_at hl 0 rfl) ?_
  refine va_new (ci := 3) (fs := [.int 0, .null, .int 0, .long 0, .int 0, .int 0, .int 0, .int 0, .int 0, .int 0]) (C := RX3) (T := TX3) (N := 10) hx hb hg inlX3 tyX3 tyX3_ok hown (hg _ gw_78) (hg _ gw_80) (hg _ gw_81) hK.1 hP hD hS hA rfl dfX3 (Nat.le_of_ble_eq_true rfl) (Nat.le_of_ble_eq_true rfl) dX7_init_80 ?_
  clear hP hD hS H
  refine fun q781 H (hP : va_P D vwCl [(h0, .inr (7, [.ref q743, .ref q744, .ref q748, .ref q751, .ref q754, .int wp742])), (q743, .inl (y 4, 10, .inr (.inr (.inr (.inr (va_up (va_up (va_up (va_up (va_up (va_up (fun _ => none) ((0 : Int32).toNatClampNeg) (some q757)) ((1 : Int32).toNatClampNeg) (some q761)) ((2 : Int32).toNatClampNeg) (some q765)) ((3 : Int32).toNatClampNeg) (some q769)) ((4 : Int32).toNatClampNeg) (some q773)) ((5 : Int32).toNatClampNeg) (some q777))))))), (q757, .inr (3, [.int 0, .ref ca0759, .int 0, .long 0, .int 0, .int 0, .int 0, .int 0, .int 0, .int 0])), (q781, .inr (3, [.int 0, .null, .int 0, .long 0, .int 0, .int 0, .int 0, .int 0, .int 0, .int 0]))] H) (hD : va_D A [(h0, .inr (7, [.ref q743, .ref q744, .ref q748, .ref q751, .ref q754, .int wp742])), (q743, .inl (y 4, 10, .inr (.inr (.inr (.inr (va_up (va_up (va_up (va_up (va_up (va_up (fun _ => none) ((0 : Int32).toNatClampNeg) (some q757)) ((1 : Int32).toNatClampNeg) (some q761)) ((2 : Int32).toNatClampNeg) (some q765)) ((3 : Int32).toNatClampNeg) (some q769)) ((4 : Int32).toNatClampNeg) (some q773)) ((5 : Int32).toNatClampNeg) (some q777))))))), (q757, .inr (3, [.int 0, .ref ca0759, .int 0, .long 0, .int 0, .int 0, .int 0, .int 0, .int 0, .int 0])), (q781, .inr (3, [.int 0, .null, .int 0, .long 0, .int 0, .int 0, .int 0, .int 0, .int 0, .int 0]))]) hS => ?_
  refine lv_dup hx hb dX7_init_83 rfl ?_
  refine lv_iload_n hx hb dX7_init_84 rfl (lv_at hl 0 rfl) ?_
  refine g_av (wr := [(h0, .inr (7, [.ref q743, .ref q744, .ref q748, .ref q751, .ref q754, .int wp742])), (q743, .inl (y 4, 10, .inr (.inr (.inr (.inr (va_up (va_up (va_up (va_up (va_up (va_up (fun _ => none) ((0 : Int32).toNatClampNeg) (some q757)) ((1 : Int32).toNatClampNeg) (some q761)) ((2 : Int32).toNatClampNeg) (some q765)) ((3 : Int32).toNatClampNeg) (some q769)) ((4 : Int32).toNatClampNeg) (some q773)) ((5 : Int32).toNatClampNeg) (some q777))))))), (q757, .inr (3, [.int 0, .ref ca0759, .int 0, .long 0, .int 0, .int 0, .int 0, .int 0, .int 0, .int 0]))]) (va_runI (As := [.int 6]) (rest := [.ref q781, .int 6, .ref q743]) ⟨hx, hb, hml, hown, hg⟩ (k_X3_init_7 l D y aS H.size q781 0 0 0 0 0 0 0 0 0) (cwI 1 hg ggI_RX7_17_X3_init rfl rfl rfl (hg _ gw_81) (hg _ gw_87) (hg _ gw_88) rfl (by decide +kernel) ⟨Nat.le_of_ble_eq_true rfl, Nat.le_of_ble_eq_true rfl⟩) (g_preS hK hP hD [3] rfl (by decide)) rfl rfl hl.1 rfl (lv_room (Nat.le_of_ble_eq_true rfl)) dX7_init_85 ⟨Nat.le_of_ble_eq_true rfl, Nat.le_of_ble_eq_true rfl⟩) hP hD hS hA [3] [0, 1, 2] rfl rfl (by decide) (by decide) ?_
  clear hP hD hS H locs
  refine fun u H locs hq hP hD hS => ?_
  obtain ⟨ca0783, ca1784⟩ := u
  replace hP : va_P D vwCl [(h0, .inr (7, [.ref q743, .ref q744, .ref q748, .ref q751, .ref q754, .int wp742])), (q743, .inl (y 4, 10, .inr (.inr (.inr (.inr (va_up (va_up (va_up (va_up (va_up (va_up (fun _ => none) ((0 : Int32).toNatClampNeg) (some q757)) ((1 : Int32).toNatClampNeg) (some q761)) ((2 : Int32).toNatClampNeg) (some q765)) ((3 : Int32).toNatClampNeg) (some q769)) ((4 : Int32).toNatClampNeg) (some q773)) ((5 : Int32).toNatClampNeg) (some q777))))))), (q757, .inr (3, [.int 0, .ref ca0759, .int 0, .long 0, .int 0, .int 0, .int 0, .int 0, .int 0, .int 0])), (q781, .inr (3, [.int 6, .ref ca0783, .int 0, .long 0, .int 0, .int 0, .int 0, .int 0, .int 0, .int 0])), (ca0783, .inr (8, [.ref ca1784, .int 0])), (ca1784, .inl (y 1, 24, .inr (.inl (fun _ => 0))))] H := hP
  replace hD : va_D A [(h0, .inr (7, [.ref q743, .ref q744, .ref q748, .ref q751, .ref q754, .int wp742])), (q743, .inl (y 4, 10, .inr (.inr (.inr (.inr (va_up (va_up (va_up (va_up (va_up (va_up (fun _ => none) ((0 : Int32).toNatClampNeg) (some q757)) ((1 : Int32).toNatClampNeg) (some q761)) ((2 : Int32).toNatClampNeg) (some q765)) ((3 : Int32).toNatClampNeg) (some q769)) ((4 : Int32).toNatClampNeg) (some q773)) ((5 : Int32).toNatClampNeg) (some q777))))))), (q757, .inr (3, [.int 0, .ref ca0759, .int 0, .long 0, .int 0, .int 0, .int 0, .int 0, .int 0, .int 0])), (q781, .inr (3, [.int 6, .ref ca0783, .int 0, .long 0, .int 0, .int 0, .int 0, .int 0, .int 0, .int 0])), (ca0783, .inr (8, [.ref ca1784, .int 0])), (ca1784, .inl (y 1, 24, .inr (.inl (fun _ => 0))))] := hD
  refine va_astq (r := (RX3, TX3, 10)) hx hb hK.1 hP hD hS 1 4 3 3 rfl rfl rfl rfl (by unfold vp_in; decide +kernel) dX7_init_88 ?_
  clear hP hD hS H locs
  refine fun H locs (hP : va_P D vwCl [(h0, .inr (7, [.ref q743, .ref q744, .ref q748, .ref q751, .ref q754, .int wp742])), (q743, .inl (y 4, 10, .inr (.inr (.inr (.inr (va_up (va_up (va_up (va_up (va_up (va_up (va_up (fun _ => none) ((0 : Int32).toNatClampNeg) (some q757)) ((1 : Int32).toNatClampNeg) (some q761)) ((2 : Int32).toNatClampNeg) (some q765)) ((3 : Int32).toNatClampNeg) (some q769)) ((4 : Int32).toNatClampNeg) (some q773)) ((5 : Int32).toNatClampNeg) (some q777)) ((6 : Int32).toNatClampNeg) (some q781))))))), (q757, .inr (3, [.int 0, .ref ca0759, .int 0, .long 0, .int 0, .int 0, .int 0, .int 0, .int 0, .int 0])), (q781, .inr (3, [.int 6, .ref ca0783, .int 0, .long 0, .int 0, .int 0, .int 0, .int 0, .int 0, .int 0])), (ca0783, .inr (8, [.ref ca1784, .int 0])), (ca1784, .inl (y 1, 24, .inr (.inl (fun _ => 0))))] H) (hD : va_D A [(h0, .inr (7, [.ref q743, .ref q744, .ref q748, .ref q751, .ref q754, .int wp742])), (q743, .inl (y 4, 10, .inr (.inr (.inr (.inr (va_up (va_up (va_up (va_up (va_up (va_up (va_up (fun _ => none) ((0 : Int32).toNatClampNeg) (some q757)) ((1 : Int32).toNatClampNeg) (some q761)) ((2 : Int32).toNatClampNeg) (some q765)) ((3 : Int32).toNatClampNeg) (some q769)) ((4 : Int32).toNatClampNeg) (some q773)) ((5 : Int32).toNatClampNeg) (some q777)) ((6 : Int32).toNatClampNeg) (some q781))))))), (q757, .inr (3, [.int 0, .ref ca0759, .int 0, .long 0, .int 0, .int 0, .int 0, .int 0, .int 0, .int 0])), (q781, .inr (3, [.int 6, .ref ca0783, .int 0, .long 0, .int 0, .int 0, .int 0, .int 0, .int 0, .int 0])), (ca0783, .inr (8, [.ref ca1784, .int 0])), (ca1784, .inl (y 1, 24, .inr (.inl (fun _ => 0))))]) hS => ?_
  refine lv_iinc (v := 7) (lv' := [(1, .int 7), (0, .ref h0)]) hx hb dX7_init_89 hl (k := 0) rfl (by decide +kernel) (by decide) rfl ?_
  clear hl
  clear ls
  intro ls hl
  refine lv_goto (tgt := 66) hx hb dX7_init_92 (by decide) ?_
  replace hP := hP.sub (ws' := [(h0, .inr (7, [.ref q743, .ref q744, .ref q748, .ref q751, .ref q754, .int wp742])), (q743, .inl (y 4, 10, .inr (.inr (.inr (.inr (va_up (va_up (va_up (va_up (va_up (va_up (va_up (fun _ => none) ((0 : Int32).toNatClampNeg) (some q757)) ((1 : Int32).toNatClampNeg) (some q761)) ((2 : Int32).toNatClampNeg) (some q765)) ((3 : Int32).toNatClampNeg) (some q769)) ((4 : Int32).toNatClampNeg) (some q773)) ((5 : Int32).toNatClampNeg) (some q777)) ((6 : Int32).toNatClampNeg) (some q781))))))), (q757, .inr (3, [.int 0, .ref ca0759, .int 0, .long 0, .int 0, .int 0, .int 0, .int 0, .int 0, .int 0]))]) [0, 1, 2] rfl
  replace hD := hD.sub (ws' := [(h0, .inr (7, [.ref q743, .ref q744, .ref q748, .ref q751, .ref q754, .int wp742])), (q743, .inl (y 4, 10, .inr (.inr (.inr (.inr (va_up (va_up (va_up (va_up (va_up (va_up (va_up (fun _ => none) ((0 : Int32).toNatClampNeg) (some q757)) ((1 : Int32).toNatClampNeg) (some q761)) ((2 : Int32).toNatClampNeg) (some q765)) ((3 : Int32).toNatClampNeg) (some q769)) ((4 : Int32).toNatClampNeg) (some q773)) ((5 : Int32).toNatClampNeg) (some q777)) ((6 : Int32).toNatClampNeg) (some q781))))))), (q757, .inr (3, [.int 0, .ref ca0759, .int 0, .long 0, .int 0, .int 0, .int 0, .int 0, .int 0, .int 0]))]) [0, 1, 2] (by decide +kernel) rfl
  refine lv_iload_n hx hb dX7_init_66 rfl (lv_at hl 0 rfl) ?_
  refine lv_aload_n hx hb dX7_init_67 rfl (lv_at hl 1 rfl) ?_
  refine gm_get (D := D) (ci := 7) (v := .ref q743) (C := RX7) (T := TX7) (N := 6) hx hb hg inlX7 hown hK.1 hP 0 rfl rfl 0 (by decide) tX7_0 (hg _ gw_79) rfl dX7_init_68 ?_
  refine va_alen hx hb hK.1 hP 1 4 rfl rfl (v := 10) rfl dX7_init_71 ?_
  refine lv_icmp_ge (tgt := 95) hx hb dX7_init_72 (by decide) (fun c9 => absurd c9 (by decide +kernel)) (fun _ => ?_)
  refine lv_aload_n hx hb dX7_init_75 rfl (lv_at hl 1 rfl) ?_
  refine gm_get (D := D) (ci := 7) (v := .ref q743) (C := RX7) (T := TX7) (N := 6) hx hb hg inlX7 hown hK.1 hP 0 rfl rfl 0 (by decide) tX7_0 (hg _ gw_79) rfl dX7_init_76 ?_
  refine lv_iload_n hx hb dX7_init_79 rfl (lv_at hl 0 rfl) ?_
  refine va_new (ci := 3) (fs := [.int 0, .null, .int 0, .long 0, .int 0, .int 0, .int 0, .int 0, .int 0, .int 0]) (C := RX3) (T := TX3) (N := 10) hx hb hg inlX3 tyX3 tyX3_ok hown (hg _ gw_78) (hg _ gw_80) (hg _ gw_81) hK.1 hP hD hS hA rfl dfX3 (Nat.le_of_ble_eq_true rfl) (Nat.le_of_ble_eq_true rfl) dX7_init_80 ?_
  clear hP hD hS H
  refine fun q785 H (hP : va_P D vwCl [(h0, .inr (7, [.ref q743, .ref q744, .ref q748, .ref q751, .ref q754, .int wp742])), (q743, .inl (y 4, 10, .inr (.inr (.inr (.inr (va_up (va_up (va_up (va_up (va_up (va_up (va_up (fun _ => none) ((0 : Int32).toNatClampNeg) (some q757)) ((1 : Int32).toNatClampNeg) (some q761)) ((2 : Int32).toNatClampNeg) (some q765)) ((3 : Int32).toNatClampNeg) (some q769)) ((4 : Int32).toNatClampNeg) (some q773)) ((5 : Int32).toNatClampNeg) (some q777)) ((6 : Int32).toNatClampNeg) (some q781))))))), (q757, .inr (3, [.int 0, .ref ca0759, .int 0, .long 0, .int 0, .int 0, .int 0, .int 0, .int 0, .int 0])), (q785, .inr (3, [.int 0, .null, .int 0, .long 0, .int 0, .int 0, .int 0, .int 0, .int 0, .int 0]))] H) (hD : va_D A [(h0, .inr (7, [.ref q743, .ref q744, .ref q748, .ref q751, .ref q754, .int wp742])), (q743, .inl (y 4, 10, .inr (.inr (.inr (.inr (va_up (va_up (va_up (va_up (va_up (va_up (va_up (fun _ => none) ((0 : Int32).toNatClampNeg) (some q757)) ((1 : Int32).toNatClampNeg) (some q761)) ((2 : Int32).toNatClampNeg) (some q765)) ((3 : Int32).toNatClampNeg) (some q769)) ((4 : Int32).toNatClampNeg) (some q773)) ((5 : Int32).toNatClampNeg) (some q777)) ((6 : Int32).toNatClampNeg) (some q781))))))), (q757, .inr (3, [.int 0, .ref ca0759, .int 0, .long 0, .int 0, .int 0, .int 0, .int 0, .int 0, .int 0])), (q785, .inr (3, [.int 0, .null, .int 0, .long 0, .int 0, .int 0, .int 0, .int 0, .int 0, .int 0]))]) hS => ?_
  refine lv_dup hx hb dX7_init_83 rfl ?_
  refine lv_iload_n hx hb dX7_init_84 rfl (lv_at hl 0 rfl) ?_
  refine g_av (wr := [(h0, .inr (7, [.ref q743, .ref q744, .ref q748, .ref q751, .ref q754, .int wp742])), (q743, .inl (y 4, 10, .inr (.inr (.inr (.inr (va_up (va_up (va_up (va_up (va_up (va_up (va_up (fun _ => none) ((0 : Int32).toNatClampNeg) (some q757)) ((1 : Int32).toNatClampNeg) (some q761)) ((2 : Int32).toNatClampNeg) (some q765)) ((3 : Int32).toNatClampNeg) (some q769)) ((4 : Int32).toNatClampNeg) (some q773)) ((5 : Int32).toNatClampNeg) (some q777)) ((6 : Int32).toNatClampNeg) (some q781))))))), (q757, .inr (3, [.int 0, .ref ca0759, .int 0, .long 0, .int 0, .int 0, .int 0, .int 0, .int 0, .int 0]))]) (va_runI (As := [.int 7]) (rest := [.ref q785, .int 7, .ref q743]) ⟨hx, hb, hml, hown, hg⟩ (k_X3_init_8 l D y aS H.size q785 0 0 0 0 0 0 0 0 0) (cwI 1 hg ggI_RX7_17_X3_init rfl rfl rfl (hg _ gw_81) (hg _ gw_87) (hg _ gw_88) rfl (by decide +kernel) ⟨Nat.le_of_ble_eq_true rfl, Nat.le_of_ble_eq_true rfl⟩) (g_preS hK hP hD [3] rfl (by decide)) rfl rfl hl.1 rfl (lv_room (Nat.le_of_ble_eq_true rfl)) dX7_init_85 ⟨Nat.le_of_ble_eq_true rfl, Nat.le_of_ble_eq_true rfl⟩) hP hD hS hA [3] [0, 1, 2] rfl rfl (by decide) (by decide) ?_
  clear hP hD hS H locs
  refine fun u H locs hq hP hD hS => ?_
  obtain ⟨ca0787, ca1788⟩ := u
  replace hP : va_P D vwCl [(h0, .inr (7, [.ref q743, .ref q744, .ref q748, .ref q751, .ref q754, .int wp742])), (q743, .inl (y 4, 10, .inr (.inr (.inr (.inr (va_up (va_up (va_up (va_up (va_up (va_up (va_up (fun _ => none) ((0 : Int32).toNatClampNeg) (some q757)) ((1 : Int32).toNatClampNeg) (some q761)) ((2 : Int32).toNatClampNeg) (some q765)) ((3 : Int32).toNatClampNeg) (some q769)) ((4 : Int32).toNatClampNeg) (some q773)) ((5 : Int32).toNatClampNeg) (some q777)) ((6 : Int32).toNatClampNeg) (some q781))))))), (q757, .inr (3, [.int 0, .ref ca0759, .int 0, .long 0, .int 0, .int 0, .int 0, .int 0, .int 0, .int 0])), (q785, .inr (3, [.int 7, .ref ca0787, .int 0, .long 0, .int 0, .int 0, .int 0, .int 0, .int 0, .int 0])), (ca0787, .inr (8, [.ref ca1788, .int 0])), (ca1788, .inl (y 1, 24, .inr (.inl (fun _ => 0))))] H := hP
  replace hD : va_D A [(h0, .inr (7, [.ref q743, .ref q744, .ref q748, .ref q751, .ref q754, .int wp742])), (q743, .inl (y 4, 10, .inr (.inr (.inr (.inr (va_up (va_up (va_up (va_up (va_up (va_up (va_up (fun _ => none) ((0 : Int32).toNatClampNeg) (some q757)) ((1 : Int32).toNatClampNeg) (some q761)) ((2 : Int32).toNatClampNeg) (some q765)) ((3 : Int32).toNatClampNeg) (some q769)) ((4 : Int32).toNatClampNeg) (some q773)) ((5 : Int32).toNatClampNeg) (some q777)) ((6 : Int32).toNatClampNeg) (some q781))))))), (q757, .inr (3, [.int 0, .ref ca0759, .int 0, .long 0, .int 0, .int 0, .int 0, .int 0, .int 0, .int 0])), (q785, .inr (3, [.int 7, .ref ca0787, .int 0, .long 0, .int 0, .int 0, .int 0, .int 0, .int 0, .int 0])), (ca0787, .inr (8, [.ref ca1788, .int 0])), (ca1788, .inl (y 1, 24, .inr (.inl (fun _ => 0))))] := hD
  refine va_astq (r := (RX3, TX3, 10)) hx hb hK.1 hP hD hS 1 4 3 3 rfl rfl rfl rfl (by unfold vp_in; decide +kernel) dX7_init_88 ?_
  clear hP hD hS H locs
  refine fun H locs (hP : va_P D vwCl [(h0, .inr (7, [.ref q743, .ref q744, .ref q748, .ref q751, .ref q754, .int wp742])), (q743, .inl (y 4, 10, .inr (.inr (.inr (.inr (va_up (va_up (va_up (va_up (va_up (va_up (va_up (va_up (fun _ => none) ((0 : Int32).toNatClampNeg) (some q757)) ((1 : Int32).toNatClampNeg) (some q761)) ((2 : Int32).toNatClampNeg) (some q765)) ((3 : Int32).toNatClampNeg) (some q769)) ((4 : Int32).toNatClampNeg) (some q773)) ((5 : Int32).toNatClampNeg) (some q777)) ((6 : Int32).toNatClampNeg) (some q781)) ((7 : Int32).toNatClampNeg) (some q785))))))), (q757, .inr (3, [.int 0, .ref ca0759, .int 0, .long 0, .int 0, .int 0, .int 0, .int 0, .int 0, .int 0])), (q785, .inr (3, [.int 7, .ref ca0787, .int 0, .long 0, .int 0, .int 0, .int 0, .int 0, .int 0, .int 0])), (ca0787, .inr (8, [.ref ca1788, .int 0])), (ca1788, .inl (y 1, 24, .inr (.inl (fun _ => 0))))] H) (hD : va_D A [(h0, .inr (7, [.ref q743, .ref q744, .ref q748, .ref q751, .ref q754, .int wp742])), (q743, .inl (y 4, 10, .inr (.inr (.inr (.inr (va_up (va_up (va_up (va_up (va_up (va_up (va_up (va_up (fun _ => none) ((0 : Int32).toNatClampNeg) (some q757)) ((1 : Int32).toNatClampNeg) (some q761)) ((2 : Int32).toNatClampNeg) (some q765)) ((3 : Int32).toNatClampNeg) (some q769)) ((4 : Int32).toNatClampNeg) (some q773)) ((5 : Int32).toNatClampNeg) (some q777)) ((6 : Int32).toNatClampNeg) (some q781)) ((7 : Int32).toNatClampNeg) (some q785))))))), (q757, .inr (3, [.int 0, .ref ca0759, .int 0, .long 0, .int 0, .int 0, .int 0, .int 0, .int 0, .int 0])), (q785, .inr (3, [.int 7, .ref ca0787, .int 0, .long 0, .int 0, .int 0, .int 0, .int 0, .int 0, .int 0])), (ca0787, .inr (8, [.ref ca1788, .int 0])), (ca1788, .inl (y 1, 24, .inr (.inl (fun _ => 0))))]) hS => ?_
  refine lv_iinc (v := 8) (lv' := [(1, .int 8), (0, .ref h0)]) hx hb dX7_init_89 hl (k := 0) rfl (by decide +kernel) (by decide) rfl ?_
  clear hl
  clear ls
  intro ls hl
  refine lv_goto (tgt := 66) hx hb dX7_init_92 (by decide) ?_
  replace hP := hP.sub (ws' := [(h0, .inr (7, [.ref q743, .ref q744, .ref q748, .ref q751, .ref q754, .int wp742])), (q743, .inl (y 4, 10, .inr (.inr (.inr (.inr (va_up (va_up (va_up (va_up (va_up (va_up (va_up (va_up (fun _ => none) ((0 : Int32).toNatClampNeg) (some q757)) ((1 : Int32).toNatClampNeg) (some q761)) ((2 : Int32).toNatClampNeg) (some q765)) ((3 : Int32).toNatClampNeg) (some q769)) ((4 : Int32).toNatClampNeg) (some q773)) ((5 : Int32).toNatClampNeg) (some q777)) ((6 : Int32).toNatClampNeg) (some q781)) ((7 : Int32).toNatClampNeg) (some q785))))))), (q757, .inr (3, [.int 0, .ref ca0759, .int 0, .long 0, .int 0, .int 0, .int 0, .int 0, .int 0, .int 0]))]) [0, 1, 2] rfl
  replace hD := hD.sub (ws' := [(h0, .inr (7, [.ref q743, .ref q744, .ref q748, .ref q751, .ref q754, .int wp742])), (q743, .inl (y 4, 10, .inr (.inr (.inr (.inr (va_up (va_up (va_up (va_up (va_up (va_up (va_up (va_up (fun _ => none) ((0 : Int32).toNatClampNeg) (some q757)) ((1 : Int32).toNatClampNeg) (some q761)) ((2 : Int32).toNatClampNeg) (some q765)) ((3 : Int32).toNatClampNeg) (some q769)) ((4 : Int32).toNatClampNeg) (some q773)) ((5 : Int32).toNatClampNeg) (some q777)) ((6 : Int32).toNatClampNeg) (some q781)) ((7 : Int32).toNatClampNeg) (some q785))))))), (q757, .inr (3, [.int 0, .ref ca0759, .int 0, .long 0, .int 0, .int 0, .int 0, .int 0, .int 0, .int 0]))]) [0, 1, 2] (by decide +kernel) rfl
  refine lv_iload_n hx hb dX7_init_66 rfl (lv_at hl 0 rfl) ?_
  refine lv_aload_n hx hb dX7_init_67 rfl (lv_at hl 1 rfl) ?_
  refine gm_get (D := D) (ci := 7) (v := .ref q743) (C := RX7) (T := TX7) (N := 6) hx hb hg inlX7 hown hK.1 hP 0 rfl rfl 0 (by decide) tX7_0 (hg _ gw_79) rfl dX7_init_68 ?_
  refine va_alen hx hb hK.1 hP 1 4 rfl rfl (v := 10) rfl dX7_init_71 ?_
  refine lv_icmp_ge (tgt := 95) hx hb dX7_init_72 (by decide) (fun c9 => absurd c9 (by decide +kernel)) (fun _ => ?_)
  refine lv_aload_n hx hb dX7_init_75 rfl (lv_at hl 1 rfl) ?_
  refine gm_get (D := D) (ci := 7) (v := .ref q743) (C := RX7) (T := TX7) (N := 6) hx hb hg inlX7 hown hK.1 hP 0 rfl rfl 0 (by decide) tX7_0 (hg _ gw_79) rfl dX7_init_76 ?_
  refine lv_iload_n hx hb dX7_init_79 rfl (lv_at hl 0 rfl) ?_
  refine va_new (ci := 3) (fs := [.int 0, .null, .int 0, .long 0, .int 0, .int 0, .int 0, .int 0, .int 0, .int 0]) (C := RX3) (T := TX3) (N := 10) hx hb hg inlX3 tyX3 tyX3_ok hown (hg _ gw_78) (hg _ gw_80) (hg _ gw_81) hK.1 hP hD hS hA rfl dfX3 (Nat.le_of_ble_eq_true rfl) (Nat.le_of_ble_eq_true rfl) dX7_init_80 ?_
  clear hP hD hS H
  refine fun q789 H (hP : va_P D vwCl [(h0, .inr (7, [.ref q743, .ref q744, .ref q748, .ref q751, .ref q754, .int wp742])), (q743, .inl (y 4, 10, .inr (.inr (.inr (.inr (va_up (va_up (va_up (va_up (va_up (va_up (va_up (va_up (fun _ => none) ((0 : Int32).toNatClampNeg) (some q757)) ((1 : Int32).toNatClampNeg) (some q761)) ((2 : Int32).toNatClampNeg) (some q765)) ((3 : Int32).toNatClampNeg) (some q769)) ((4 : Int32).toNatClampNeg) (some q773)) ((5 : Int32).toNatClampNeg) (some q777)) ((6 : Int32).toNatClampNeg) (some q781)) ((7 : Int32).toNatClampNeg) (some q785))))))), (q757, .inr (3, [.int 0, .ref ca0759, .int 0, .long 0, .int 0, .int 0, .int 0, .int 0, .int 0, .int 0])), (q789, .inr (3, [.int 0, .null, .int 0, .long 0, .int 0, .int 0, .int 0, .int 0, .int 0, .int 0]))] H) (hD : va_D A [(h0, .inr (7, [.ref q743, .ref q744, .ref q748, .ref q751, .ref q754, .int wp742])), (q743, .inl (y 4, 10, .inr (.inr (.inr (.inr (va_up (va_up (va_up (va_up (va_up (va_up (va_up (va_up (fun _ => none) ((0 : Int32).toNatClampNeg) (some q757)) ((1 : Int32).toNatClampNeg) (some q761)) ((2 : Int32).toNatClampNeg) (some q765)) ((3 : Int32).toNatClampNeg) (some q769)) ((4 : Int32).toNatClampNeg) (some q773)) ((5 : Int32).toNatClampNeg) (some q777)) ((6 : Int32).toNatClampNeg) (some q781)) ((7 : Int32).toNatClampNeg) (some q785))))))), (q757, .inr (3, [.int 0, .ref ca0759, .int 0, .long 0, .int 0, .int 0, .int 0, .int 0, .int 0, .int 0])), (q789, .inr (3, [.int 0, .null, .int 0, .long 0, .int 0, .int 0, .int 0, .int 0, .int 0, .int 0]))]) hS => ?_
  refine lv_dup hx hb dX7_init_83 rfl ?_
  refine lv_iload_n hx hb dX7_init_84 rfl (lv_at hl 0 rfl) ?_
  refine g_av (wr := [(h0, .inr (7, [.ref q743, .ref q744, .ref q748, .ref q751, .ref q754, .int wp742])), (q743, .inl (y 4, 10, .inr (.inr (.inr (.inr (va_up (va_up (va_up (va_up (va_up (va_up (va_up (va_up (fun _ => none) ((0 : Int32).toNatClampNeg) (some q757)) ((1 : Int32).toNatClampNeg) (some q761)) ((2 : Int32).toNatClampNeg) (some q765)) ((3 : Int32).toNatClampNeg) (some q769)) ((4 : Int32).toNatClampNeg) (some q773)) ((5 : Int32).toNatClampNeg) (some q777)) ((6 : Int32).toNatClampNeg) (some q781)) ((7 : Int32).toNatClampNeg) (some q785))))))), (q757, .inr (3, [.int 0, .ref ca0759, .int 0, .long 0, .int 0, .int 0, .int 0, .int 0, .int 0, .int 0]))]) (va_runI (As := [.int 8]) (rest := [.ref q789, .int 8, .ref q743]) ⟨hx, hb, hml, hown, hg⟩ (k_X3_init_9 l D y aS H.size q789 0 0 0 0 0 0 0 0 0) (cwI 1 hg ggI_RX7_17_X3_init rfl rfl rfl (hg _ gw_81) (hg _ gw_87) (hg _ gw_88) rfl (by decide +kernel) ⟨Nat.le_of_ble_eq_true rfl, Nat.le_of_ble_eq_true rfl⟩) (g_preS hK hP hD [3] rfl (by decide)) rfl rfl hl.1 rfl (lv_room (Nat.le_of_ble_eq_true rfl)) dX7_init_85 ⟨Nat.le_of_ble_eq_true rfl, Nat.le_of_ble_eq_true rfl⟩) hP hD hS hA [3] [0, 1, 2] rfl rfl (by decide) (by decide) ?_
  clear hP hD hS H locs
  refine fun u H locs hq hP hD hS => ?_
  obtain ⟨ca0791, ca1792⟩ := u
  replace hP : va_P D vwCl [(h0, .inr (7, [.ref q743, .ref q744, .ref q748, .ref q751, .ref q754, .int wp742])), (q743, .inl (y 4, 10, .inr (.inr (.inr (.inr (va_up (va_up (va_up (va_up (va_up (va_up (va_up (va_up (fun _ => none) ((0 : Int32).toNatClampNeg) (some q757)) ((1 : Int32).toNatClampNeg) (some q761)) ((2 : Int32).toNatClampNeg) (some q765)) ((3 : Int32).toNatClampNeg) (some q769)) ((4 : Int32).toNatClampNeg) (some q773)) ((5 : Int32).toNatClampNeg) (some q777)) ((6 : Int32).toNatClampNeg) (some q781)) ((7 : Int32).toNatClampNeg) (some q785))))))), (q757, .inr (3, [.int 0, .ref ca0759, .int 0, .long 0, .int 0, .int 0, .int 0, .int 0, .int 0, .int 0])), (q789, .inr (3, [.int 8, .ref ca0791, .int 0, .long 0, .int 0, .int 0, .int 0, .int 0, .int 0, .int 0])), (ca0791, .inr (8, [.ref ca1792, .int 0])), (ca1792, .inl (y 1, 24, .inr (.inl (fun _ => 0))))] H := hP
  replace hD : va_D A [(h0, .inr (7, [.ref q743, .ref q744, .ref q748, .ref q751, .ref q754, .int wp742])), (q743, .inl (y 4, 10, .inr (.inr (.inr (.inr (va_up (va_up (va_up (va_up (va_up (va_up (va_up (va_up (fun _ => none) ((0 : Int32).toNatClampNeg) (some q757)) ((1 : Int32).toNatClampNeg) (some q761)) ((2 : Int32).toNatClampNeg) (some q765)) ((3 : Int32).toNatClampNeg) (some q769)) ((4 : Int32).toNatClampNeg) (some q773)) ((5 : Int32).toNatClampNeg) (some q777)) ((6 : Int32).toNatClampNeg) (some q781)) ((7 : Int32).toNatClampNeg) (some q785))))))), (q757, .inr (3, [.int 0, .ref ca0759, .int 0, .long 0, .int 0, .int 0, .int 0, .int 0, .int 0, .int 0])), (q789, .inr (3, [.int 8, .ref ca0791, .int 0, .long 0, .int 0, .int 0, .int 0, .int 0, .int 0, .int 0])), (ca0791, .inr (8, [.ref ca1792, .int 0])), (ca1792, .inl (y 1, 24, .inr (.inl (fun _ => 0))))] := hD
  refine va_astq (r := (RX3, TX3, 10)) hx hb hK.1 hP hD hS 1 4 3 3 rfl rfl rfl rfl (by unfold vp_in; decide +kernel) dX7_init_88 ?_
  clear hP hD hS H locs
  refine fun H locs (hP : va_P D vwCl [(h0, .inr (7, [.ref q743, .ref q744, .ref q748, .ref q751, .ref q754, .int wp742])), (q743, .inl (y 4, 10, .inr (.inr (.inr (.inr (va_up (va_up (va_up (va_up (va_up (va_up (va_up (va_up (va_up (fun _ => none) ((0 : Int32).toNatClampNeg) (some q757)) ((1 : Int32).toNatClampNeg) (some q761)) ((2 : Int32).toNatClampNeg) (some q765)) ((3 : Int32).toNatClampNeg) (some q769)) ((4 : Int32).toNatClampNeg) (some q773)) ((5 : Int32).toNatClampNeg) (some q777)) ((6 : Int32).toNatClampNeg) (some q781)) ((7 : Int32).toNatClampNeg) (some q785)) ((8 : Int32).toNatClampNeg) (some q789))))))), (q757, .inr (3, [.int 0, .ref ca0759, .int 0, .long 0, .int 0, .int 0, .int 0, .int 0, .int 0, .int 0])), (q789, .inr (3, [.int 8, .ref ca0791, .int 0, .long 0, .int 0, .int 0, .int 0, .int 0, .int 0, .int 0])), (ca0791, .inr (8, [.ref ca1792, .int 0])), (ca1792, .inl (y 1, 24, .inr (.inl (fun _ => 0))))] H) (hD : va_D A [(h0, .inr (7, [.ref q743, .ref q744, .ref q748, .ref q751, .ref q754, .int wp742])), (q743, .inl (y 4, 10, .inr (.inr (.inr (.inr (va_up (va_up (va_up (va_up (va_up (va_up (va_up (va_up (va_up (fun _ => none) ((0 : Int32).toNatClampNeg) (some q757)) ((1 : Int32).toNatClampNeg) (some q761)) ((2 : Int32).toNatClampNeg) (some q765)) ((3 : Int32).toNatClampNeg) (some q769)) ((4 : Int32).toNatClampNeg) (some q773)) ((5 : Int32).toNatClampNeg) (some q777)) ((6 : Int32).toNatClampNeg) (some q781)) ((7 : Int32).toNatClampNeg) (some q785)) ((8 : Int32).toNatClampNeg) (some q789))))))), (q757, .inr (3, [.int 0, .ref ca0759, .int 0, .long 0, .int 0, .int 0, .int 0, .int 0, .int 0, .int 0])), (q789, .inr (3, [.int 8, .ref ca0791, .int 0, .long 0, .int 0, .int 0, .int 0, .int 0, .int 0, .int 0])), (ca0791, .inr (8, [.ref ca1792, .int 0])), (ca1792, .inl (y 1, 24, .inr (.inl (fun _ => 0))))]) hS => ?_
  refine lv_iinc (v := 9) (lv' := [(1, .int 9), (0, .ref h0)]) hx hb dX7_init_89 hl (k := 0) rfl (by decide +kernel) (by decide) rfl ?_
  clear hl
  clear ls
  intro ls hl
  refine lv_goto (tgt := 66) hx hb dX7_init_92 (by decide) ?_
  replace hP := hP.sub (ws' := [(h0, .inr (7, [.ref q743, .ref q744, .ref q748, .ref q751, .ref q754, .int wp742])), (q743, .inl (y 4, 10, .inr (.inr (.inr (.inr (va_up (va_up (va_up (va_up (va_up (va_up (va_up (va_up (va_up (fun _ => none) ((0 : Int32).toNatClampNeg) (some q757)) ((1 : Int32).toNatClampNeg) (some q761)) ((2 : Int32).toNatClampNeg) (some q765)) ((3 : Int32).toNatClampNeg) (some q769)) ((4 : Int32).toNatClampNeg) (some q773)) ((5 : Int32).toNatClampNeg) (some q777)) ((6 : Int32).toNatClampNeg) (some q781)) ((7 : Int32).toNatClampNeg) (some q785)) ((8 : Int32).toNatClampNeg) (some q789))))))), (q757, .inr (3, [.int 0, .ref ca0759, .int 0, .long 0, .int 0, .int 0, .int 0, .int 0, .int 0, .int 0]))]) [0, 1, 2] rfl
  replace hD := hD.sub (ws' := [(h0, .inr (7, [.ref q743, .ref q744, .ref q748, .ref q751, .ref q754, .int wp742])), (q743, .inl (y 4, 10, .inr (.inr (.inr (.inr (va_up (va_up (va_up (va_up (va_up (va_up (va_up (va_up (va_up (fun _ => none) ((0 : Int32).toNatClampNeg) (some q757)) ((1 : Int32).toNatClampNeg) (some q761)) ((2 : Int32).toNatClampNeg) (some q765)) ((3 : Int32).toNatClampNeg) (some q769)) ((4 : Int32).toNatClampNeg) (some q773)) ((5 : Int32).toNatClampNeg) (some q777)) ((6 : Int32).toNatClampNeg) (some q781)) ((7 : Int32).toNatClampNeg) (some q785)) ((8 : Int32).toNatClampNeg) (some q789))))))), (q757, .inr (3, [.int 0, .ref ca0759, .int 0, .long 0, .int 0, .int 0, .int 0, .int 0, .int 0, .int 0]))]) [0, 1, 2] (by decide +kernel) rfl
  refine lv_iload_n hx hb dX7_init_66 rfl (lv_at hl 0 rfl) ?_
  refine lv_aload_n hx hb dX7_init_67 rfl (lv_at hl 1 rfl) ?_
  refine gm_get (D := D) (ci := 7) (v := .ref q743) (C := RX7) (T := TX7) (N := 6) hx hb hg inlX7 hown hK.1 hP 0 rfl rfl 0 (by decide) tX7_0 (hg _ gw_79) rfl dX7_init_68 ?_
  refine va_alen hx hb hK.1 hP 1 4 rfl rfl (v := 10) rfl dX7_init_71 ?_
  refine lv_icmp_ge (tgt := 95) hx hb dX7_init_72 (by decide) (fun c9 => absurd c9 (by decide +kernel)) (fun _ => ?_)
  refine lv_aload_n hx hb dX7_init_75 rfl (lv_at hl 1 rfl) ?_
  refine gm_get (D := D) (ci := 7) (v := .ref q743) (C := RX7) (T := TX7) (N := 6) hx hb hg inlX7 hown hK.1 hP 0 rfl rfl 0 (by decide) tX7_0 (hg _ gw_79) rfl dX7_init_76 ?_
  refine lv_iload_n hx hb dX7_init_79 rfl (lv_at hl 0 rfl) ?_
  refine va_new (ci := 3) (fs := [.int 0, .null, .int 0, .long 0, .int 0, .int 0, .int 0, .int 0, .int 0, .int 0]) (C := RX3) (T := TX3) (N := 10) hx hb hg inlX3 tyX3 tyX3_ok hown (hg _ gw_78) (hg _ gw_80) (hg _ gw_81) hK.1 hP hD hS hA rfl dfX3 (Nat.le_of_ble_eq_true rfl) (Nat.le_of_ble_eq_true rfl) dX7_init_80 ?_
  clear hP hD hS H
  refine fun q793 H (hP : va_P D vwCl [(h0, .inr (7, [.ref q743, .ref q744, .ref q748, .ref q751, .ref q754, .int wp742])), (q743, .inl (y 4, 10, .inr (.inr (.inr (.inr (va_up (va_up (va_up (va_up (va_up (va_up (va_up (va_up (va_up (fun _ => none) ((0 : Int32).toNatClampNeg) (some q757)) ((1 : Int32).toNatClampNeg) (some q761)) ((2 : Int32).toNatClampNeg) (some q765)) ((3 : Int32).toNatClampNeg) (some q769)) ((4 : Int32).toNatClampNeg) (some q773)) ((5 : Int32).toNatClampNeg) (some q777)) ((6 : Int32).toNatClampNeg) (some q781)) ((7 : Int32).toNatClampNeg) (some q785)) ((8 : Int32).toNatClampNeg) (some q789))))))), (q757, .inr (3, [.int 0, .ref ca0759, .int 0, .long 0, .int 0, .int 0, .int 0, .int 0, .int 0, .int 0])), (q793, .inr (3, [.int 0, .null, .int 0, .long 0, .int 0, .int 0, .int 0, .int 0, .int 0, .int 0]))] H) (hD : va_D A [(h0, .inr (7, [.ref q743, .ref q744, .ref q748, .ref q751, .ref q754, .int wp742])), (q743, .inl (y 4, 10, .inr (.inr (.inr (.inr (va_up (va_up (va_up (va_up (va_up (va_up (va_up (va_up (va_up (fun _ => none) ((0 : Int32).toNatClampNeg) (some q757)) ((1 : Int32).toNatClampNeg) (some q761)) ((2 : Int32).toNatClampNeg) (some q765)) ((3 : Int32).toNatClampNeg) (some q769)) ((4 : Int32).toNatClampNeg) (some q773)) ((5 : Int32).toNatClampNeg) (some q777)) ((6 : Int32).toNatClampNeg) (some q781)) ((7 : Int32).toNatClampNeg) (some q785)) ((8 : Int32).toNatClampNeg) (some q789))))))), (q757, .inr (3, [.int 0, .ref ca0759, .int 0, .long 0, .int 0, .int 0, .int 0, .int 0, .int 0, .int 0])), (q793, .inr (3, [.int 0, .null, .int 0, .long 0, .int 0, .int 0, .int 0, .int 0, .int 0, .int 0]))]) hS => ?_
  refine lv_dup hx hb dX7_init_83 rfl ?_
  refine lv_iload_n hx hb dX7_init_84 rfl (lv_at hl 0 rfl) ?_
  refine g_av (wr := [(h0, .inr (7, [.ref q743, .ref q744, .ref q748, .ref q751, .ref q754, .int wp742])), (q743, .inl (y 4, 10, .inr (.inr (.inr (.inr (va_up (va_up (va_up (va_up (va_up (va_up (va_up (va_up (va_up (fun _ => none) ((0 : Int32).toNatClampNeg) (some q757)) ((1 : Int32).toNatClampNeg) (some q761)) ((2 : Int32).toNatClampNeg) (some q765)) ((3 : Int32).toNatClampNeg) (some q769)) ((4 : Int32).toNatClampNeg) (some q773)) ((5 : Int32).toNatClampNeg) (some q777)) ((6 : Int32).toNatClampNeg) (some q781)) ((7 : Int32).toNatClampNeg) (some q785)) ((8 : Int32).toNatClampNeg) (some q789))))))), (q757, .inr (3, [.int 0, .ref ca0759, .int 0, .long 0, .int 0, .int 0, .int 0, .int 0, .int 0, .int 0]))]) (va_runI (As := [.int 9]) (rest := [.ref q793, .int 9, .ref q743]) ⟨hx, hb, hml, hown, hg⟩ (k_X3_init_10 l D y aS H.size q793 0 0 0 0 0 0 0 0 0) (cwI 1 hg ggI_RX7_17_X3_init rfl rfl rfl (hg _ gw_81) (hg _ gw_87) (hg _ gw_88) rfl (by decide +kernel) ⟨Nat.le_of_ble_eq_true rfl, Nat.le_of_ble_eq_true rfl⟩) (g_preS hK hP hD [3] rfl (by decide)) rfl rfl hl.1 rfl (lv_room (Nat.le_of_ble_eq_true rfl)) dX7_init_85 ⟨Nat.le_of_ble_eq_true rfl, Nat.le_of_ble_eq_true rfl⟩) hP hD hS hA [3] [0, 1, 2] rfl rfl (by decide) (by decide) ?_
  clear hP hD hS H locs
  refine fun u H locs hq hP hD hS => ?_
  obtain ⟨ca0795, ca1796⟩ := u
  replace hP : va_P D vwCl [(h0, .inr (7, [.ref q743, .ref q744, .ref q748, .ref q751, .ref q754, .int wp742])), (q743, .inl (y 4, 10, .inr (.inr (.inr (.inr (va_up (va_up (va_up (va_up (va_up (va_up (va_up (va_up (va_up (fun _ => none) ((0 : Int32).toNatClampNeg) (some q757)) ((1 : Int32).toNatClampNeg) (some q761)) ((2 : Int32).toNatClampNeg) (some q765)) ((3 : Int32).toNatClampNeg) (some q769)) ((4 : Int32).toNatClampNeg) (some q773)) ((5 : Int32).toNatClampNeg) (some q777)) ((6 : Int32).toNatClampNeg) (some q781)) ((7 : Int32).toNatClampNeg) (some q785)) ((8 : Int32).toNatClampNeg) (some q789))))))), (q757, .inr (3, [.int 0, .ref ca0759, .int 0, .long 0, .int 0, .int 0, .int 0, .int 0, .int 0, .int 0])), (q793, .inr (3, [.int 9, .ref ca0795, .int 0, .long 0, .int 0, .int 0, .int 0, .int 0, .int 0, .int 0])), (ca0795, .inr (8, [.ref ca1796, .int 0])), (ca1796, .inl (y 1, 24, .inr (.inl (fun _ => 0))))] H := hP
  replace hD : va_D A [(h0, .inr (7, [.ref q743, .ref q744, .ref q748, .ref q751, .ref q754, .int wp742])), (q743, .inl (y 4, 10, .inr (.inr (.inr (.inr (va_up (va_up (va_up (va_up (va_up (va_up (va_up (va_up (va_up (fun _ => none) ((0 : Int32).toNatClampNeg) (some q757)) ((1 : Int32).toNatClampNeg) (some q761)) ((2 : Int32).toNatClampNeg) (some q765)) ((3 : Int32).toNatClampNeg) (some q769)) ((4 : Int32).toNatClampNeg) (some q773)) ((5 : Int32).toNatClampNeg) (some q777)) ((6 : Int32).toNatClampNeg) (some q781)) ((7 : Int32).toNatClampNeg) (some q785)) ((8 : Int32).toNatClampNeg) (some q789))))))), (q757, .inr (3, [.int 0, .ref ca0759, .int 0, .long 0, .int 0, .int 0, .int 0, .int 0, .int 0, .int 0])), (q793, .inr (3, [.int 9, .ref ca0795, .int 0, .long 0, .int 0, .int 0, .int 0, .int 0, .int 0, .int 0])), (ca0795, .inr (8, [.ref ca1796, .int 0])), (ca1796, .inl (y 1, 24, .inr (.inl (fun _ => 0))))] := hD
  refine va_astq (r := (RX3, TX3, 10)) hx hb hK.1 hP hD hS 1 4 3 3 rfl rfl rfl rfl (by unfold vp_in; decide +kernel) dX7_init_88 ?_
  clear hP hD hS H locs
  refine fun H locs (hP : va_P D vwCl [(h0, .inr (7, [.ref q743, .ref q744, .ref q748, .ref q751, .ref q754, .int wp742])), (q743, .inl (y 4, 10, .inr (.inr (.inr (.inr (va_up (va_up (va_up (va_up (va_up (va_up (va_up (va_up (va_up (va_up (fun _ => none) ((0 : Int32).toNatClampNeg) (some q757)) ((1 : Int32).toNatClampNeg) (some q761)) ((2 : Int32).toNatClampNeg) (some q765)) ((3 : Int32).toNatClampNeg) (some q769)) ((4 : Int32).toNatClampNeg) (some q773)) ((5 : Int32).toNatClampNeg) (some q777)) ((6 : Int32).toNatClampNeg) (some q781)) ((7 : Int32).toNatClampNeg) (some q785)) ((8 : Int32).toNatClampNeg) (some q789)) ((9 : Int32).toNatClampNeg) (some q793))))))), (q757, .inr (3, [.int 0, .ref ca0759, .int 0, .long 0, .int 0, .int 0, .int 0, .int 0, .int 0, .int 0])), (q793, .inr (3, [.int 9, .ref ca0795, .int 0, .long 0, .int 0, .int 0, .int 0, .int 0, .int 0, .int 0])), (ca0795, .inr (8, [.ref ca1796, .int 0])), (ca1796, .inl (y 1, 24, .inr (.inl (fun _ => 0))))] H) (hD : va_D A [(h0, .inr (7, [.ref q743, .ref q744, .ref q748, .ref q751, .ref q754, .int wp742])), (q743, .inl (y 4, 10, .inr (.inr (.inr (.inr (va_up (va_up (va_up (va_up (va_up (va_up (va_up (va_up (va_up (va_up (fun _ => none) ((0 : Int32).toNatClampNeg) (some q757)) ((1 : Int32).toNatClampNeg) (some q761)) ((2 : Int32).toNatClampNeg) (some q765)) ((3 : Int32).toNatClampNeg) (some q769)) ((4 : Int32).toNatClampNeg) (some q773)) ((5 : Int32).toNatClampNeg) (some q777)) ((6 : Int32).toNatClampNeg) (some q781)) ((7 : Int32).toNatClampNeg) (some q785)) ((8 : Int32).toNatClampNeg) (some q789)) ((9 : Int32).toNatClampNeg) (some q793))))))), (q757, .inr (3, [.int 0, .ref ca0759, .int 0, .long 0, .int 0, .int 0, .int 0, .int 0, .int 0, .int 0])), (q793, .inr (3, [.int 9, .ref ca0795, .int 0, .long 0, .int 0, .int 0, .int 0, .int 0, .int 0, .int 0])), (ca0795, .inr (8, [.ref ca1796, .int 0])), (ca1796, .inl (y 1, 24, .inr (.inl (fun _ => 0))))]) hS => ?_
  refine lv_iinc (v := 10) (lv' := [(1, .int 10), (0, .ref h0)]) hx hb dX7_init_89 hl (k := 0) rfl (by decide +kernel) (by decide) rfl ?_
  clear hl
  clear ls
  intro ls hl
  refine lv_goto (tgt := 66) hx hb dX7_init_92 (by decide) ?_
  replace hP := hP.sub (ws' := [(h0, .inr (7, [.ref q743, .ref q744, .ref q748, .ref q751, .ref q754, .int wp742])), (q743, .inl (y 4, 10, .inr (.inr (.inr (.inr (va_up (va_up (va_up (va_up (va_up (va_up (va_up (va_up (va_up (va_up (fun _ => none) ((0 : Int32).toNatClampNeg) (some q757)) ((1 : Int32).toNatClampNeg) (some q761)) ((2 : Int32).toNatClampNeg) (some q765)) ((3 : Int32).toNatClampNeg) (some q769)) ((4 : Int32).toNatClampNeg) (some q773)) ((5 : Int32).toNatClampNeg) (some q777)) ((6 : Int32).toNatClampNeg) (some q781)) ((7 : Int32).toNatClampNeg) (some q785)) ((8 : Int32).toNatClampNeg) (some q789)) ((9 : Int32).toNatClampNeg) (some q793))))))), (q757, .inr (3, [.int 0, .ref ca0759, .int 0, .long 0, .int 0, .int 0, .int 0, .int 0, .int 0, .int 0]))]) [0, 1, 2] rfl
  replace hD := hD.sub (ws' := [(h0, .inr (7, [.ref q743, .ref q744, .ref q748, .ref q751, .ref q754, .int wp742])), (q743, .inl (y 4, 10, .inr (.inr (.inr (.inr (va_up (va_up (va_up (va_up (va_up (va_up (va_up (va_up (va_up (va_up (fun _ => none) ((0 : Int32).toNatClampNeg) (some q757)) ((1 : Int32).toNatClampNeg) (some q761)) ((2 : Int32).toNatClampNeg) (some q765)) ((3 : Int32).toNatClampNeg) (some q769)) ((4 : Int32).toNatClampNeg) (some q773)) ((5 : Int32).toNatClampNeg) (some q777)) ((6 : Int32).toNatClampNeg) (some q781)) ((7 : Int32).toNatClampNeg) (some q785)) ((8 : Int32).toNatClampNeg) (some q789)) ((9 : Int32).toNatClampNeg) (some q793))))))), (q757, .inr (3, [.int 0, .ref ca0759, .int 0, .long 0, .int 0, .int 0, .int 0, .int 0, .int 0, .int 0]))]) [0, 1, 2] (by decide +kernel) rfl
  refine lv_iload_n hx hb dX7_init_66 rfl (lv_at hl 0 rfl) ?_
  refine lv_aload_n hx hb dX7_init_67 rfl (lv_at hl 1 rfl) ?_
  refine gm_get (D := D) (ci := 7) (v := .ref q743) (C := RX7) (T := TX7) (N := 6) hx hb hg inlX7 hown hK.1 hP 0 rfl rfl 0 (by decide) tX7_0 (hg _ gw_79) rfl dX7_init_68 ?_
  refine va_alen hx hb hK.1 hP 1 4 rfl rfl (v := 10) rfl dX7_init_71 ?_
  refine lv_icmp_ge (tgt := 95) hx hb dX7_init_72 (by decide) (fun _ => ?_) (fun c9 => absurd c9 (by decide +kernel))
  exact g_vret hx hb hr hlocks ⟨⟨q743, q744, q748, q751, q754, q757, q761, q765⟩, ⟨q769, q773, q777, q781, q785, q789, q793, ca0759⟩⟩ hP hD hS trivial (Nat.le_of_ble_eq_true rfl) (Nat.le_of_ble_eq_true rfl) dX7_init_95
