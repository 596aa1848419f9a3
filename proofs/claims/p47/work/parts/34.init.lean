def dt7001_X8_init : List (Nat × Instr × Nat) := [(0, (.aload_n 0, 1)), (1, (.invokespecial 3, 3)), (4, (.aload_n 0, 1)), (5, (.iload_n 1, 1)), (6, (.ifCond .ge 7, 3)), (13, (.iload_n 1, 1)), (14, (.newarray .long, 2)), (16, (.putfield 9, 3)), (19, (.return_, 1))]
theorem dt7001_X8_init_ok : ∀ q ∈ dt7001_X8_init, decode cX8_init q.1 = .ok q.2 := by decide +kernel
theorem dX8_init_0 : decode cX8_init 0 = .ok (.aload_n 0, 1) := g_dec dt7001_X8_init_ok (k := 0) rfl
theorem dX8_init_1 : decode cX8_init 1 = .ok (.invokespecial 3, 3) := g_dec dt7001_X8_init_ok (k := 1) rfl
theorem dX8_init_4 : decode cX8_init 4 = .ok (.aload_n 0, 1) := g_dec dt7001_X8_init_ok (k := 2) rfl
theorem dX8_init_5 : decode cX8_init 5 = .ok (.iload_n 1, 1) := g_dec dt7001_X8_init_ok (k := 3) rfl
theorem dX8_init_6 : decode cX8_init 6 = .ok (.ifCond .ge 7, 3) := g_dec dt7001_X8_init_ok (k := 4) rfl
theorem dX8_init_13 : decode cX8_init 13 = .ok (.iload_n 1, 1) := g_dec dt7001_X8_init_ok (k := 5) rfl
theorem dX8_init_14 : decode cX8_init 14 = .ok (.newarray .long, 2) := g_dec dt7001_X8_init_ok (k := 6) rfl
theorem dX8_init_16 : decode cX8_init 16 = .ok (.putfield 9, 3) := g_dec dt7001_X8_init_ok (k := 7) rfl
theorem dX8_init_19 : decode cX8_init 19 = .ok (.return_, 1) := g_dec dt7001_X8_init_ok (k := 8) rfl
def dt7002_X1_init : List (Nat × Instr × Nat) := [(0, (.aload_n 0, 1)), (1, (.invokespecial 3, 3)), (4, (.aload_n 0, 1)), (5, (.iconst (-1), 1)), (6, (.putfield 9, 3)), (9, (.aload_n 0, 1)), (10, (.iconst 0, 1)), (11, (.putfield 15, 3)), (14, (.aload_n 0, 1)), (15, (.iconst (-1), 1)), (16, (.putfield 18, 3)), (19, (.aload_n 0, 1)), (20, (.iload_n 1, 1)), (21, (.putfield 21, 3)), (24, (.return_, 1))]
theorem dt7002_X1_init_ok : ∀ q ∈ dt7002_X1_init, decode cX1_init q.1 = .ok q.2 := by decide +kernel
theorem dX1_init_0 : decode cX1_init 0 = .ok (.aload_n 0, 1) := g_dec dt7002_X1_init_ok (k := 0) rfl
theorem dX1_init_1 : decode cX1_init 1 = .ok (.invokespecial 3, 3) := g_dec dt7002_X1_init_ok (k := 1) rfl
theorem dX1_init_4 : decode cX1_init 4 = .ok (.aload_n 0, 1) := g_dec dt7002_X1_init_ok (k := 2) rfl
theorem dX1_init_5 : decode cX1_init 5 = .ok (.iconst (-1), 1) := g_dec dt7002_X1_init_ok (k := 3) rfl
theorem dX1_init_6 : decode cX1_init 6 = .ok (.putfield 9, 3) := g_dec dt7002_X1_init_ok (k := 4) rfl
theorem dX1_init_9 : decode cX1_init 9 = .ok (.aload_n 0, 1) := g_dec dt7002_X1_init_ok (k := 5) rfl
theorem dX1_init_10 : decode cX1_init 10 = .ok (.iconst 0, 1) := g_dec dt7002_X1_init_ok (k := 6) rfl
theorem dX1_init_11 : decode cX1_init 11 = .ok (.putfield 15, 3) := g_dec dt7002_X1_init_ok (k := 7) rfl
theorem dX1_init_14 : decode cX1_init 14 = .ok (.aload_n 0, 1) := g_dec dt7002_X1_init_ok (k := 8) rfl
theorem dX1_init_15 : decode cX1_init 15 = .ok (.iconst (-1), 1) := g_dec dt7002_X1_init_ok (k := 9) rfl
theorem dX1_init_16 : decode cX1_init 16 = .ok (.putfield 18, 3) := g_dec dt7002_X1_init_ok (k := 10) rfl
theorem dX1_init_19 : decode cX1_init 19 = .ok (.aload_n 0, 1) := g_dec dt7002_X1_init_ok (k := 11) rfl
theorem dX1_init_20 : decode cX1_init 20 = .ok (.iload_n 1, 1) := g_dec dt7002_X1_init_ok (k := 12) rfl
theorem dX1_init_21 : decode cX1_init 21 = .ok (.putfield 21, 3) := g_dec dt7002_X1_init_ok (k := 13) rfl
theorem dX1_init_24 : decode cX1_init 24 = .ok (.return_, 1) := g_dec dt7002_X1_init_ok (k := 14) rfl
def dt7003_X6_init : List (Nat × Instr × Nat) := [(0, (.aload_n 0, 1)), (1, (.invokespecial 3, 3)), (4, (.aload_n 0, 1)), (5, (.iconst (-1), 1)), (6, (.putfield 9, 3)), (9, (.aload_n 0, 1)), (10, (.iconst (-1), 1)), (11, (.putfield 15, 3)), (14, (.aload_n 0, 1)), (15, (.iload_n 1, 1)), (16, (.putfield 18, 3)), (19, (.return_, 1))]
theorem dt7003_X6_init_ok : ∀ q ∈ dt7003_X6_init, decode cX6_init q.1 = .ok q.2 := by decide +kernel
theorem dX6_init_0 : decode cX6_init 0 = .ok (.aload_n 0, 1) := g_dec dt7003_X6_init_ok (k := 0) rfl
theorem dX6_init_1 : decode cX6_init 1 = .ok (.invokespecial 3, 3) := g_dec dt7003_X6_init_ok (k := 1) rfl
theorem dX6_init_4 : decode cX6_init 4 = .ok (.aload_n 0, 1) := g_dec dt7003_X6_init_ok (k := 2) rfl
theorem dX6_init_5 : decode cX6_init 5 = .ok (.iconst (-1), 1) := g_dec dt7003_X6_init_ok (k := 3) rfl
theorem dX6_init_6 : decode cX6_init 6 = .ok (.putfield 9, 3) := g_dec dt7003_X6_init_ok (k := 4) rfl
theorem dX6_init_9 : decode cX6_init 9 = .ok (.aload_n 0, 1) := g_dec dt7003_X6_init_ok (k := 5) rfl
theorem dX6_init_10 : decode cX6_init 10 = .ok (.iconst (-1), 1) := g_dec dt7003_X6_init_ok (k := 6) rfl
theorem dX6_init_11 : decode cX6_init 11 = .ok (.putfield 15, 3) := g_dec dt7003_X6_init_ok (k := 7) rfl
theorem dX6_init_14 : decode cX6_init 14 = .ok (.aload_n 0, 1) := g_dec dt7003_X6_init_ok (k := 8) rfl
theorem dX6_init_15 : decode cX6_init 15 = .ok (.iload_n 1, 1) := g_dec dt7003_X6_init_ok (k := 9) rfl
theorem dX6_init_16 : decode cX6_init 16 = .ok (.putfield 18, 3) := g_dec dt7003_X6_init_ok (k := 10) rfl
theorem dX6_init_19 : decode cX6_init 19 = .ok (.return_, 1) := g_dec dt7003_X6_init_ok (k := 11) rfl
def dt7004_X3_init : List (Nat × Instr × Nat) := [(0, (.aload_n 0, 1)), (1, (.invokespecial 3, 3)), (4, (.aload_n 0, 1)), (5, (.new 9, 3)), (8, (.dup, 1)), (9, (.bipush 24, 2)), (11, (.invokespecial 11, 3)), (14, (.putfield 14, 3)), (17, (.aload_n 0, 1)), (18, (.iload_n 1, 1)), (19, (.putfield 20, 3)), (22, (.return_, 1))]
theorem dt7004_X3_init_ok : ∀ q ∈ dt7004_X3_init, decode cX3_init q.1 = .ok q.2 := by decide +kernel
theorem dX3_init_0 : decode cX3_init 0 = .ok (.aload_n 0, 1) := g_dec dt7004_X3_init_ok (k := 0) rfl
theorem dX3_init_1 : decode cX3_init 1 = .ok (.invokespecial 3, 3) := g_dec dt7004_X3_init_ok (k := 1) rfl
theorem dX3_init_4 : decode cX3_init 4 = .ok (.aload_n 0, 1) := g_dec dt7004_X3_init_ok (k := 2) rfl
theorem dX3_init_5 : decode cX3_init 5 = .ok (.new 9, 3) := g_dec dt7004_X3_init_ok (k := 3) rfl
theorem dX3_init_8 : decode cX3_init 8 = .ok (.dup, 1) := g_dec dt7004_X3_init_ok (k := 4) rfl
theorem dX3_init_9 : decode cX3_init 9 = .ok (.bipush 24, 2) := g_dec dt7004_X3_init_ok (k := 5) rfl
theorem dX3_init_11 : decode cX3_init 11 = .ok (.invokespecial 11, 3) := g_dec dt7004_X3_init_ok (k := 6) rfl
theorem dX3_init_14 : decode cX3_init 14 = .ok (.putfield 14, 3) := g_dec dt7004_X3_init_ok (k := 7) rfl
theorem dX3_init_17 : decode cX3_init 17 = .ok (.aload_n 0, 1) := g_dec dt7004_X3_init_ok (k := 8) rfl
theorem dX3_init_18 : decode cX3_init 18 = .ok (.iload_n 1, 1) := g_dec dt7004_X3_init_ok (k := 9) rfl
theorem dX3_init_19 : decode cX3_init 19 = .ok (.putfield 20, 3) := g_dec dt7004_X3_init_ok (k := 10) rfl
theorem dX3_init_22 : decode cX3_init 22 = .ok (.return_, 1) := g_dec dt7004_X3_init_ok (k := 11) rfl
def dt7005_X9_init : List (Nat × Instr × Nat) := [(0, (.aload_n 0, 1)), (1, (.invokespecial 3, 3)), (4, (.aload_n 0, 1)), (5, (.sipush 256, 3)), (8, (.newarray .long, 2)), (10, (.putfield 11, 3)), (13, (.aload_n 0, 1)), (14, (.sipush 256, 3)), (17, (.newarray .int, 2)), (19, (.putfield 15, 3)), (22, (.return_, 1))]
theorem dt7005_X9_init_ok : ∀ q ∈ dt7005_X9_init, decode cX9_init q.1 = .ok q.2 := by decide +kernel
theorem dX9_init_0 : decode cX9_init 0 = .ok (.aload_n 0, 1) := g_dec dt7005_X9_init_ok (k := 0) rfl
theorem dX9_init_1 : decode cX9_init 1 = .ok (.invokespecial 3, 3) := g_dec dt7005_X9_init_ok (k := 1) rfl
theorem dX9_init_4 : decode cX9_init 4 = .ok (.aload_n 0, 1) := g_dec dt7005_X9_init_ok (k := 2) rfl
theorem dX9_init_5 : decode cX9_init 5 = .ok (.sipush 256, 3) := g_dec dt7005_X9_init_ok (k := 3) rfl
theorem dX9_init_8 : decode cX9_init 8 = .ok (.newarray .long, 2) := g_dec dt7005_X9_init_ok (k := 4) rfl
theorem dX9_init_10 : decode cX9_init 10 = .ok (.putfield 11, 3) := g_dec dt7005_X9_init_ok (k := 5) rfl
theorem dX9_init_13 : decode cX9_init 13 = .ok (.aload_n 0, 1) := g_dec dt7005_X9_init_ok (k := 6) rfl
theorem dX9_init_14 : decode cX9_init 14 = .ok (.sipush 256, 3) := g_dec dt7005_X9_init_ok (k := 7) rfl
theorem dX9_init_17 : decode cX9_init 17 = .ok (.newarray .int, 2) := g_dec dt7005_X9_init_ok (k := 8) rfl
theorem dX9_init_19 : decode cX9_init 19 = .ok (.putfield 15, 3) := g_dec dt7005_X9_init_ok (k := 9) rfl
theorem dX9_init_22 : decode cX9_init 22 = .ok (.return_, 1) := g_dec dt7005_X9_init_ok (k := 10) rfl
def dt7006_X4_init : List (Nat × Instr × Nat) := [(0, (.aload_n 0, 1)), (1, (.invokespecial 3, 3)), (4, (.aload_n 0, 1)), (5, (.iconst 1, 1)), (6, (.putfield 9, 3)), (9, (.aload_n 0, 1)), (10, (.iconst 1, 1)), (11, (.putfield 15, 3)), (14, (.aload_n 0, 1)), (15, (.new 18, 3)), (18, (.dup, 1)), (19, (.bipush 60, 2)), (21, (.invokespecial 20, 3)), (24, (.putfield 23, 3)), (27, (.aload_n 0, 1)), (28, (.new 18, 3)), (31, (.dup, 1)), (32, (.bipush 32, 2)), (34, (.invokespecial 20, 3)), (37, (.putfield 27, 3)), (40, (.aload_n 0, 1)), (41, (.new 18, 3)), (44, (.dup, 1)), (45, (.iconst 4, 1)), (46, (.invokespecial 20, 3)), (49, (.putfield 30, 3)), (52, (.aload_n 0, 1)), (53, (.new 18, 3)), (56, (.dup, 1)), (57, (.iconst 4, 1)), (58, (.invokespecial 20, 3)), (61, (.putfield 33, 3)), (64, (.return_, 1))]
theorem dt7006_X4_init_ok : ∀ q ∈ dt7006_X4_init, decode cX4_init q.1 = .ok q.2 := by decide +kernel
theorem dX4_init_0 : decode cX4_init 0 = .ok (.aload_n 0, 1) := g_dec dt7006_X4_init_ok (k := 0) rfl
theorem dX4_init_1 : decode cX4_init 1 = .ok (.invokespecial 3, 3) := g_dec dt7006_X4_init_ok (k := 1) rfl
theorem dX4_init_4 : decode cX4_init 4 = .ok (.aload_n 0, 1) := g_dec dt7006_X4_init_ok (k := 2) rfl
theorem dX4_init_5 : decode cX4_init 5 = .ok (.iconst 1, 1) := g_dec dt7006_X4_init_ok (k := 3) rfl
theorem dX4_init_6 : decode cX4_init 6 = .ok (.putfield 9, 3) := g_dec dt7006_X4_init_ok (k := 4) rfl
theorem dX4_init_9 : decode cX4_init 9 = .ok (.aload_n 0, 1) := g_dec dt7006_X4_init_ok (k := 5) rfl
theorem dX4_init_10 : decode cX4_init 10 = .ok (.iconst 1, 1) := g_dec dt7006_X4_init_ok (k := 6) rfl
theorem dX4_init_11 : decode cX4_init 11 = .ok (.putfield 15, 3) := g_dec dt7006_X4_init_ok (k := 7) rfl
theorem dX4_init_14 : decode cX4_init 14 = .ok (.aload_n 0, 1) := g_dec dt7006_X4_init_ok (k := 8) rfl
theorem dX4_init_15 : decode cX4_init 15 = .ok (.new 18, 3) := g_dec dt7006_X4_init_ok (k := 9) rfl
theorem dX4_init_18 : decode cX4_init 18 = .ok (.dup, 1) := g_dec dt7006_X4_init_ok (k := 10) rfl
theorem dX4_init_19 : decode cX4_init 19 = .ok (.bipush 60, 2) := g_dec dt7006_X4_init_ok (k := 11) rfl
theorem dX4_init_21 : decode cX4_init 21 = .ok (.invokespecial 20, 3) := g_dec dt7006_X4_init_ok (k := 12) rfl
theorem dX4_init_24 : decode cX4_init 24 = .ok (.putfield 23, 3) := g_dec dt7006_X4_init_ok (k := 13) rfl
theorem dX4_init_27 : decode cX4_init 27 = .ok (.aload_n 0, 1) := g_dec dt7006_X4_init_ok (k := 14) rfl
theorem dX4_init_28 : decode cX4_init 28 = .ok (.new 18, 3) := g_dec dt7006_X4_init_ok (k := 15) rfl
theorem dX4_init_31 : decode cX4_init 31 = .ok (.dup, 1) := g_dec dt7006_X4_init_ok (k := 16) rfl
theorem dX4_init_32 : decode cX4_init 32 = .ok (.bipush 32, 2) := g_dec dt7006_X4_init_ok (k := 17) rfl
theorem dX4_init_34 : decode cX4_init 34 = .ok (.invokespecial 20, 3) := g_dec dt7006_X4_init_ok (k := 18) rfl
theorem dX4_init_37 : decode cX4_init 37 = .ok (.putfield 27, 3) := g_dec dt7006_X4_init_ok (k := 19) rfl
theorem dX4_init_40 : decode cX4_init 40 = .ok (.aload_n 0, 1) := g_dec dt7006_X4_init_ok (k := 20) rfl
theorem dX4_init_41 : decode cX4_init 41 = .ok (.new 18, 3) := g_dec dt7006_X4_init_ok (k := 21) rfl
theorem dX4_init_44 : decode cX4_init 44 = .ok (.dup, 1) := g_dec dt7006_X4_init_ok (k := 22) rfl
theorem dX4_init_45 : decode cX4_init 45 = .ok (.iconst 4, 1) := g_dec dt7006_X4_init_ok (k := 23) rfl
theorem dX4_init_46 : decode cX4_init 46 = .ok (.invokespecial 20, 3) := g_dec dt7006_X4_init_ok (k := 24) rfl
theorem dX4_init_49 : decode cX4_init 49 = .ok (.putfield 30, 3) := g_dec dt7006_X4_init_ok (k := 25) rfl
theorem dX4_init_52 : decode cX4_init 52 = .ok (.aload_n 0, 1) := g_dec dt7006_X4_init_ok (k := 26) rfl
theorem dX4_init_53 : decode cX4_init 53 = .ok (.new 18, 3) := g_dec dt7006_X4_init_ok (k := 27) rfl
theorem dX4_init_56 : decode cX4_init 56 = .ok (.dup, 1) := g_dec dt7006_X4_init_ok (k := 28) rfl
theorem dX4_init_57 : decode cX4_init 57 = .ok (.iconst 4, 1) := g_dec dt7006_X4_init_ok (k := 29) rfl
theorem dX4_init_58 : decode cX4_init 58 = .ok (.invokespecial 20, 3) := g_dec dt7006_X4_init_ok (k := 30) rfl
theorem dX4_init_61 : decode cX4_init 61 = .ok (.putfield 33, 3) := g_dec dt7006_X4_init_ok (k := 31) rfl
theorem dX4_init_64 : decode cX4_init 64 = .ok (.return_, 1) := g_dec dt7006_X4_init_ok (k := 32) rfl
def dt7007_X0_init : List (Nat × Instr × Nat) := [(0, (.aload_n 0, 1)), (1, (.invokespecial 3, 3)), (4, (.aload_n 0, 1)), (5, (.new 9, 3)), (8, (.dup, 1)), (9, (.bipush 9, 2)), (11, (.invokespecial 11, 3)), (14, (.putfield 14, 3)), (17, (.aload_n 0, 1)), (18, (.new 9, 3)), (21, (.dup, 1)), (22, (.bipush 9, 2)), (24, (.invokespecial 11, 3)), (27, (.putfield 20, 3)), (30, (.aload_n 0, 1)), (31, (.new 9, 3)), (34, (.dup, 1)), (35, (.bipush 9, 2)), (37, (.invokespecial 11, 3)), (40, (.putfield 23, 3)), (43, (.return_, 1))]
theorem dt7007_X0_init_ok : ∀ q ∈ dt7007_X0_init, decode cX0_init q.1 = .ok q.2 := by decide +kernel
theorem dX0_init_0 : decode cX0_init 0 = .ok (.aload_n 0, 1) := g_dec dt7007_X0_init_ok (k := 0) rfl
theorem dX0_init_1 : decode cX0_init 1 = .ok (.invokespecial 3, 3) := g_dec dt7007_X0_init_ok (k := 1) rfl
theorem dX0_init_4 : decode cX0_init 4 = .ok (.aload_n 0, 1) := g_dec dt7007_X0_init_ok (k := 2) rfl
theorem dX0_init_5 : decode cX0_init 5 = .ok (.new 9, 3) := g_dec dt7007_X0_init_ok (k := 3) rfl
theorem dX0_init_8 : decode cX0_init 8 = .ok (.dup, 1) := g_dec dt7007_X0_init_ok (k := 4) rfl
theorem dX0_init_9 : decode cX0_init 9 = .ok (.bipush 9, 2) := g_dec dt7007_X0_init_ok (k := 5) rfl
theorem dX0_init_11 : decode cX0_init 11 = .ok (.invokespecial 11, 3) := g_dec dt7007_X0_init_ok (k := 6) rfl
theorem dX0_init_14 : decode cX0_init 14 = .ok (.putfield 14, 3) := g_dec dt7007_X0_init_ok (k := 7) rfl
theorem dX0_init_17 : decode cX0_init 17 = .ok (.aload_n 0, 1) := g_dec dt7007_X0_init_ok (k := 8) rfl
theorem dX0_init_18 : decode cX0_init 18 = .ok (.new 9, 3) := g_dec dt7007_X0_init_ok (k := 9) rfl
theorem dX0_init_21 : decode cX0_init 21 = .ok (.dup, 1) := g_dec dt7007_X0_init_ok (k := 10) rfl
theorem dX0_init_22 : decode cX0_init 22 = .ok (.bipush 9, 2) := g_dec dt7007_X0_init_ok (k := 11) rfl
theorem dX0_init_24 : decode cX0_init 24 = .ok (.invokespecial 11, 3) := g_dec dt7007_X0_init_ok (k := 12) rfl
theorem dX0_init_27 : decode cX0_init 27 = .ok (.putfield 20, 3) := g_dec dt7007_X0_init_ok (k := 13) rfl
theorem dX0_init_30 : decode cX0_init 30 = .ok (.aload_n 0, 1) := g_dec dt7007_X0_init_ok (k := 14) rfl
theorem dX0_init_31 : decode cX0_init 31 = .ok (.new 9, 3) := g_dec dt7007_X0_init_ok (k := 15) rfl
theorem dX0_init_34 : decode cX0_init 34 = .ok (.dup, 1) := g_dec dt7007_X0_init_ok (k := 16) rfl
theorem dX0_init_35 : decode cX0_init 35 = .ok (.bipush 9, 2) := g_dec dt7007_X0_init_ok (k := 17) rfl
theorem dX0_init_37 : decode cX0_init 37 = .ok (.invokespecial 11, 3) := g_dec dt7007_X0_init_ok (k := 18) rfl
theorem dX0_init_40 : decode cX0_init 40 = .ok (.putfield 23, 3) := g_dec dt7007_X0_init_ok (k := 19) rfl
theorem dX0_init_43 : decode cX0_init 43 = .ok (.return_, 1) := g_dec dt7007_X0_init_ok (k := 20) rfl
def dt7008_X10_init : List (Nat × Instr × Nat) := [(0, (.aload_n 0, 1)), (1, (.invokespecial 3, 3)), (4, (.aload_n 0, 1)), (5, (.new 9, 3)), (8, (.dup, 1)), (9, (.bipush 50, 2)), (11, (.invokespecial 13, 3)), (14, (.putfield 16, 3)), (17, (.aload_n 0, 1)), (18, (.new 9, 3)), (21, (.dup, 1)), (22, (.bipush 50, 2)), (24, (.invokespecial 13, 3)), (27, (.putfield 20, 3)), (30, (.aload_n 0, 1)), (31, (.new 9, 3)), (34, (.dup, 1)), (35, (.bipush 50, 2)), (37, (.invokespecial 13, 3)), (40, (.putfield 23, 3)), (43, (.aload_n 0, 1)), (44, (.new 9, 3)), (47, (.dup, 1)), (48, (.bipush 50, 2)), (50, (.invokespecial 13, 3)), (53, (.putfield 26, 3)), (56, (.return_, 1))]
theorem dt7008_X10_init_ok : ∀ q ∈ dt7008_X10_init, decode cX10_init q.1 = .ok q.2 := by decide +kernel
theorem dX10_init_0 : decode cX10_init 0 = .ok (.aload_n 0, 1) := g_dec dt7008_X10_init_ok (k := 0) rfl
theorem dX10_init_1 : decode cX10_init 1 = .ok (.invokespecial 3, 3) := g_dec dt7008_X10_init_ok (k := 1) rfl
theorem dX10_init_4 : decode cX10_init 4 = .ok (.aload_n 0, 1) := g_dec dt7008_X10_init_ok (k := 2) rfl
theorem dX10_init_5 : decode cX10_init 5 = .ok (.new 9, 3) := g_dec dt7008_X10_init_ok (k := 3) rfl
theorem dX10_init_8 : decode cX10_init 8 = .ok (.dup, 1) := g_dec dt7008_X10_init_ok (k := 4) rfl
theorem dX10_init_9 : decode cX10_init 9 = .ok (.bipush 50, 2) := g_dec dt7008_X10_init_ok (k := 5) rfl
theorem dX10_init_11 : decode cX10_init 11 = .ok (.invokespecial 13, 3) := g_dec dt7008_X10_init_ok (k := 6) rfl
theorem dX10_init_14 : decode cX10_init 14 = .ok (.putfield 16, 3) := g_dec dt7008_X10_init_ok (k := 7) rfl
theorem dX10_init_17 : decode cX10_init 17 = .ok (.aload_n 0, 1) := g_dec dt7008_X10_init_ok (k := 8) rfl
theorem dX10_init_18 : decode cX10_init 18 = .ok (.new 9, 3) := g_dec dt7008_X10_init_ok (k := 9) rfl
theorem dX10_init_21 : decode cX10_init 21 = .ok (.dup, 1) := g_dec dt7008_X10_init_ok (k := 10) rfl
theorem dX10_init_22 : decode cX10_init 22 = .ok (.bipush 50, 2) := g_dec dt7008_X10_init_ok (k := 11) rfl
theorem dX10_init_24 : decode cX10_init 24 = .ok (.invokespecial 13, 3) := g_dec dt7008_X10_init_ok (k := 12) rfl
theorem dX10_init_27 : decode cX10_init 27 = .ok (.putfield 20, 3) := g_dec dt7008_X10_init_ok (k := 13) rfl
theorem dX10_init_30 : decode cX10_init 30 = .ok (.aload_n 0, 1) := g_dec dt7008_X10_init_ok (k := 14) rfl
theorem dX10_init_31 : decode cX10_init 31 = .ok (.new 9, 3) := g_dec dt7008_X10_init_ok (k := 15) rfl
theorem dX10_init_34 : decode cX10_init 34 = .ok (.dup, 1) := g_dec dt7008_X10_init_ok (k := 16) rfl
theorem dX10_init_35 : decode cX10_init 35 = .ok (.bipush 50, 2) := g_dec dt7008_X10_init_ok (k := 17) rfl
theorem dX10_init_37 : decode cX10_init 37 = .ok (.invokespecial 13, 3) := g_dec dt7008_X10_init_ok (k := 18) rfl
theorem dX10_init_40 : decode cX10_init 40 = .ok (.putfield 23, 3) := g_dec dt7008_X10_init_ok (k := 19) rfl
theorem dX10_init_43 : decode cX10_init 43 = .ok (.aload_n 0, 1) := g_dec dt7008_X10_init_ok (k := 20) rfl
theorem dX10_init_44 : decode cX10_init 44 = .ok (.new 9, 3) := g_dec dt7008_X10_init_ok (k := 21) rfl
theorem dX10_init_47 : decode cX10_init 47 = .ok (.dup, 1) := g_dec dt7008_X10_init_ok (k := 22) rfl
theorem dX10_init_48 : decode cX10_init 48 = .ok (.bipush 50, 2) := g_dec dt7008_X10_init_ok (k := 23) rfl
theorem dX10_init_50 : decode cX10_init 50 = .ok (.invokespecial 13, 3) := g_dec dt7008_X10_init_ok (k := 24) rfl
theorem dX10_init_53 : decode cX10_init 53 = .ok (.putfield 26, 3) := g_dec dt7008_X10_init_ok (k := 25) rfl
theorem dX10_init_56 : decode cX10_init 56 = .ok (.return_, 1) := g_dec dt7008_X10_init_ok (k := 26) rfl
def dt7009_X5_init : List (Nat × Instr × Nat) := [(0, (.aload_n 0, 1)), (1, (.invokespecial 3, 3)), (4, (.aload_n 0, 1)), (5, (.new 9, 3)), (8, (.dup, 1)), (9, (.sipush 200, 3)), (12, (.invokespecial 11, 3)), (15, (.putfield 14, 3)), (18, (.aload_n 0, 1)), (19, (.new 9, 3)), (22, (.dup, 1)), (23, (.sipush 200, 3)), (26, (.invokespecial 11, 3)), (29, (.putfield 20, 3)), (32, (.aload_n 0, 1)), (33, (.new 9, 3)), (36, (.dup, 1)), (37, (.bipush 18, 2)), (39, (.invokespecial 11, 3)), (42, (.putfield 23, 3)), (45, (.aload_n 0, 1)), (46, (.new 9, 3)), (49, (.dup, 1)), (50, (.iconst 3, 1)), (51, (.invokespecial 11, 3)), (54, (.putfield 26, 3)), (57, (.return_, 1))]
theorem dt7009_X5_init_ok : ∀ q ∈ dt7009_X5_init, decode cX5_init q.1 = .ok q.2 := by decide +kernel
theorem dX5_init_0 : decode cX5_init 0 = .ok (.aload_n 0, 1) := g_dec dt7009_X5_init_ok (k := 0) rfl
theorem dX5_init_1 : decode cX5_init 1 = .ok (.invokespecial 3, 3) := g_dec dt7009_X5_init_ok (k := 1) rfl
theorem dX5_init_4 : decode cX5_init 4 = .ok (.aload_n 0, 1) := g_dec dt7009_X5_init_ok (k := 2) rfl
theorem dX5_init_5 : decode cX5_init 5 = .ok (.new 9, 3) := g_dec dt7009_X5_init_ok (k := 3) rfl
theorem dX5_init_8 : decode cX5_init 8 = .ok (.dup, 1) := g_dec dt7009_X5_init_ok (k := 4) rfl
theorem dX5_init_9 : decode cX5_init 9 = .ok (.sipush 200, 3) := g_dec dt7009_X5_init_ok (k := 5) rfl
theorem dX5_init_12 : decode cX5_init 12 = .ok (.invokespecial 11, 3) := g_dec dt7009_X5_init_ok (k := 6) rfl
theorem dX5_init_15 : decode cX5_init 15 = .ok (.putfield 14, 3) := g_dec dt7009_X5_init_ok (k := 7) rfl
theorem dX5_init_18 : decode cX5_init 18 = .ok (.aload_n 0, 1) := g_dec dt7009_X5_init_ok (k := 8) rfl
theorem dX5_init_19 : decode cX5_init 19 = .ok (.new 9, 3) := g_dec dt7009_X5_init_ok (k := 9) rfl
theorem dX5_init_22 : decode cX5_init 22 = .ok (.dup, 1) := g_dec dt7009_X5_init_ok (k := 10) rfl
theorem dX5_init_23 : decode cX5_init 23 = .ok (.sipush 200, 3) := g_dec dt7009_X5_init_ok (k := 11) rfl
theorem dX5_init_26 : decode cX5_init 26 = .ok (.invokespecial 11, 3) := g_dec dt7009_X5_init_ok (k := 12) rfl
theorem dX5_init_29 : decode cX5_init 29 = .ok (.putfield 20, 3) := g_dec dt7009_X5_init_ok (k := 13) rfl
theorem dX5_init_32 : decode cX5_init 32 = .ok (.aload_n 0, 1) := g_dec dt7009_X5_init_ok (k := 14) rfl
theorem dX5_init_33 : decode cX5_init 33 = .ok (.new 9, 3) := g_dec dt7009_X5_init_ok (k := 15) rfl
theorem dX5_init_36 : decode cX5_init 36 = .ok (.dup, 1) := g_dec dt7009_X5_init_ok (k := 16) rfl
theorem dX5_init_37 : decode cX5_init 37 = .ok (.bipush 18, 2) := g_dec dt7009_X5_init_ok (k := 17) rfl
theorem dX5_init_39 : decode cX5_init 39 = .ok (.invokespecial 11, 3) := g_dec dt7009_X5_init_ok (k := 18) rfl
theorem dX5_init_42 : decode cX5_init 42 = .ok (.putfield 23, 3) := g_dec dt7009_X5_init_ok (k := 19) rfl
theorem dX5_init_45 : decode cX5_init 45 = .ok (.aload_n 0, 1) := g_dec dt7009_X5_init_ok (k := 20) rfl
theorem dX5_init_46 : decode cX5_init 46 = .ok (.new 9, 3) := g_dec dt7009_X5_init_ok (k := 21) rfl
theorem dX5_init_49 : decode cX5_init 49 = .ok (.dup, 1) := g_dec dt7009_X5_init_ok (k := 22) rfl
theorem dX5_init_50 : decode cX5_init 50 = .ok (.iconst 3, 1) := g_dec dt7009_X5_init_ok (k := 23) rfl
theorem dX5_init_51 : decode cX5_init 51 = .ok (.invokespecial 11, 3) := g_dec dt7009_X5_init_ok (k := 24) rfl
theorem dX5_init_54 : decode cX5_init 54 = .ok (.putfield 26, 3) := g_dec dt7009_X5_init_ok (k := 25) rfl
theorem dX5_init_57 : decode cX5_init 57 = .ok (.return_, 1) := g_dec dt7009_X5_init_ok (k := 26) rfl
def dt7010_X2_init : List (Nat × Instr × Nat) := [(39, (.iload_n 1, 1)), (40, (.aload_n 0, 1)), (41, (.getfield 11, 3)), (44, (.arraylength, 1)), (45, (.if_icmp .ge 23, 3)), (68, (.return_, 1)), (48, (.aload_n 0, 1)), (49, (.getfield 11, 3)), (52, (.iload_n 1, 1)), (53, (.new 9, 3)), (56, (.dup, 1)), (57, (.iload_n 1, 1)), (58, (.invokespecial 17, 3)), (61, (.aastore, 1)), (62, (.iinc 1 1, 3)), (65, (.goto (-26), 3)), (0, (.aload_n 0, 1)), (1, (.invokespecial 3, 3)), (4, (.aload_n 0, 1)), (5, (.bipush 60, 2)), (7, (.anewarray 9, 3)), (10, (.putfield 11, 3)), (13, (.aload_n 0, 1)), (14, (.new 9, 3)), (17, (.dup, 1)), (18, (.iconst (-1), 1)), (19, (.invokespecial 17, 3)), (22, (.putfield 20, 3)), (25, (.aload_n 0, 1)), (26, (.new 9, 3)), (29, (.dup, 1)), (30, (.iconst (-1), 1)), (31, (.invokespecial 17, 3)), (34, (.putfield 24, 3)), (37, (.iconst 0, 1)), (38, (.istore_n 1, 1))]
theorem dt7010_X2_init_ok : ∀ q ∈ dt7010_X2_init, decode cX2_init q.1 = .ok q.2 := by decide +kernel
theorem dX2_init_39 : decode cX2_init 39 = .ok (.iload_n 1, 1) := g_dec dt7010_X2_init_ok (k := 0) rfl
theorem dX2_init_40 : decode cX2_init 40 = .ok (.aload_n 0, 1) := g_dec dt7010_X2_init_ok (k := 1) rfl
theorem dX2_init_41 : decode cX2_init 41 = .ok (.getfield 11, 3) := g_dec dt7010_X2_init_ok (k := 2) rfl
theorem dX2_init_44 : decode cX2_init 44 = .ok (.arraylength, 1) := g_dec dt7010_X2_init_ok (k := 3) rfl
theorem dX2_init_45 : decode cX2_init 45 = .ok (.if_icmp .ge 23, 3) := g_dec dt7010_X2_init_ok (k := 4) rfl
theorem dX2_init_68 : decode cX2_init 68 = .ok (.return_, 1) := g_dec dt7010_X2_init_ok (k := 5) rfl
theorem dX2_init_48 : decode cX2_init 48 = .ok (.aload_n 0, 1) := g_dec dt7010_X2_init_ok (k := 6) rfl
theorem dX2_init_49 : decode cX2_init 49 = .ok (.getfield 11, 3) := g_dec dt7010_X2_init_ok (k := 7) rfl
theorem dX2_init_52 : decode cX2_init 52 = .ok (.iload_n 1, 1) := g_dec dt7010_X2_init_ok (k := 8) rfl
theorem dX2_init_53 : decode cX2_init 53 = .ok (.new 9, 3) := g_dec dt7010_X2_init_ok (k := 9) rfl
theorem dX2_init_56 : decode cX2_init 56 = .ok (.dup, 1) := g_dec dt7010_X2_init_ok (k := 10) rfl
theorem dX2_init_57 : decode cX2_init 57 = .ok (.iload_n 1, 1) := g_dec dt7010_X2_init_ok (k := 11) rfl
theorem dX2_init_58 : decode cX2_init 58 = .ok (.invokespecial 17, 3) := g_dec dt7010_X2_init_ok (k := 12) rfl
theorem dX2_init_61 : decode cX2_init 61 = .ok (.aastore, 1) := g_dec dt7010_X2_init_ok (k := 13) rfl
theorem dX2_init_62 : decode cX2_init 62 = .ok (.iinc 1 1, 3) := g_dec dt7010_X2_init_ok (k := 14) rfl
theorem dX2_init_65 : decode cX2_init 65 = .ok (.goto (-26), 3) := g_dec dt7010_X2_init_ok (k := 15) rfl
theorem dX2_init_0 : decode cX2_init 0 = .ok (.aload_n 0, 1) := g_dec dt7010_X2_init_ok (k := 16) rfl
theorem dX2_init_1 : decode cX2_init 1 = .ok (.invokespecial 3, 3) := g_dec dt7010_X2_init_ok (k := 17) rfl
theorem dX2_init_4 : decode cX2_init 4 = .ok (.aload_n 0, 1) := g_dec dt7010_X2_init_ok (k := 18) rfl
theorem dX2_init_5 : decode cX2_init 5 = .ok (.bipush 60, 2) := g_dec dt7010_X2_init_ok (k := 19) rfl
theorem dX2_init_7 : decode cX2_init 7 = .ok (.anewarray 9, 3) := g_dec dt7010_X2_init_ok (k := 20) rfl
theorem dX2_init_10 : decode cX2_init 10 = .ok (.putfield 11, 3) := g_dec dt7010_X2_init_ok (k := 21) rfl
theorem dX2_init_13 : decode cX2_init 13 = .ok (.aload_n 0, 1) := g_dec dt7010_X2_init_ok (k := 22) rfl
theorem dX2_init_14 : decode cX2_init 14 = .ok (.new 9, 3) := g_dec dt7010_X2_init_ok (k := 23) rfl
theorem dX2_init_17 : decode cX2_init 17 = .ok (.dup, 1) := g_dec dt7010_X2_init_ok (k := 24) rfl
theorem dX2_init_18 : decode cX2_init 18 = .ok (.iconst (-1), 1) := g_dec dt7010_X2_init_ok (k := 25) rfl
theorem dX2_init_19 : decode cX2_init 19 = .ok (.invokespecial 17, 3) := g_dec dt7010_X2_init_ok (k := 26) rfl
theorem dX2_init_22 : decode cX2_init 22 = .ok (.putfield 20, 3) := g_dec dt7010_X2_init_ok (k := 27) rfl
theorem dX2_init_25 : decode cX2_init 25 = .ok (.aload_n 0, 1) := g_dec dt7010_X2_init_ok (k := 28) rfl
theorem dX2_init_26 : decode cX2_init 26 = .ok (.new 9, 3) := g_dec dt7010_X2_init_ok (k := 29) rfl
theorem dX2_init_29 : decode cX2_init 29 = .ok (.dup, 1) := g_dec dt7010_X2_init_ok (k := 30) rfl
theorem dX2_init_30 : decode cX2_init 30 = .ok (.iconst (-1), 1) := g_dec dt7010_X2_init_ok (k := 31) rfl
theorem dX2_init_31 : decode cX2_init 31 = .ok (.invokespecial 17, 3) := g_dec dt7010_X2_init_ok (k := 32) rfl
theorem dX2_init_34 : decode cX2_init 34 = .ok (.putfield 24, 3) := g_dec dt7010_X2_init_ok (k := 33) rfl
theorem dX2_init_37 : decode cX2_init 37 = .ok (.iconst 0, 1) := g_dec dt7010_X2_init_ok (k := 34) rfl
theorem dX2_init_38 : decode cX2_init 38 = .ok (.istore_n 1, 1) := g_dec dt7010_X2_init_ok (k := 35) rfl
def dt7011_X7_init : List (Nat × Instr × Nat) := [(66, (.iload_n 1, 1)), (67, (.aload_n 0, 1)), (68, (.getfield 11, 3)), (71, (.arraylength, 1)), (72, (.if_icmp .ge 23, 3)), (95, (.return_, 1)), (75, (.aload_n 0, 1)), (76, (.getfield 11, 3)), (79, (.iload_n 1, 1)), (80, (.new 9, 3)), (83, (.dup, 1)), (84, (.iload_n 1, 1)), (85, (.invokespecial 17, 3)), (88, (.aastore, 1)), (89, (.iinc 1 1, 3)), (92, (.goto (-26), 3)), (0, (.aload_n 0, 1)), (1, (.invokespecial 3, 3)), (4, (.aload_n 0, 1)), (5, (.bipush 10, 2)), (7, (.anewarray 9, 3)), (10, (.putfield 11, 3)), (13, (.aload_n 0, 1)), (14, (.new 9, 3)), (17, (.dup, 1)), (18, (.iconst (-1), 1)), (19, (.invokespecial 17, 3)), (22, (.putfield 20, 3)), (25, (.aload_n 0, 1)), (26, (.new 24, 3)), (29, (.dup, 1)), (30, (.bipush 12, 2)), (32, (.invokespecial 26, 3)), (35, (.putfield 27, 3)), (38, (.aload_n 0, 1)), (39, (.new 24, 3)), (42, (.dup, 1)), (43, (.bipush 12, 2)), (45, (.invokespecial 26, 3)), (48, (.putfield 31, 3)), (51, (.aload_n 0, 1)), (52, (.new 24, 3)), (55, (.dup, 1)), (56, (.bipush 12, 2)), (58, (.invokespecial 26, 3)), (61, (.putfield 34, 3)), (64, (.iconst 0, 1)), (65, (.istore_n 1, 1))]
theorem dt7011_X7_init_ok : ∀ q ∈ dt7011_X7_init, decode cX7_init q.1 = .ok q.2 := by decide +kernel
theorem dX7_init_66 : decode cX7_init 66 = .ok (.iload_n 1, 1) := g_dec dt7011_X7_init_ok (k := 0) rfl
theorem dX7_init_67 : decode cX7_init 67 = .ok (.aload_n 0, 1) := g_dec dt7011_X7_init_ok (k := 1) rfl
theorem dX7_init_68 : decode cX7_init 68 = .ok (.getfield 11, 3) := g_dec dt7011_X7_init_ok (k := 2) rfl
theorem dX7_init_71 : decode cX7_init 71 = .ok (.arraylength, 1) := g_dec dt7011_X7_init_ok (k := 3) rfl
theorem dX7_init_72 : decode cX7_init 72 = .ok (.if_icmp .ge 23, 3) := g_dec dt7011_X7_init_ok (k := 4) rfl
theorem dX7_init_95 : decode cX7_init 95 = .ok (.return_, 1) := g_dec dt7011_X7_init_ok (k := 5) rfl
theorem dX7_init_75 : decode cX7_init 75 = .ok (.aload_n 0, 1) := g_dec dt7011_X7_init_ok (k := 6) rfl
theorem dX7_init_76 : decode cX7_init 76 = .ok (.getfield 11, 3) := g_dec dt7011_X7_init_ok (k := 7) rfl
theorem dX7_init_79 : decode cX7_init 79 = .ok (.iload_n 1, 1) := g_dec dt7011_X7_init_ok (k := 8) rfl
theorem dX7_init_80 : decode cX7_init 80 = .ok (.new 9, 3) := g_dec dt7011_X7_init_ok (k := 9) rfl
theorem dX7_init_83 : decode cX7_init 83 = .ok (.dup, 1) := g_dec dt7011_X7_init_ok (k := 10) rfl
theorem dX7_init_84 : decode cX7_init 84 = .ok (.iload_n 1, 1) := g_dec dt7011_X7_init_ok (k := 11) rfl
theorem dX7_init_85 : decode cX7_init 85 = .ok (.invokespecial 17, 3) := g_dec dt7011_X7_init_ok (k := 12) rfl
theorem dX7_init_88 : decode cX7_init 88 = .ok (.aastore, 1) := g_dec dt7011_X7_init_ok (k := 13) rfl
theorem dX7_init_89 : decode cX7_init 89 = .ok (.iinc 1 1, 3) := g_dec dt7011_X7_init_ok (k := 14) rfl
theorem dX7_init_92 : decode cX7_init 92 = .ok (.goto (-26), 3) := g_dec dt7011_X7_init_ok (k := 15) rfl
theorem dX7_init_0 : decode cX7_init 0 = .ok (.aload_n 0, 1) := g_dec dt7011_X7_init_ok (k := 16) rfl
theorem dX7_init_1 : decode cX7_init 1 = .ok (.invokespecial 3, 3) := g_dec dt7011_X7_init_ok (k := 17) rfl
theorem dX7_init_4 : decode cX7_init 4 = .ok (.aload_n 0, 1) := g_dec dt7011_X7_init_ok (k := 18) rfl
theorem dX7_init_5 : decode cX7_init 5 = .ok (.bipush 10, 2) := g_dec dt7011_X7_init_ok (k := 19) rfl
theorem dX7_init_7 : decode cX7_init 7 = .ok (.anewarray 9, 3) := g_dec dt7011_X7_init_ok (k := 20) rfl
theorem dX7_init_10 : decode cX7_init 10 = .ok (.putfield 11, 3) := g_dec dt7011_X7_init_ok (k := 21) rfl
theorem dX7_init_13 : decode cX7_init 13 = .ok (.aload_n 0, 1) := g_dec dt7011_X7_init_ok (k := 22) rfl
theorem dX7_init_14 : decode cX7_init 14 = .ok (.new 9, 3) := g_dec dt7011_X7_init_ok (k := 23) rfl
theorem dX7_init_17 : decode cX7_init 17 = .ok (.dup, 1) := g_dec dt7011_X7_init_ok (k := 24) rfl
theorem dX7_init_18 : decode cX7_init 18 = .ok (.iconst (-1), 1) := g_dec dt7011_X7_init_ok (k := 25) rfl
theorem dX7_init_19 : decode cX7_init 19 = .ok (.invokespecial 17, 3) := g_dec dt7011_X7_init_ok (k := 26) rfl
theorem dX7_init_22 : decode cX7_init 22 = .ok (.putfield 20, 3) := g_dec dt7011_X7_init_ok (k := 27) rfl
theorem dX7_init_25 : decode cX7_init 25 = .ok (.aload_n 0, 1) := g_dec dt7011_X7_init_ok (k := 28) rfl
theorem dX7_init_26 : decode cX7_init 26 = .ok (.new 24, 3) := g_dec dt7011_X7_init_ok (k := 29) rfl
theorem dX7_init_29 : decode cX7_init 29 = .ok (.dup, 1) := g_dec dt7011_X7_init_ok (k := 30) rfl
theorem dX7_init_30 : decode cX7_init 30 = .ok (.bipush 12, 2) := g_dec dt7011_X7_init_ok (k := 31) rfl
theorem dX7_init_32 : decode cX7_init 32 = .ok (.invokespecial 26, 3) := g_dec dt7011_X7_init_ok (k := 32) rfl
theorem dX7_init_35 : decode cX7_init 35 = .ok (.putfield 27, 3) := g_dec dt7011_X7_init_ok (k := 33) rfl
theorem dX7_init_38 : decode cX7_init 38 = .ok (.aload_n 0, 1) := g_dec dt7011_X7_init_ok (k := 34) rfl
theorem dX7_init_39 : decode cX7_init 39 = .ok (.new 24, 3) := g_dec dt7011_X7_init_ok (k := 35) rfl
theorem dX7_init_42 : decode cX7_init 42 = .ok (.dup, 1) := g_dec dt7011_X7_init_ok (k := 36) rfl
theorem dX7_init_43 : decode cX7_init 43 = .ok (.bipush 12, 2) := g_dec dt7011_X7_init_ok (k := 37) rfl
theorem dX7_init_45 : decode cX7_init 45 = .ok (.invokespecial 26, 3) := g_dec dt7011_X7_init_ok (k := 38) rfl
theorem dX7_init_48 : decode cX7_init 48 = .ok (.putfield 31, 3) := g_dec dt7011_X7_init_ok (k := 39) rfl
theorem dX7_init_51 : decode cX7_init 51 = .ok (.aload_n 0, 1) := g_dec dt7011_X7_init_ok (k := 40) rfl
theorem dX7_init_52 : decode cX7_init 52 = .ok (.new 24, 3) := g_dec dt7011_X7_init_ok (k := 41) rfl
theorem dX7_init_55 : decode cX7_init 55 = .ok (.dup, 1) := g_dec dt7011_X7_init_ok (k := 42) rfl
theorem dX7_init_56 : decode cX7_init 56 = .ok (.bipush 12, 2) := g_dec dt7011_X7_init_ok (k := 43) rfl
theorem dX7_init_58 : decode cX7_init 58 = .ok (.invokespecial 26, 3) := g_dec dt7011_X7_init_ok (k := 44) rfl
theorem dX7_init_61 : decode cX7_init 61 = .ok (.putfield 34, 3) := g_dec dt7011_X7_init_ok (k := 45) rfl
theorem dX7_init_64 : decode cX7_init 64 = .ok (.iconst 0, 1) := g_dec dt7011_X7_init_ok (k := 46) rfl
theorem dX7_init_65 : decode cX7_init 65 = .ok (.istore_n 1, 1) := g_dec dt7011_X7_init_ok (k := 47) rfl
def dt7012_X11_init : List (Nat × Instr × Nat) := [(92, (.iload_n 1, 1)), (93, (.aload_n 0, 1)), (94, (.getfield 60, 3)), (97, (.arraylength, 1)), (98, (.if_icmp .ge 31, 3)), (129, (.aload_n 0, 1)), (130, (.new 58, 3)), (133, (.dup, 1)), (134, (.iconst 0, 1)), (135, (.invokespecial 64, 3)), (138, (.putfield 67, 3)), (141, (.aload_n 0, 1)), (142, (.new 71, 3)), (145, (.dup, 1)), (146, (.bipush 61, 2)), (148, (.invokespecial 73, 3)), (151, (.putfield 76, 3)), (154, (.aload_n 0, 1)), (155, (.getfield 76, 3)), (158, (.lconst 0, 1)), (159, (.invokevirtual 80, 3)), (162, (.aload_n 0, 1)), (163, (.new 71, 3)), (166, (.dup, 1)), (167, (.bipush 12, 2)), (169, (.invokespecial 73, 3)), (172, (.putfield 84, 3)), (175, (.aload_n 0, 1)), (176, (.getfield 84, 3)), (179, (.bipush 12, 2)), (181, (.ldc2_w 87, 3)), (184, (.invokevirtual 89, 3)), (187, (.aload_n 0, 1)), (188, (.new 71, 3)), (191, (.dup, 1)), (192, (.iconst 3, 1)), (193, (.invokespecial 73, 3)), (196, (.putfield 93, 3)), (199, (.aload_n 0, 1)), (200, (.getfield 93, 3)), (203, (.iconst 3, 1)), (204, (.lconst 1, 1)), (205, (.invokevirtual 89, 3)), (208, (.aload_n 0, 1)), (209, (.new 71, 3)), (212, (.dup, 1)), (213, (.iconst 3, 1)), (214, (.invokespecial 73, 3)), (217, (.putfield 96, 3)), (220, (.aload_n 0, 1)), (221, (.getfield 96, 3)), (224, (.iconst 3, 1)), (225, (.lconst 0, 1)), (226, (.invokevirtual 89, 3)), (229, (.aload_n 0, 1)), (230, (.new 71, 3)), (233, (.dup, 1)), (234, (.bipush 8, 2)), (236, (.invokespecial 73, 3)), (239, (.putfield 99, 3))]
theorem dt7012_X11_init_ok : ∀ q ∈ dt7012_X11_init, decode cX11_init q.1 = .ok q.2 := by decide +kernel
theorem dX11_init_92 : decode cX11_init 92 = .ok (.iload_n 1, 1) := g_dec dt7012_X11_init_ok (k := 0) rfl
theorem dX11_init_93 : decode cX11_init 93 = .ok (.aload_n 0, 1) := g_dec dt7012_X11_init_ok (k := 1) rfl
theorem dX11_init_94 : decode cX11_init 94 = .ok (.getfield 60, 3) := g_dec dt7012_X11_init_ok (k := 2) rfl
theorem dX11_init_97 : decode cX11_init 97 = .ok (.arraylength, 1) := g_dec dt7012_X11_init_ok (k := 3) rfl
theorem dX11_init_98 : decode cX11_init 98 = .ok (.if_icmp .ge 31, 3) := g_dec dt7012_X11_init_ok (k := 4) rfl
theorem dX11_init_129 : decode cX11_init 129 = .ok (.aload_n 0, 1) := g_dec dt7012_X11_init_ok (k := 5) rfl
theorem dX11_init_130 : decode cX11_init 130 = .ok (.new 58, 3) := g_dec dt7012_X11_init_ok (k := 6) rfl
theorem dX11_init_133 : decode cX11_init 133 = .ok (.dup, 1) := g_dec dt7012_X11_init_ok (k := 7) rfl
theorem dX11_init_134 : decode cX11_init 134 = .ok (.iconst 0, 1) := g_dec dt7012_X11_init_ok (k := 8) rfl
theorem dX11_init_135 : decode cX11_init 135 = .ok (.invokespecial 64, 3) := g_dec dt7012_X11_init_ok (k := 9) rfl
theorem dX11_init_138 : decode cX11_init 138 = .ok (.putfield 67, 3) := g_dec dt7012_X11_init_ok (k := 10) rfl
theorem dX11_init_141 : decode cX11_init 141 = .ok (.aload_n 0, 1) := g_dec dt7012_X11_init_ok (k := 11) rfl
theorem dX11_init_142 : decode cX11_init 142 = .ok (.new 71, 3) := g_dec dt7012_X11_init_ok (k := 12) rfl
theorem dX11_init_145 : decode cX11_init 145 = .ok (.dup, 1) := g_dec dt7012_X11_init_ok (k := 13) rfl
theorem dX11_init_146 : decode cX11_init 146 = .ok (.bipush 61, 2) := g_dec dt7012_X11_init_ok (k := 14) rfl
theorem dX11_init_148 : decode cX11_init 148 = .ok (.invokespecial 73, 3) := g_dec dt7012_X11_init_ok (k := 15) rfl
theorem dX11_init_151 : decode cX11_init 151 = .ok (.putfield 76, 3) := g_dec dt7012_X11_init_ok (k := 16) rfl
theorem dX11_init_154 : decode cX11_init 154 = .ok (.aload_n 0, 1) := g_dec dt7012_X11_init_ok (k := 17) rfl
theorem dX11_init_155 : decode cX11_init 155 = .ok (.getfield 76, 3) := g_dec dt7012_X11_init_ok (k := 18) rfl
theorem dX11_init_158 : decode cX11_init 158 = .ok (.lconst 0, 1) := g_dec dt7012_X11_init_ok (k := 19) rfl
theorem dX11_init_159 : decode cX11_init 159 = .ok (.invokevirtual 80, 3) := g_dec dt7012_X11_init_ok (k := 20) rfl
theorem dX11_init_162 : decode cX11_init 162 = .ok (.aload_n 0, 1) := g_dec dt7012_X11_init_ok (k := 21) rfl
theorem dX11_init_163 : decode cX11_init 163 = .ok (.new 71, 3) := g_dec dt7012_X11_init_ok (k := 22) rfl
theorem dX11_init_166 : decode cX11_init 166 = .ok (.dup, 1) := g_dec dt7012_X11_init_ok (k := 23) rfl
theorem dX11_init_167 : decode cX11_init 167 = .ok (.bipush 12, 2) := g_dec dt7012_X11_init_ok (k := 24) rfl
theorem dX11_init_169 : decode cX11_init 169 = .ok (.invokespecial 73, 3) := g_dec dt7012_X11_init_ok (k := 25) rfl
theorem dX11_init_172 : decode cX11_init 172 = .ok (.putfield 84, 3) := g_dec dt7012_X11_init_ok (k := 26) rfl
theorem dX11_init_175 : decode cX11_init 175 = .ok (.aload_n 0, 1) := g_dec dt7012_X11_init_ok (k := 27) rfl
theorem dX11_init_176 : decode cX11_init 176 = .ok (.getfield 84, 3) := g_dec dt7012_X11_init_ok (k := 28) rfl
theorem dX11_init_179 : decode cX11_init 179 = .ok (.bipush 12, 2) := g_dec dt7012_X11_init_ok (k := 29) rfl
theorem dX11_init_181 : decode cX11_init 181 = .ok (.ldc2_w 87, 3) := g_dec dt7012_X11_init_ok (k := 30) rfl
theorem dX11_init_184 : decode cX11_init 184 = .ok (.invokevirtual 89, 3) := g_dec dt7012_X11_init_ok (k := 31) rfl
theorem dX11_init_187 : decode cX11_init 187 = .ok (.aload_n 0, 1) := g_dec dt7012_X11_init_ok (k := 32) rfl
theorem dX11_init_188 : decode cX11_init 188 = .ok (.new 71, 3) := g_dec dt7012_X11_init_ok (k := 33) rfl
theorem dX11_init_191 : decode cX11_init 191 = .ok (.dup, 1) := g_dec dt7012_X11_init_ok (k := 34) rfl
theorem dX11_init_192 : decode cX11_init 192 = .ok (.iconst 3, 1) := g_dec dt7012_X11_init_ok (k := 35) rfl
theorem dX11_init_193 : decode cX11_init 193 = .ok (.invokespecial 73, 3) := g_dec dt7012_X11_init_ok (k := 36) rfl
theorem dX11_init_196 : decode cX11_init 196 = .ok (.putfield 93, 3) := g_dec dt7012_X11_init_ok (k := 37) rfl
theorem dX11_init_199 : decode cX11_init 199 = .ok (.aload_n 0, 1) := g_dec dt7012_X11_init_ok (k := 38) rfl
theorem dX11_init_200 : decode cX11_init 200 = .ok (.getfield 93, 3) := g_dec dt7012_X11_init_ok (k := 39) rfl
theorem dX11_init_203 : decode cX11_init 203 = .ok (.iconst 3, 1) := g_dec dt7012_X11_init_ok (k := 40) rfl
theorem dX11_init_204 : decode cX11_init 204 = .ok (.lconst 1, 1) := g_dec dt7012_X11_init_ok (k := 41) rfl
theorem dX11_init_205 : decode cX11_init 205 = .ok (.invokevirtual 89, 3) := g_dec dt7012_X11_init_ok (k := 42) rfl
theorem dX11_init_208 : decode cX11_init 208 = .ok (.aload_n 0, 1) := g_dec dt7012_X11_init_ok (k := 43) rfl
theorem dX11_init_209 : decode cX11_init 209 = .ok (.new 71, 3) := g_dec dt7012_X11_init_ok (k := 44) rfl
theorem dX11_init_212 : decode cX11_init 212 = .ok (.dup, 1) := g_dec dt7012_X11_init_ok (k := 45) rfl
theorem dX11_init_213 : decode cX11_init 213 = .ok (.iconst 3, 1) := g_dec dt7012_X11_init_ok (k := 46) rfl
theorem dX11_init_214 : decode cX11_init 214 = .ok (.invokespecial 73, 3) := g_dec dt7012_X11_init_ok (k := 47) rfl
theorem dX11_init_217 : decode cX11_init 217 = .ok (.putfield 96, 3) := g_dec dt7012_X11_init_ok (k := 48) rfl
theorem dX11_init_220 : decode cX11_init 220 = .ok (.aload_n 0, 1) := g_dec dt7012_X11_init_ok (k := 49) rfl
theorem dX11_init_221 : decode cX11_init 221 = .ok (.getfield 96, 3) := g_dec dt7012_X11_init_ok (k := 50) rfl
theorem dX11_init_224 : decode cX11_init 224 = .ok (.iconst 3, 1) := g_dec dt7012_X11_init_ok (k := 51) rfl
theorem dX11_init_225 : decode cX11_init 225 = .ok (.lconst 0, 1) := g_dec dt7012_X11_init_ok (k := 52) rfl
theorem dX11_init_226 : decode cX11_init 226 = .ok (.invokevirtual 89, 3) := g_dec dt7012_X11_init_ok (k := 53) rfl
theorem dX11_init_229 : decode cX11_init 229 = .ok (.aload_n 0, 1) := g_dec dt7012_X11_init_ok (k := 54) rfl
theorem dX11_init_230 : decode cX11_init 230 = .ok (.new 71, 3) := g_dec dt7012_X11_init_ok (k := 55) rfl
theorem dX11_init_233 : decode cX11_init 233 = .ok (.dup, 1) := g_dec dt7012_X11_init_ok (k := 56) rfl
theorem dX11_init_234 : decode cX11_init 234 = .ok (.bipush 8, 2) := g_dec dt7012_X11_init_ok (k := 57) rfl
theorem dX11_init_236 : decode cX11_init 236 = .ok (.invokespecial 73, 3) := g_dec dt7012_X11_init_ok (k := 58) rfl
theorem dX11_init_239 : decode cX11_init 239 = .ok (.putfield 99, 3) := g_dec dt7012_X11_init_ok (k := 59) rfl
def dt7013_X11_init : List (Nat × Instr × Nat) := [(242, (.aload_n 0, 1)), (243, (.getfield 99, 3)), (246, (.bipush 8, 2)), (248, (.lconst 0, 1)), (249, (.invokevirtual 89, 3)), (252, (.aload_n 0, 1)), (253, (.iconst (-1), 1)), (254, (.putfield 102, 3)), (257, (.return_, 1)), (101, (.aload_n 0, 1)), (102, (.getfield 60, 3)), (105, (.iload_n 1, 1)), (106, (.new 58, 3)), (109, (.dup, 1)), (110, (.iload_n 1, 1)), (111, (.ifCond .ne 7, 3)), (114, (.iconst 1, 1)), (115, (.goto 4, 3)), (118, (.iconst 0, 1)), (119, (.invokespecial 64, 3)), (122, (.aastore, 1)), (123, (.iinc 1 1, 3)), (126, (.goto (-34), 3)), (0, (.aload_n 0, 1)), (1, (.invokespecial 1, 3)), (4, (.aload_n 0, 1)), (5, (.new 7, 3)), (8, (.dup, 1)), (9, (.invokespecial 9, 3)), (12, (.putfield 10, 3)), (15, (.aload_n 0, 1)), (16, (.new 16, 3)), (19, (.dup, 1)), (20, (.invokespecial 18, 3)), (23, (.putfield 19, 3)), (26, (.aload_n 0, 1)), (27, (.new 23, 3)), (30, (.dup, 1)), (31, (.invokespecial 25, 3)), (34, (.putfield 26, 3)), (37, (.aload_n 0, 1)), (38, (.new 30, 3)), (41, (.dup, 1)), (42, (.invokespecial 32, 3)), (45, (.putfield 33, 3)), (48, (.aload_n 0, 1)), (49, (.new 37, 3)), (52, (.dup, 1)), (53, (.invokespecial 39, 3)), (56, (.putfield 40, 3)), (59, (.aload_n 0, 1)), (60, (.new 44, 3)), (63, (.dup, 1)), (64, (.invokespecial 46, 3)), (67, (.putfield 47, 3)), (70, (.aload_n 0, 1)), (71, (.new 51, 3)), (74, (.dup, 1)), (75, (.invokespecial 53, 3)), (78, (.putfield 54, 3))]
theorem dt7013_X11_init_ok : ∀ q ∈ dt7013_X11_init, decode cX11_init q.1 = .ok q.2 := by decide +kernel
theorem dX11_init_242 : decode cX11_init 242 = .ok (.aload_n 0, 1) := g_dec dt7013_X11_init_ok (k := 0) rfl
theorem dX11_init_243 : decode cX11_init 243 = .ok (.getfield 99, 3) := g_dec dt7013_X11_init_ok (k := 1) rfl
theorem dX11_init_246 : decode cX11_init 246 = .ok (.bipush 8, 2) := g_dec dt7013_X11_init_ok (k := 2) rfl
theorem dX11_init_248 : decode cX11_init 248 = .ok (.lconst 0, 1) := g_dec dt7013_X11_init_ok (k := 3) rfl
theorem dX11_init_249 : decode cX11_init 249 = .ok (.invokevirtual 89, 3) := g_dec dt7013_X11_init_ok (k := 4) rfl
theorem dX11_init_252 : decode cX11_init 252 = .ok (.aload_n 0, 1) := g_dec dt7013_X11_init_ok (k := 5) rfl
theorem dX11_init_253 : decode cX11_init 253 = .ok (.iconst (-1), 1) := g_dec dt7013_X11_init_ok (k := 6) rfl
theorem dX11_init_254 : decode cX11_init 254 = .ok (.putfield 102, 3) := g_dec dt7013_X11_init_ok (k := 7) rfl
theorem dX11_init_257 : decode cX11_init 257 = .ok (.return_, 1) := g_dec dt7013_X11_init_ok (k := 8) rfl
theorem dX11_init_101 : decode cX11_init 101 = .ok (.aload_n 0, 1) := g_dec dt7013_X11_init_ok (k := 9) rfl
theorem dX11_init_102 : decode cX11_init 102 = .ok (.getfield 60, 3) := g_dec dt7013_X11_init_ok (k := 10) rfl
theorem dX11_init_105 : decode cX11_init 105 = .ok (.iload_n 1, 1) := g_dec dt7013_X11_init_ok (k := 11) rfl
theorem dX11_init_106 : decode cX11_init 106 = .ok (.new 58, 3) := g_dec dt7013_X11_init_ok (k := 12) rfl
theorem dX11_init_109 : decode cX11_init 109 = .ok (.dup, 1) := g_dec dt7013_X11_init_ok (k := 13) rfl
theorem dX11_init_110 : decode cX11_init 110 = .ok (.iload_n 1, 1) := g_dec dt7013_X11_init_ok (k := 14) rfl
theorem dX11_init_111 : decode cX11_init 111 = .ok (.ifCond .ne 7, 3) := g_dec dt7013_X11_init_ok (k := 15) rfl
theorem dX11_init_114 : decode cX11_init 114 = .ok (.iconst 1, 1) := g_dec dt7013_X11_init_ok (k := 16) rfl
theorem dX11_init_115 : decode cX11_init 115 = .ok (.goto 4, 3) := g_dec dt7013_X11_init_ok (k := 17) rfl
theorem dX11_init_118 : decode cX11_init 118 = .ok (.iconst 0, 1) := g_dec dt7013_X11_init_ok (k := 18) rfl
theorem dX11_init_119 : decode cX11_init 119 = .ok (.invokespecial 64, 3) := g_dec dt7013_X11_init_ok (k := 19) rfl
theorem dX11_init_122 : decode cX11_init 122 = .ok (.aastore, 1) := g_dec dt7013_X11_init_ok (k := 20) rfl
theorem dX11_init_123 : decode cX11_init 123 = .ok (.iinc 1 1, 3) := g_dec dt7013_X11_init_ok (k := 21) rfl
theorem dX11_init_126 : decode cX11_init 126 = .ok (.goto (-34), 3) := g_dec dt7013_X11_init_ok (k := 22) rfl
theorem dX11_init_0 : decode cX11_init 0 = .ok (.aload_n 0, 1) := g_dec dt7013_X11_init_ok (k := 23) rfl
theorem dX11_init_1 : decode cX11_init 1 = .ok (.invokespecial 1, 3) := g_dec dt7013_X11_init_ok (k := 24) rfl
theorem dX11_init_4 : decode cX11_init 4 = .ok (.aload_n 0, 1) := g_dec dt7013_X11_init_ok (k := 25) rfl
theorem dX11_init_5 : decode cX11_init 5 = .ok (.new 7, 3) := g_dec dt7013_X11_init_ok (k := 26) rfl
theorem dX11_init_8 : decode cX11_init 8 = .ok (.dup, 1) := g_dec dt7013_X11_init_ok (k := 27) rfl
theorem dX11_init_9 : decode cX11_init 9 = .ok (.invokespecial 9, 3) := g_dec dt7013_X11_init_ok (k := 28) rfl
theorem dX11_init_12 : decode cX11_init 12 = .ok (.putfield 10, 3) := g_dec dt7013_X11_init_ok (k := 29) rfl
theorem dX11_init_15 : decode cX11_init 15 = .ok (.aload_n 0, 1) := g_dec dt7013_X11_init_ok (k := 30) rfl
theorem dX11_init_16 : decode cX11_init 16 = .ok (.new 16, 3) := g_dec dt7013_X11_init_ok (k := 31) rfl
theorem dX11_init_19 : decode cX11_init 19 = .ok (.dup, 1) := g_dec dt7013_X11_init_ok (k := 32) rfl
theorem dX11_init_20 : decode cX11_init 20 = .ok (.invokespecial 18, 3) := g_dec dt7013_X11_init_ok (k := 33) rfl
theorem dX11_init_23 : decode cX11_init 23 = .ok (.putfield 19, 3) := g_dec dt7013_X11_init_ok (k := 34) rfl
theorem dX11_init_26 : decode cX11_init 26 = .ok (.aload_n 0, 1) := g_dec dt7013_X11_init_ok (k := 35) rfl
theorem dX11_init_27 : decode cX11_init 27 = .ok (.new 23, 3) := g_dec dt7013_X11_init_ok (k := 36) rfl
theorem dX11_init_30 : decode cX11_init 30 = .ok (.dup, 1) := g_dec dt7013_X11_init_ok (k := 37) rfl
theorem dX11_init_31 : decode cX11_init 31 = .ok (.invokespecial 25, 3) := g_dec dt7013_X11_init_ok (k := 38) rfl
theorem dX11_init_34 : decode cX11_init 34 = .ok (.putfield 26, 3) := g_dec dt7013_X11_init_ok (k := 39) rfl
theorem dX11_init_37 : decode cX11_init 37 = .ok (.aload_n 0, 1) := g_dec dt7013_X11_init_ok (k := 40) rfl
theorem dX11_init_38 : decode cX11_init 38 = .ok (.new 30, 3) := g_dec dt7013_X11_init_ok (k := 41) rfl
theorem dX11_init_41 : decode cX11_init 41 = .ok (.dup, 1) := g_dec dt7013_X11_init_ok (k := 42) rfl
theorem dX11_init_42 : decode cX11_init 42 = .ok (.invokespecial 32, 3) := g_dec dt7013_X11_init_ok (k := 43) rfl
theorem dX11_init_45 : decode cX11_init 45 = .ok (.putfield 33, 3) := g_dec dt7013_X11_init_ok (k := 44) rfl
theorem dX11_init_48 : decode cX11_init 48 = .ok (.aload_n 0, 1) := g_dec dt7013_X11_init_ok (k := 45) rfl
theorem dX11_init_49 : decode cX11_init 49 = .ok (.new 37, 3) := g_dec dt7013_X11_init_ok (k := 46) rfl
theorem dX11_init_52 : decode cX11_init 52 = .ok (.dup, 1) := g_dec dt7013_X11_init_ok (k := 47) rfl
theorem dX11_init_53 : decode cX11_init 53 = .ok (.invokespecial 39, 3) := g_dec dt7013_X11_init_ok (k := 48) rfl
theorem dX11_init_56 : decode cX11_init 56 = .ok (.putfield 40, 3) := g_dec dt7013_X11_init_ok (k := 49) rfl
theorem dX11_init_59 : decode cX11_init 59 = .ok (.aload_n 0, 1) := g_dec dt7013_X11_init_ok (k := 50) rfl
theorem dX11_init_60 : decode cX11_init 60 = .ok (.new 44, 3) := g_dec dt7013_X11_init_ok (k := 51) rfl
theorem dX11_init_63 : decode cX11_init 63 = .ok (.dup, 1) := g_dec dt7013_X11_init_ok (k := 52) rfl
theorem dX11_init_64 : decode cX11_init 64 = .ok (.invokespecial 46, 3) := g_dec dt7013_X11_init_ok (k := 53) rfl
theorem dX11_init_67 : decode cX11_init 67 = .ok (.putfield 47, 3) := g_dec dt7013_X11_init_ok (k := 54) rfl
theorem dX11_init_70 : decode cX11_init 70 = .ok (.aload_n 0, 1) := g_dec dt7013_X11_init_ok (k := 55) rfl
theorem dX11_init_71 : decode cX11_init 71 = .ok (.new 51, 3) := g_dec dt7013_X11_init_ok (k := 56) rfl
theorem dX11_init_74 : decode cX11_init 74 = .ok (.dup, 1) := g_dec dt7013_X11_init_ok (k := 57) rfl
theorem dX11_init_75 : decode cX11_init 75 = .ok (.invokespecial 53, 3) := g_dec dt7013_X11_init_ok (k := 58) rfl
theorem dX11_init_78 : decode cX11_init 78 = .ok (.putfield 54, 3) := g_dec dt7013_X11_init_ok (k := 59) rfl
def dt7014_X11_init : List (Nat × Instr × Nat) := [(81, (.aload_n 0, 1)), (82, (.bipush 6, 2)), (84, (.anewarray 58, 3)), (87, (.putfield 60, 3)), (90, (.iconst 0, 1)), (91, (.istore_n 1, 1))]
theorem dt7014_X11_init_ok : ∀ q ∈ dt7014_X11_init, decode cX11_init q.1 = .ok q.2 := by decide +kernel
theorem dX11_init_81 : decode cX11_init 81 = .ok (.aload_n 0, 1) := g_dec dt7014_X11_init_ok (k := 0) rfl
theorem dX11_init_82 : decode cX11_init 82 = .ok (.bipush 6, 2) := g_dec dt7014_X11_init_ok (k := 1) rfl
theorem dX11_init_84 : decode cX11_init 84 = .ok (.anewarray 58, 3) := g_dec dt7014_X11_init_ok (k := 2) rfl
theorem dX11_init_87 : decode cX11_init 87 = .ok (.putfield 60, 3) := g_dec dt7014_X11_init_ok (k := 3) rfl
theorem dX11_init_90 : decode cX11_init 90 = .ok (.iconst 0, 1) := g_dec dt7014_X11_init_ok (k := 4) rfl
theorem dX11_init_91 : decode cX11_init 91 = .ok (.istore_n 1, 1) := g_dec dt7014_X11_init_ok (k := 5) rfl
set_option maxRecDepth 100000 in
set_option maxHeartbeats 400000 in
theorem kc_Row (l : Launch) (D : va_G) (y : Nat → ClassId) (aS : Nat → Nat) (sz : Nat) (h0 : Nat) (r : Nat) (x1 : Int32) (n : Nat) (hk8 : gcl r = 8) (hnn : gle 256 (r + 1) = n) (hx0 : ¬ x1 < 0) (hxn : x1.toNatClampNeg = n) (hn9 : n ≤ 200) : Met l yX8_init (Cond.code yX8_init cX8_init 2 none :: wsL_law) ({ frames := 1, cells := 1, slots := n, locals := 12 } : Room) (va_Pc [.ref h0, .int x1] (gI D y aS [(h0, .inr (8, [.null, .int 0]))] sz)) (va_Qv (fun (u : (Nat → Nat) × List Nat) => u.1 r = h0 ∧ gClL u.2 ∧ ∀ k, k ∈ u.2 ↔ (r ≤ k ∧ k < r + 2)) (fun u => gO D (va_A [(h0, .inr (8, [.null, .int 0]))] sz) (GW u.2 y u.1 gStart)) (va_A [(h0, .inr (8, [.null, .int 0]))] sz)) 1 n (va_A [(h0, .inr (8, [.null, .int 0]))] sz) := by
  refine g_of (by decide) (Nat.le_of_ble_eq_true rfl) ?_
  intro p e s m below meth c ls A hx hb hr hml hown hg hlocks hin hsz hK hP hD hS hA hAe hl
  rw [← hAe]
  replace hown : s.vm.findClass RX8 = some m.cls := hown
  replace hin : meth.name = "<init>" := hin
  replace hl : lv_has ls 2 [(0, .ref h0), (1, .int x1)] := hl
  refine lv_aload_n hx hb dX8_init_0 rfl (lv_at hl 0 rfl) ?_
  refine W.objInit hx hb hown (hg _ gw_97) (hg _ gw_11) (hg _ gw_12) rfl (by rw [hml]; exact hl.1) rfl dX8_init_1 (Nat.le_of_ble_eq_true rfl) (Nat.le_of_ble_eq_true rfl) ?_
  refine W.eq (g2 := F0 m 4 ls []) rfl ?_
  replace hP : va_P D vwCl ([(h0, .inr (8, [.null, .int 0]))] ++ GW [] y (fun _ => 0) gStart) s.heap := hP
  replace hD : va_D A ([(h0, .inr (8, [.null, .int 0]))] ++ GW [] y (fun _ => 0) gStart) := hD
  refine lv_aload_n hx hb dX8_init_4 rfl (lv_at hl 0 rfl) ?_
  refine lv_iload_n hx hb dX8_init_5 rfl (lv_at hl 1 rfl) ?_
  have hr1 : gcl (r + 1) = 21 := gcl_row hk8
  refine lv_if_ge (tgt := 13) hx hb dX8_init_6 (by decide) (fun _ => ?_) (fun c9 => absurd (Int32.not_lt.mp hx0) c9)
  refine lv_iload_n hx hb dX8_init_13 rfl (lv_at hl 1 rfl) ?_
  refine g_newa (atype := .long) (ty := .long) (N' := n) (a0 := (n, .inr (.inl (fun _ => 0)))) hx hb 1 rfl (fun _ h => by cases h) (hg _ gw_4) rfl hK hP hD hS hA (fun _ => rfl) hx0 hxn (by show n * 8 ≤ _; omega) (by first | omega | (dsimp only; omega)) (by first | omega | (dsimp only; omega)) dX8_init_14 ?_
  clear hP hD hS
  intro q1 H hP0 hD0 hS
  obtain ⟨hP, hD⟩ := g_permA (E := [(h0, .inr (8, [.null, .int 0]))]) (X := GW [] y (fun _ => 0) gStart) hP0 hD0
  clear hP0 hD0
  have hn3 : (r + 1) ∉ [] := fun h => by have := ((fun k => (⟨fun h => (nomatch h), fun h => absurd h (by omega)⟩ : k ∈ [] ↔ k < 0)) (r + 1)).mp h; omega
  have hx2 := G_abs (y := y) (ad := (fun _ => 0)) (σ := gStart) (addr := q1) (en := .inl (y 1, n, .inr (.inl (fun _ => 0)))) gClL_nil hn3 (by rw [gW_long hr1]; exact Prod.ext (by simp) (by show Sum.inl (_, gle gStart.2.2 (r + 1), _) = _; rw [show gle gStart.2.2 (r + 1) = n from hnn]; rfl))
  have hc4 : gClL ((r + 1) :: []) := gClL_cons gClL_nil (fun y ad ad' σ h h2 => by rw [gW_long hr1, gW_long hr1, h])
  have hM5 : ∀ k, k ∈ ((r + 1) :: []) ↔ (k = (r + 1) ∨ (k < 0)) := fun k => List.mem_cons.trans (by rw [(fun k => (⟨fun h => (nomatch h), fun h => absurd h (by omega)⟩ : k ∈ [] ↔ k < 0)) k])
  have hf6 : (fun k => if k = (r + 1) then q1 else (fun _ => 0) k) (r + 1) = q1 := by simp
  rw [hx2] at hP hD
  clear hx2
  refine gm_putF (D := D) (ci := 8) (v := .ref q1) (ty := .array .long) (C := RX8) (T := TX8) (N := 2) hx hb hg inlX8 tyX8 tyX8_ok nmX8 hown hK.1 hP hD hS 0 rfl rfl 0 (by decide) tX8_0 (hg _ gw_98) hin rfl (by decide +kernel) rfl rfl (Nat.le_of_ble_eq_true rfl) dX8_init_16 ?_
  clear hP hD hS
  refine fun H locs (hP : va_P D vwCl (([(h0, .inr (8, [.ref q1, .int 0]))] ++ GW ((r + 1) :: []) y (fun k => if k = (r + 1) then q1 else (fun _ => 0) k) gStart)) H) (hD : va_D A (([(h0, .inr (8, [.ref q1, .int 0]))] ++ GW ((r + 1) :: []) y (fun k => if k = (r + 1) then q1 else (fun _ => 0) k) gStart))) hS => ?_
  have hnK : r ∉ ((r + 1) :: []) := fun h => by have := (hM5 r).mp h; omega
  have hr0 : (fun k => if k = r then h0 else (fun k => if k = (r + 1) then q1 else (fun _ => 0) k) k) (r + 1) = q1 := (if_neg (by omega)).trans hf6
  have hen : gW1 y (fun k => if k = r then h0 else (fun k => if k = (r + 1) then q1 else (fun _ => 0) k) k) gStart r = (h0, .inr (8, [.ref q1, .int 0])) := by
    rw [gW_obj hk8 (by decide)]
    show ((fun k => if k = r then h0 else (fun k => if k = (r + 1) then q1 else (fun _ => 0) k) k) r, Sum.inr (8, [Value.ref ((fun k => if k = r then h0 else (fun k => if k = (r + 1) then q1 else (fun _ => 0) k) k) (r + 1)), Value.int ((gStart.1 r) 1)])) = _
    rw [show (fun k => if k = r then h0 else (fun k => if k = (r + 1) then q1 else (fun _ => 0) k) k) r = h0 from by simp, hr0]
    rw [g_start8 hk8]
  have hw := G_abs (y := y) (ad := (fun k => if k = (r + 1) then q1 else (fun _ => 0) k)) (σ := gStart) (addr := h0) (en := .inr (8, [.ref q1, .int 0])) hc4 hnK hen
  have hcN : gClL (r :: ((r + 1) :: [])) := gClL_cons hc4 (fun y ad ad' σ h h2 => by
    rw [gW_obj hk8 (by decide), gW_obj hk8 (by decide), h]
    show (_, Sum.inr (8, [Value.ref (ad (r + 1)), Value.int ((σ.1 r) 1)])) = (_, Sum.inr (8, [Value.ref (ad' (r + 1)), Value.int ((σ.1 r) 1)]))
    rw [h2 (r + 1) ((hM5 (r + 1)).mpr (by omega))])
  replace hP : va_P D vwCl (GW (r :: ((r + 1) :: [])) y (fun k => if k = r then h0 else (fun k => if k = (r + 1) then q1 else (fun _ => 0) k) k) gStart) H := by rw [← hw]; exact hP
  replace hD : va_D A (GW (r :: ((r + 1) :: [])) y (fun k => if k = r then h0 else (fun k => if k = (r + 1) then q1 else (fun _ => 0) k) k) gStart) := by rw [← hw]; exact hD
  exact g_vret hx hb hr hlocks ((fun k => if k = r then h0 else (fun k => if k = (r + 1) then q1 else (fun _ => 0) k) k), r :: ((r + 1) :: [])) hP hD hS ⟨by simp, hcN, fun k => List.mem_cons.trans (by rw [hM5 k]; omega)⟩ (by first | omega | (dsimp only; omega)) (by first | omega | (dsimp only; omega)) dX8_init_19
set_option maxRecDepth 100000 in
set_option maxHeartbeats 400000 in
theorem kc_Change (l : Launch) (D : va_G) (y : Nat → ClassId) (aS : Nat → Nat) (sz : Nat) (h0 : Nat) (k0 : Nat) (x1 : Int32) (hk0 : gcl k0 = 1) (hx1 : gStart.1 k0 0 = x1) : Met l yX1_init (Cond.code yX1_init cX1_init 2 none :: wsL_law) ({ frames := 1, cells := 0, slots := 0, locals := 12 } : Room) (va_Pc [.ref h0, .int x1] (gI D y aS [(h0, .inr (1, [.int 0, .int 0, .int 0, .int 0, .int 0, .int 0, .long 0, .long 0, .long 0, .int 0, .int 0, .int 0, .int 0, .int 0]))] sz)) (va_Qv (fun (u : (Nat → Nat) × List Nat) => u.1 k0 = h0 ∧ gClL u.2 ∧ ∀ k, k ∈ u.2 ↔ (k0 ≤ k ∧ k < k0 + 1)) (fun u => gO D (va_A [(h0, .inr (1, [.int 0, .int 0, .int 0, .int 0, .int 0, .int 0, .long 0, .long 0, .long 0, .int 0, .int 0, .int 0, .int 0, .int 0]))] sz) (GW u.2 y u.1 gStart)) (va_A [(h0, .inr (1, [.int 0, .int 0, .int 0, .int 0, .int 0, .int 0, .long 0, .long 0, .long 0, .int 0, .int 0, .int 0, .int 0, .int 0]))] sz)) 0 0 (va_A [(h0, .inr (1, [.int 0, .int 0, .int 0, .int 0, .int 0, .int 0, .long 0, .long 0, .long 0, .int 0, .int 0, .int 0, .int 0, .int 0]))] sz) := by
  refine g_of (by decide) (Nat.le_of_ble_eq_true rfl) ?_
  intro p e s m below meth c ls A hx hb hr hml hown hg hlocks hin hsz hK hP hD hS hA hAe hl
  rw [← hAe]
  replace hown : s.vm.findClass RX1 = some m.cls := hown
  replace hin : meth.name = "<init>" := hin
  replace hl : lv_has ls 2 [(0, .ref h0), (1, .int x1)] := hl
  refine lv_aload_n hx hb dX1_init_0 rfl (lv_at hl 0 rfl) ?_
  refine W.objInit hx hb hown (hg _ gw_69) (hg _ gw_11) (hg _ gw_12) rfl (by rw [hml]; exact hl.1) rfl dX1_init_1 (Nat.le_of_ble_eq_true rfl) (Nat.le_of_ble_eq_true rfl) ?_
  refine W.eq (g2 := F0 m 4 ls []) rfl ?_
  replace hP : va_P D vwCl ([(h0, .inr (1, [.int 0, .int 0, .int 0, .int 0, .int 0, .int 0, .long 0, .long 0, .long 0, .int 0, .int 0, .int 0, .int 0, .int 0]))] ++ GW [] y (fun _ => 0) gStart) s.heap := hP
  replace hD : va_D A ([(h0, .inr (1, [.int 0, .int 0, .int 0, .int 0, .int 0, .int 0, .long 0, .long 0, .long 0, .int 0, .int 0, .int 0, .int 0, .int 0]))] ++ GW [] y (fun _ => 0) gStart) := hD
  refine lv_aload_n hx hb dX1_init_4 rfl (lv_at hl 0 rfl) ?_
  refine lv_iconst (v := (-1)) hx hb dX1_init_5 (by decide) ?_
  refine gm_put (D := D) (ci := 1) (v := .int (-1)) (ty := .int) (C := RX1) (T := TX1) (N := 14) hx hb hg inlX1 tyX1 tyX1_ok nmX1 hown hK.1 hP hD hS 0 rfl rfl 2 (by decide) tX1_2 (hg _ gw_70) (by decide +kernel) rfl rfl (Nat.le_of_ble_eq_true rfl) dX1_init_6 ?_
  clear hP hD hS
  refine fun H locs (hP : va_P D vwCl (([(h0, .inr (1, [.int 0, .int 0, .int (-1), .int 0, .int 0, .int 0, .long 0, .long 0, .long 0, .int 0, .int 0, .int 0, .int 0, .int 0]))] ++ GW [] y (fun _ => 0) gStart)) H) (hD : va_D A (([(h0, .inr (1, [.int 0, .int 0, .int (-1), .int 0, .int 0, .int 0, .long 0, .long 0, .long 0, .int 0, .int 0, .int 0, .int 0, .int 0]))] ++ GW [] y (fun _ => 0) gStart))) hS => ?_
  refine lv_aload_n hx hb dX1_init_9 rfl (lv_at hl 0 rfl) ?_
  refine lv_iconst (v := 0) hx hb dX1_init_10 (by decide) ?_
  refine gm_put (D := D) (ci := 1) (v := .int 0) (ty := .int) (C := RX1) (T := TX1) (N := 14) hx hb hg inlX1 tyX1 tyX1_ok nmX1 hown hK.1 hP hD hS 0 rfl rfl 3 (by decide) tX1_3 (hg _ gw_71) (by decide +kernel) rfl rfl (Nat.le_of_ble_eq_true rfl) dX1_init_11 ?_
  clear hP hD hS
  refine fun H locs (hP : va_P D vwCl (([(h0, .inr (1, [.int 0, .int 0, .int (-1), .int 0, .int 0, .int 0, .long 0, .long 0, .long 0, .int 0, .int 0, .int 0, .int 0, .int 0]))] ++ GW [] y (fun _ => 0) gStart)) H) (hD : va_D A (([(h0, .inr (1, [.int 0, .int 0, .int (-1), .int 0, .int 0, .int 0, .long 0, .long 0, .long 0, .int 0, .int 0, .int 0, .int 0, .int 0]))] ++ GW [] y (fun _ => 0) gStart))) hS => ?_
  refine lv_aload_n hx hb dX1_init_14 rfl (lv_at hl 0 rfl) ?_
  refine lv_iconst (v := (-1)) hx hb dX1_init_15 (by decide) ?_
  refine gm_put (D := D) (ci := 1) (v := .int (-1)) (ty := .int) (C := RX1) (T := TX1) (N := 14) hx hb hg inlX1 tyX1 tyX1_ok nmX1 hown hK.1 hP hD hS 0 rfl rfl 4 (by decide) tX1_4 (hg _ gw_72) (by decide +kernel) rfl rfl (Nat.le_of_ble_eq_true rfl) dX1_init_16 ?_
  clear hP hD hS
  refine fun H locs (hP : va_P D vwCl (([(h0, .inr (1, [.int 0, .int 0, .int (-1), .int 0, .int (-1), .int 0, .long 0, .long 0, .long 0, .int 0, .int 0, .int 0, .int 0, .int 0]))] ++ GW [] y (fun _ => 0) gStart)) H) (hD : va_D A (([(h0, .inr (1, [.int 0, .int 0, .int (-1), .int 0, .int (-1), .int 0, .long 0, .long 0, .long 0, .int 0, .int 0, .int 0, .int 0, .int 0]))] ++ GW [] y (fun _ => 0) gStart))) hS => ?_
  refine lv_aload_n hx hb dX1_init_19 rfl (lv_at hl 0 rfl) ?_
  refine lv_iload_n hx hb dX1_init_20 rfl (lv_at hl 1 rfl) ?_
  refine gm_putF (D := D) (ci := 1) (v := .int x1) (ty := .int) (C := RX1) (T := TX1) (N := 14) hx hb hg inlX1 tyX1 tyX1_ok nmX1 hown hK.1 hP hD hS 0 rfl rfl 0 (by decide) tX1_0 (hg _ gw_73) hin rfl (by decide +kernel) rfl rfl (Nat.le_of_ble_eq_true rfl) dX1_init_21 ?_
  clear hP hD hS
  refine fun H locs (hP : va_P D vwCl (([(h0, .inr (1, [.int x1, .int 0, .int (-1), .int 0, .int (-1), .int 0, .long 0, .long 0, .long 0, .int 0, .int 0, .int 0, .int 0, .int 0]))] ++ GW [] y (fun _ => 0) gStart)) H) (hD : va_D A (([(h0, .inr (1, [.int x1, .int 0, .int (-1), .int 0, .int (-1), .int 0, .long 0, .long 0, .long 0, .int 0, .int 0, .int 0, .int 0, .int 0]))] ++ GW [] y (fun _ => 0) gStart))) hS => ?_
  have hnK : k0 ∉ [] := fun h => by have := ((fun k => (⟨fun h => (nomatch h), fun h => absurd h (by omega)⟩ : k ∈ [] ↔ k < 0)) k0).mp h; omega
  have hen : gW1 y (fun k => if k = k0 then h0 else (fun _ => 0) k) gStart k0 = (h0, .inr (1, [.int x1, .int 0, .int (-1), .int 0, .int (-1), .int 0, .long 0, .long 0, .long 0, .int 0, .int 0, .int 0, .int 0, .int 0])) := by
    rw [gW_obj hk0 (by decide)]
    show ((fun k => if k = k0 then h0 else (fun _ => 0) k) k0, Sum.inr (1, [Value.int ((gStart.1 k0) 0), Value.int ((gStart.1 k0) 1), Value.int ((gStart.1 k0) 2), Value.int ((gStart.1 k0) 3), Value.int ((gStart.1 k0) 4), Value.int ((gStart.1 k0) 5), Value.long ((gStart.2.1 k0) 6), Value.long ((gStart.2.1 k0) 7), Value.long ((gStart.2.1 k0) 8), Value.int ((gStart.1 k0) 9), Value.int ((gStart.1 k0) 10), Value.int ((gStart.1 k0) 11), Value.int ((gStart.1 k0) 12), Value.int ((gStart.1 k0) 13)])) = _
    rw [show (fun k => if k = k0 then h0 else (fun _ => 0) k) k0 = h0 from by simp]
    rw [hx1, g_start1 hk0 (j := 1) (by decide), g_start1 hk0 (j := 2) (by decide), g_start1 hk0 (j := 3) (by decide), g_start1 hk0 (j := 4) (by decide), g_start1 hk0 (j := 5) (by decide), g_start1 hk0 (j := 9) (by decide), g_start1 hk0 (j := 10) (by decide), g_start1 hk0 (j := 11) (by decide), g_start1 hk0 (j := 12) (by decide), g_start1 hk0 (j := 13) (by decide)]; rfl
  have hw := G_abs (y := y) (ad := (fun _ => 0)) (σ := gStart) (addr := h0) (en := .inr (1, [.int x1, .int 0, .int (-1), .int 0, .int (-1), .int 0, .long 0, .long 0, .long 0, .int 0, .int 0, .int 0, .int 0, .int 0])) gClL_nil hnK hen
  have hcN : gClL (k0 :: []) := gClL_cons gClL_nil (fun y ad ad' σ h h2 => by
    rw [gW_obj hk0 (by decide), gW_obj hk0 (by decide), h]
    rfl)
  replace hP : va_P D vwCl (GW (k0 :: []) y (fun k => if k = k0 then h0 else (fun _ => 0) k) gStart) H := by rw [← hw]; exact hP
  replace hD : va_D A (GW (k0 :: []) y (fun k => if k = k0 then h0 else (fun _ => 0) k) gStart) := by rw [← hw]; exact hD
  exact g_vret hx hb hr hlocks ((fun k => if k = k0 then h0 else (fun _ => 0) k), k0 :: []) hP hD hS ⟨by simp, hcN, fun k => List.mem_cons.trans (by rw [(fun k => (⟨fun h => (nomatch h), fun h => absurd h (by omega)⟩ : k ∈ [] ↔ k < 0)) k]; omega)⟩ (Nat.le_of_ble_eq_true rfl) (Nat.le_of_ble_eq_true rfl) dX1_init_24
set_option maxRecDepth 100000 in
set_option maxHeartbeats 400000 in
theorem kc_Machine (l : Launch) (D : va_G) (y : Nat → ClassId) (aS : Nat → Nat) (sz : Nat) (h0 : Nat) (k0 : Nat) (x1 : Int32) (hk0 : gcl k0 = 6) (hx1 : gStart.1 k0 0 = x1) (hz : x1 = 0 ∨ x1 = 1) : Met l yX6_init (Cond.code yX6_init cX6_init 2 none :: wsL_law) ({ frames := 1, cells := 0, slots := 0, locals := 12 } : Room) (va_Pc [.ref h0, .int x1] (gI D y aS [(h0, .inr (6, [.int 0, .int 0, .int 0, .long 0, .int 0, .int 0]))] sz)) (va_Qv (fun (u : (Nat → Nat) × List Nat) => u.1 k0 = h0 ∧ gClL u.2 ∧ ∀ k, k ∈ u.2 ↔ (k0 ≤ k ∧ k < k0 + 1)) (fun u => gO D (va_A [(h0, .inr (6, [.int 0, .int 0, .int 0, .long 0, .int 0, .int 0]))] sz) (GW u.2 y u.1 gStart)) (va_A [(h0, .inr (6, [.int 0, .int 0, .int 0, .long 0, .int 0, .int 0]))] sz)) 0 0 (va_A [(h0, .inr (6, [.int 0, .int 0, .int 0, .long 0, .int 0, .int 0]))] sz) := by
  refine g_of (by decide) (Nat.le_of_ble_eq_true rfl) ?_
  intro p e s m below meth c ls A hx hb hr hml hown hg hlocks hin hsz hK hP hD hS hA hAe hl
  rw [← hAe]
  replace hown : s.vm.findClass RX6 = some m.cls := hown
  replace hin : meth.name = "<init>" := hin
  replace hl : lv_has ls 2 [(0, .ref h0), (1, .int x1)] := hl
  refine lv_aload_n hx hb dX6_init_0 rfl (lv_at hl 0 rfl) ?_
  refine W.objInit hx hb hown (hg _ gw_145) (hg _ gw_11) (hg _ gw_12) rfl (by rw [hml]; exact hl.1) rfl dX6_init_1 (Nat.le_of_ble_eq_true rfl) (Nat.le_of_ble_eq_true rfl) ?_
  refine W.eq (g2 := F0 m 4 ls []) rfl ?_
  replace hP : va_P D vwCl ([(h0, .inr (6, [.int 0, .int 0, .int 0, .long 0, .int 0, .int 0]))] ++ GW [] y (fun _ => 0) gStart) s.heap := hP
  replace hD : va_D A ([(h0, .inr (6, [.int 0, .int 0, .int 0, .long 0, .int 0, .int 0]))] ++ GW [] y (fun _ => 0) gStart) := hD
  refine lv_aload_n hx hb dX6_init_4 rfl (lv_at hl 0 rfl) ?_
  refine lv_iconst (v := (-1)) hx hb dX6_init_5 (by decide) ?_
  refine gm_put (D := D) (ci := 6) (v := .int (-1)) (ty := .int) (C := RX6) (T := TX6) (N := 6) hx hb hg inlX6 tyX6 tyX6_ok nmX6 hown hK.1 hP hD hS 0 rfl rfl 1 (by decide) tX6_1 (hg _ gw_146) (by decide +kernel) rfl rfl (Nat.le_of_ble_eq_true rfl) dX6_init_6 ?_
  clear hP hD hS
  refine fun H locs (hP : va_P D vwCl (([(h0, .inr (6, [.int 0, .int (-1), .int 0, .long 0, .int 0, .int 0]))] ++ GW [] y (fun _ => 0) gStart)) H) (hD : va_D A (([(h0, .inr (6, [.int 0, .int (-1), .int 0, .long 0, .int 0, .int 0]))] ++ GW [] y (fun _ => 0) gStart))) hS => ?_
  refine lv_aload_n hx hb dX6_init_9 rfl (lv_at hl 0 rfl) ?_
  refine lv_iconst (v := (-1)) hx hb dX6_init_10 (by decide) ?_
  refine gm_put (D := D) (ci := 6) (v := .int (-1)) (ty := .int) (C := RX6) (T := TX6) (N := 6) hx hb hg inlX6 tyX6 tyX6_ok nmX6 hown hK.1 hP hD hS 0 rfl rfl 2 (by decide) tX6_2 (hg _ gw_147) (by decide +kernel) rfl rfl (Nat.le_of_ble_eq_true rfl) dX6_init_11 ?_
  clear hP hD hS
  refine fun H locs (hP : va_P D vwCl (([(h0, .inr (6, [.int 0, .int (-1), .int (-1), .long 0, .int 0, .int 0]))] ++ GW [] y (fun _ => 0) gStart)) H) (hD : va_D A (([(h0, .inr (6, [.int 0, .int (-1), .int (-1), .long 0, .int 0, .int 0]))] ++ GW [] y (fun _ => 0) gStart))) hS => ?_
  refine lv_aload_n hx hb dX6_init_14 rfl (lv_at hl 0 rfl) ?_
  refine lv_iload_n hx hb dX6_init_15 rfl (lv_at hl 1 rfl) ?_
  refine gm_put (D := D) (ci := 6) (v := .int x1) (ty := .boolean) (C := RX6) (T := TX6) (N := 6) hx hb hg inlX6 tyX6 tyX6_ok nmX6 hown hK.1 hP hD hS 0 rfl rfl 0 (by decide) tX6_0 (hg _ gw_148) (by decide +kernel) (g_nz hz) (g_nf hz) (Nat.le_of_ble_eq_true rfl) dX6_init_16 ?_
  clear hP hD hS
  refine fun H locs (hP : va_P D vwCl (([(h0, .inr (6, [.int x1, .int (-1), .int (-1), .long 0, .int 0, .int 0]))] ++ GW [] y (fun _ => 0) gStart)) H) (hD : va_D A (([(h0, .inr (6, [.int x1, .int (-1), .int (-1), .long 0, .int 0, .int 0]))] ++ GW [] y (fun _ => 0) gStart))) hS => ?_
  have hnK : k0 ∉ [] := fun h => by have := ((fun k => (⟨fun h => (nomatch h), fun h => absurd h (by omega)⟩ : k ∈ [] ↔ k < 0)) k0).mp h; omega
  have hen : gW1 y (fun k => if k = k0 then h0 else (fun _ => 0) k) gStart k0 = (h0, .inr (6, [.int x1, .int (-1), .int (-1), .long 0, .int 0, .int 0])) := by
    rw [gW_obj hk0 (by decide)]
    show ((fun k => if k = k0 then h0 else (fun _ => 0) k) k0, Sum.inr (6, [Value.int ((gStart.1 k0) 0), Value.int ((gStart.1 k0) 1), Value.int ((gStart.1 k0) 2), Value.long ((gStart.2.1 k0) 3), Value.int ((gStart.1 k0) 4), Value.int ((gStart.1 k0) 5)])) = _
    rw [show (fun k => if k = k0 then h0 else (fun _ => 0) k) k0 = h0 from by simp]
    rw [hx1, g_start6 hk0 (j := 1) (by decide), g_start6 hk0 (j := 2) (by decide), g_start6 hk0 (j := 4) (by decide), g_start6 hk0 (j := 5) (by decide)]; rfl
  have hw := G_abs (y := y) (ad := (fun _ => 0)) (σ := gStart) (addr := h0) (en := .inr (6, [.int x1, .int (-1), .int (-1), .long 0, .int 0, .int 0])) gClL_nil hnK hen
  have hcN : gClL (k0 :: []) := gClL_cons gClL_nil (fun y ad ad' σ h h2 => by
    rw [gW_obj hk0 (by decide), gW_obj hk0 (by decide), h]
    rfl)
  replace hP : va_P D vwCl (GW (k0 :: []) y (fun k => if k = k0 then h0 else (fun _ => 0) k) gStart) H := by rw [← hw]; exact hP
  replace hD : va_D A (GW (k0 :: []) y (fun k => if k = k0 then h0 else (fun _ => 0) k) gStart) := by rw [← hw]; exact hD
  exact g_vret hx hb hr hlocks ((fun k => if k = k0 then h0 else (fun _ => 0) k), k0 :: []) hP hD hS ⟨by simp, hcN, fun k => List.mem_cons.trans (by rw [(fun k => (⟨fun h => (nomatch h), fun h => absurd h (by omega)⟩ : k ∈ [] ↔ k < 0)) k]; omega)⟩ (Nat.le_of_ble_eq_true rfl) (Nat.le_of_ble_eq_true rfl) dX6_init_19
theorem ggI_RX3_11_X8_init : GoodIn wsL_law ([] ++ (Cond.code yX8_init cX8_init 2 none :: wsL_law)) := g_gi (fun _ h => h) gW_good (fun _ h => nomatch h) ⟨gw_96, rfl⟩
set_option maxRecDepth 100000 in
set_option maxHeartbeats 400000 in
theorem kc_Check (l : Launch) (D : va_G) (y : Nat → ClassId) (aS : Nat → Nat) (sz : Nat) (h0 : Nat) (k0 : Nat) (x1 : Int32) (hk0 : gcl k0 = 3) (hx1 : gStart.1 k0 0 = x1) (hle : gle 256 (k0 + 1 + 1) = 24) : Met l yX3_init (Cond.code yX3_init cX3_init 2 none :: wsL_law) ({ frames := 2, cells := 2, slots := 26, locals := 33 } : Room) (va_Pc [.ref h0, .int x1] (gI D y aS [(h0, .inr (3, [.int 0, .null, .int 0, .long 0, .int 0, .int 0, .int 0, .int 0, .int 0, .int 0]))] sz)) (va_Qv (fun (u : (Nat → Nat) × List Nat) => u.1 k0 = h0 ∧ gClL u.2 ∧ ∀ k, k ∈ u.2 ↔ (k0 ≤ k ∧ k < k0 + 3)) (fun u => gO D (va_A [(h0, .inr (3, [.int 0, .null, .int 0, .long 0, .int 0, .int 0, .int 0, .int 0, .int 0, .int 0]))] sz) (GW u.2 y u.1 gStart)) (va_A [(h0, .inr (3, [.int 0, .null, .int 0, .long 0, .int 0, .int 0, .int 0, .int 0, .int 0, .int 0]))] sz)) 2 26 (va_A [(h0, .inr (3, [.int 0, .null, .int 0, .long 0, .int 0, .int 0, .int 0, .int 0, .int 0, .int 0]))] sz) := by
  refine g_of (by decide) (Nat.le_of_ble_eq_true rfl) ?_
  intro p e s m below meth c ls A hx hb hr hml hown hg hlocks hin hsz hK hP hD hS hA hAe hl
  rw [← hAe]
  replace hown : s.vm.findClass RX3 = some m.cls := hown
  replace hin : meth.name = "<init>" := hin
  replace hl : lv_has ls 2 [(0, .ref h0), (1, .int x1)] := hl
  refine lv_aload_n hx hb dX3_init_0 rfl (lv_at hl 0 rfl) ?_
  refine W.objInit hx hb hown (hg _ gw_90) (hg _ gw_11) (hg _ gw_12) rfl (by rw [hml]; exact hl.1) rfl dX3_init_1 (Nat.le_of_ble_eq_true rfl) (Nat.le_of_ble_eq_true rfl) ?_
  refine W.eq (g2 := F0 m 4 ls []) rfl ?_
  replace hP : va_P D vwCl ([(h0, .inr (3, [.int 0, .null, .int 0, .long 0, .int 0, .int 0, .int 0, .int 0, .int 0, .int 0]))] ++ GW [] y (fun _ => 0) gStart) s.heap := hP
  replace hD : va_D A ([(h0, .inr (3, [.int 0, .null, .int 0, .long 0, .int 0, .int 0, .int 0, .int 0, .int 0, .int 0]))] ++ GW [] y (fun _ => 0) gStart) := hD
  refine lv_aload_n hx hb dX3_init_4 rfl (lv_at hl 0 rfl) ?_
  refine va_new (ci := 8) (fs := [.null, .int 0]) (C := RX8) (T := TX8) (N := 2) hx hb hg inlX8 tyX8 tyX8_ok hown (hg _ gw_91) (hg _ gw_47) (hg _ gw_48) hK.1 hP hD hS hA rfl dfX8 (Nat.le_of_ble_eq_true rfl) (Nat.le_of_ble_eq_true rfl) dX3_init_5 ?_
  clear hP hD hS
  intro q1 H hP hD hS
  refine lv_dup hx hb dX3_init_8 rfl ?_
  refine lv_bipush (v := 24) hx hb dX3_init_9 (by decide +kernel) ?_
  refine g_avI (va_runI (As := [.int 24]) (rest := [.ref q1, .ref h0]) ⟨hx, hb, hml, hown, hg⟩ (kc_Row l D y aS H.size q1 (k0 + 1) 24 24 (gcl_chk hk0) hle (by decide) (by decide +kernel) (by decide)) (cwI 1 hg ggI_RX3_11_X8_init rfl rfl rfl (hg _ gw_48) (hg _ gw_94) (hg _ gw_95) rfl (by decide +kernel) ⟨Nat.le_of_ble_eq_true rfl, Nat.le_of_ble_eq_true rfl⟩) (g_preI hK hP hD) rfl rfl hl.1 rfl (lv_room (Nat.le_of_ble_eq_true rfl)) dX3_init_11 ⟨(Nat.le_of_ble_eq_true rfl), (Nat.le_of_ble_eq_true rfl)⟩) hP hD hS hA ?_
  clear hP hD hS
  intro u2 H locs hqu2 hP hD hS
  obtain ⟨ad3, hs4, hm5, heq⟩ := G_merge (y := y) (ad := (fun _ => 0)) (u := u2.1) (σ := gStart) gClL_nil hqu2.2.1 (fun k hk hn => by have b1 := (hqu2.2.2 k).mp hk; have b2 := ((fun k => (⟨fun h => (nomatch h), fun h => absurd h (by omega)⟩ : k ∈ [] ↔ k < 0)) k).mp hn; omega)
  replace hP : va_P D vwCl ([(h0, .inr (3, [.int 0, .null, .int 0, .long 0, .int 0, .int 0, .int 0, .int 0, .int 0, .int 0]))] ++ GW ([] ++ u2.2) y ad3 gStart) H := by rw [← heq]; exact hP
  replace hD : va_D A ([(h0, .inr (3, [.int 0, .null, .int 0, .long 0, .int 0, .int 0, .int 0, .int 0, .int 0, .int 0]))] ++ GW ([] ++ u2.2) y ad3 gStart) := by rw [← heq]; exact hD
  clear heq
  have hcad3 : gClL ([] ++ u2.2) := gClL_app gClL_nil hqu2.2.1
  have hMad3 : ∀ k, k ∈ ([] ++ u2.2) ↔ ((k0 + 1) ≤ k ∧ k < (k0 + 1) + 2) := fun k => List.mem_append.trans (by have b1 := hqu2.2.2 k; have b2 := (fun k => (⟨fun h => (nomatch h), fun h => absurd h (by omega)⟩ : k ∈ [] ↔ k < 0)) k; constructor <;> intro h <;> (first | omega | (rcases h with h | h <;> first | (have := b1.mp h; omega) | (have := b2.mp h; omega)) | (rw [b1, b2]; omega)))
  have hf7 : ad3 (k0 + 1) = q1 := (hm5 (k0 + 1) ((hqu2.2.2 (k0 + 1)).mpr (by omega))).trans hqu2.1
  generalize hL0 : ([] ++ u2.2) = Lad3 at hP hD hcad3 hMad3
  clear hL0
  refine gm_putF (D := D) (ci := 3) (v := .ref q1) (ty := .object "Greentrunk$Row") (C := RX3) (T := TX3) (N := 10) hx hb hg inlX3 tyX3 tyX3_ok nmX3 hown hK.1 hP hD hS 0 rfl rfl 1 (by decide) tX3_1 (hg _ gw_92) hin rfl (by decide +kernel) rfl rfl (Nat.le_of_ble_eq_true rfl) dX3_init_14 ?_
  clear hP hD hS
  refine fun H locs (hP : va_P D vwCl (([(h0, .inr (3, [.int 0, .ref q1, .int 0, .long 0, .int 0, .int 0, .int 0, .int 0, .int 0, .int 0]))] ++ GW Lad3 y ad3 gStart)) H) (hD : va_D A (([(h0, .inr (3, [.int 0, .ref q1, .int 0, .long 0, .int 0, .int 0, .int 0, .int 0, .int 0, .int 0]))] ++ GW Lad3 y ad3 gStart))) hS => ?_
  refine lv_aload_n hx hb dX3_init_17 rfl (lv_at hl 0 rfl) ?_
  refine lv_iload_n hx hb dX3_init_18 rfl (lv_at hl 1 rfl) ?_
  refine gm_putF (D := D) (ci := 3) (v := .int x1) (ty := .int) (C := RX3) (T := TX3) (N := 10) hx hb hg inlX3 tyX3 tyX3_ok nmX3 hown hK.1 hP hD hS 0 rfl rfl 0 (by decide) tX3_0 (hg _ gw_93) hin rfl (by decide +kernel) rfl rfl (Nat.le_of_ble_eq_true rfl) dX3_init_19 ?_
  clear hP hD hS
  refine fun H locs (hP : va_P D vwCl (([(h0, .inr (3, [.int x1, .ref q1, .int 0, .long 0, .int 0, .int 0, .int 0, .int 0, .int 0, .int 0]))] ++ GW Lad3 y ad3 gStart)) H) (hD : va_D A (([(h0, .inr (3, [.int x1, .ref q1, .int 0, .long 0, .int 0, .int 0, .int 0, .int 0, .int 0, .int 0]))] ++ GW Lad3 y ad3 gStart))) hS => ?_
  have hnK : k0 ∉ Lad3 := fun h => by have := (hMad3 k0).mp h; omega
  have hr1 : (fun k => if k = k0 then h0 else ad3 k) (k0 + 1) = q1 := (if_neg (by omega)).trans hf7
  have hen : gW1 y (fun k => if k = k0 then h0 else ad3 k) gStart k0 = (h0, .inr (3, [.int x1, .ref q1, .int 0, .long 0, .int 0, .int 0, .int 0, .int 0, .int 0, .int 0])) := by
    rw [gW_obj hk0 (by decide)]
    show ((fun k => if k = k0 then h0 else ad3 k) k0, Sum.inr (3, [Value.int ((gStart.1 k0) 0), Value.ref ((fun k => if k = k0 then h0 else ad3 k) (k0 + 1)), Value.int ((gStart.1 k0) 2), Value.long ((gStart.2.1 k0) 3), Value.int ((gStart.1 k0) 4), Value.int ((gStart.1 k0) 5), Value.int ((gStart.1 k0) 6), Value.int ((gStart.1 k0) 7), Value.int ((gStart.1 k0) 8), Value.int ((gStart.1 k0) 9)])) = _
    rw [show (fun k => if k = k0 then h0 else ad3 k) k0 = h0 from by simp, hr1]
    rw [hx1, g_start3 hk0 (j := 2) (by decide), g_start3 hk0 (j := 4) (by decide), g_start3 hk0 (j := 5) (by decide), g_start3 hk0 (j := 6) (by decide), g_start3 hk0 (j := 7) (by decide), g_start3 hk0 (j := 8) (by decide), g_start3 hk0 (j := 9) (by decide)]; rfl
  have hw := G_abs (y := y) (ad := ad3) (σ := gStart) (addr := h0) (en := .inr (3, [.int x1, .ref q1, .int 0, .long 0, .int 0, .int 0, .int 0, .int 0, .int 0, .int 0])) hcad3 hnK hen
  have hcN : gClL (k0 :: Lad3) := gClL_cons hcad3 (fun y ad ad' σ h h2 => by
    rw [gW_obj hk0 (by decide), gW_obj hk0 (by decide), h]
    show (_, Sum.inr (3, [Value.int ((σ.1 k0) 0), Value.ref (ad (k0 + 1)), Value.int ((σ.1 k0) 2), Value.long ((σ.2.1 k0) 3), Value.int ((σ.1 k0) 4), Value.int ((σ.1 k0) 5), Value.int ((σ.1 k0) 6), Value.int ((σ.1 k0) 7), Value.int ((σ.1 k0) 8), Value.int ((σ.1 k0) 9)])) = (_, Sum.inr (3, [Value.int ((σ.1 k0) 0), Value.ref (ad' (k0 + 1)), Value.int ((σ.1 k0) 2), Value.long ((σ.2.1 k0) 3), Value.int ((σ.1 k0) 4), Value.int ((σ.1 k0) 5), Value.int ((σ.1 k0) 6), Value.int ((σ.1 k0) 7), Value.int ((σ.1 k0) 8), Value.int ((σ.1 k0) 9)]))
    rw [h2 (k0 + 1) ((hMad3 (k0 + 1)).mpr (by omega))])
  replace hP : va_P D vwCl (GW (k0 :: Lad3) y (fun k => if k = k0 then h0 else ad3 k) gStart) H := by rw [← hw]; exact hP
  replace hD : va_D A (GW (k0 :: Lad3) y (fun k => if k = k0 then h0 else ad3 k) gStart) := by rw [← hw]; exact hD
  exact g_vret hx hb hr hlocks ((fun k => if k = k0 then h0 else ad3 k), k0 :: Lad3) hP hD hS ⟨by simp, hcN, fun k => List.mem_cons.trans (by rw [hMad3 k]; omega)⟩ (Nat.le_of_ble_eq_true rfl) (Nat.le_of_ble_eq_true rfl) dX3_init_22
set_option maxRecDepth 100000 in
set_option maxHeartbeats 400000 in
theorem kc_Verdicts (l : Launch) (D : va_G) (y : Nat → ClassId) (aS : Nat → Nat) (sz : Nat) (h0 : Nat) : Met l yX9_init (Cond.code yX9_init cX9_init 1 none :: wsL_law) ({ frames := 1, cells := 2, slots := 512, locals := 12 } : Room) (va_Pc [.ref h0] (gI D y aS [(h0, .inr (9, [.null, .null, .int 0]))] sz)) (va_Qv (fun (u : (Nat → Nat) × List Nat) => u.1 106 = h0 ∧ gClL u.2 ∧ ∀ k, k ∈ u.2 ↔ (106 ≤ k ∧ k < 109)) (fun u => gO D (va_A [(h0, .inr (9, [.null, .null, .int 0]))] sz) (GW u.2 y u.1 gStart)) (va_A [(h0, .inr (9, [.null, .null, .int 0]))] sz)) 2 512 (va_A [(h0, .inr (9, [.null, .null, .int 0]))] sz) := by
  refine g_of (by decide) (Nat.le_of_ble_eq_true rfl) ?_
  intro p e s m below meth c ls A hx hb hr hml hown hg hlocks hin hsz hK hP hD hS hA hAe hl
  rw [← hAe]
  replace hown : s.vm.findClass RX9 = some m.cls := hown
  replace hin : meth.name = "<init>" := hin
  replace hl : lv_has ls 1 [(0, .ref h0)] := hl
  refine lv_aload_n hx hb dX9_init_0 rfl (lv_at hl 0 rfl) ?_
  refine W.objInit hx hb hown (hg _ gw_102) (hg _ gw_11) (hg _ gw_12) rfl (by rw [hml]; exact hl.1) rfl dX9_init_1 (Nat.le_of_ble_eq_true rfl) (Nat.le_of_ble_eq_true rfl) ?_
  refine W.eq (g2 := F0 m 4 ls []) rfl ?_
  replace hP : va_P D vwCl ([(h0, .inr (9, [.null, .null, .int 0]))] ++ GW [] y (fun _ => 0) gStart) s.heap := hP
  replace hD : va_D A ([(h0, .inr (9, [.null, .null, .int 0]))] ++ GW [] y (fun _ => 0) gStart) := hD
  refine lv_aload_n hx hb dX9_init_4 rfl (lv_at hl 0 rfl) ?_
  refine lv_sipush (v := 256) hx hb dX9_init_5 (by decide +kernel) ?_
  refine g_newa (atype := .long) (ty := .long) (N' := 256) (a0 := (256, .inr (.inl (fun _ => 0)))) hx hb 1 rfl (fun _ h => by cases h) (hg _ gw_4) rfl hK hP hD hS hA (fun _ => rfl) (by decide) (by decide +kernel) (by decide) (Nat.le_of_ble_eq_true rfl) (Nat.le_of_ble_eq_true rfl) dX9_init_8 ?_
  clear hP hD hS
  intro q1 H hP0 hD0 hS
  obtain ⟨hP, hD⟩ := g_permA (E := [(h0, .inr (9, [.null, .null, .int 0]))]) (X := GW [] y (fun _ => 0) gStart) hP0 hD0
  clear hP0 hD0
  have hn3 : 107 ∉ [] := fun h => by have := ((fun k => (⟨fun h => (nomatch h), fun h => absurd h (by omega)⟩ : k ∈ [] ↔ k < 0)) 107).mp h; omega
  have hx2 := G_abs (y := y) (ad := (fun _ => 0)) (σ := gStart) (addr := q1) (en := .inl (y 1, 256, .inr (.inl (fun _ => 0)))) gClL_nil hn3 (by rw [gW_long gk_107]; exact Prod.ext (by simp) (by show Sum.inl (_, gle gStart.2.2 107, _) = _; rw [show gle gStart.2.2 107 = 256 from rfl]; rfl))
  have hc4 : gClL (107 :: []) := gClL_cons gClL_nil (fun y ad ad' σ h h2 => by rw [gW_long gk_107, gW_long gk_107, h])
  have hM5 : ∀ k, k ∈ (107 :: []) ↔ (k = 107 ∨ (k < 0)) := fun k => List.mem_cons.trans (by rw [(fun k => (⟨fun h => (nomatch h), fun h => absurd h (by omega)⟩ : k ∈ [] ↔ k < 0)) k])
  have hf6 : (fun k => if k = 107 then q1 else (fun _ => 0) k) 107 = q1 := by simp
  rw [hx2] at hP hD
  clear hx2
  refine gm_put (D := D) (ci := 9) (v := .ref q1) (ty := .array .long) (C := RX9) (T := TX9) (N := 3) hx hb hg inlX9 tyX9 tyX9_ok nmX9 hown hK.1 hP hD hS 0 rfl rfl 0 (by decide) tX9_0 (hg _ gw_103) (by decide +kernel) rfl rfl (Nat.le_of_ble_eq_true rfl) dX9_init_10 ?_
  clear hP hD hS
  refine fun H locs (hP : va_P D vwCl (([(h0, .inr (9, [.ref q1, .null, .int 0]))] ++ GW (107 :: []) y (fun k => if k = 107 then q1 else (fun _ => 0) k) gStart)) H) (hD : va_D A (([(h0, .inr (9, [.ref q1, .null, .int 0]))] ++ GW (107 :: []) y (fun k => if k = 107 then q1 else (fun _ => 0) k) gStart))) hS => ?_
  refine lv_aload_n hx hb dX9_init_13 rfl (lv_at hl 0 rfl) ?_
  refine lv_sipush (v := 256) hx hb dX9_init_14 (by decide +kernel) ?_
  refine g_newa (atype := .int) (ty := .int) (N' := 256) (a0 := (256, .inl (fun _ => 0))) hx hb 0 rfl (fun _ h => by cases h) (hg _ gw_3) rfl hK hP hD hS hA (fun _ => rfl) (by decide) (by decide +kernel) (by decide) (Nat.le_of_ble_eq_true rfl) (Nat.le_of_ble_eq_true rfl) dX9_init_17 ?_
  clear hP hD hS
  intro q7 H hP0 hD0 hS
  obtain ⟨hP, hD⟩ := g_permA (E := [(h0, .inr (9, [.ref q1, .null, .int 0]))]) (X := GW (107 :: []) y (fun k => if k = 107 then q1 else (fun _ => 0) k) gStart) hP0 hD0
  clear hP0 hD0
  have hn9 : 108 ∉ (107 :: []) := fun h => by have := (hM5 108).mp h; omega
  have hx8 := G_abs (y := y) (ad := (fun k => if k = 107 then q1 else (fun _ => 0) k)) (σ := gStart) (addr := q7) (en := .inl (y 0, 256, .inl (fun _ => 0))) hc4 hn9 (by rw [gW_int gk_108]; exact Prod.ext (by simp) (by show Sum.inl (_, gle gStart.2.2 108, _) = _; rw [show gle gStart.2.2 108 = 256 from rfl]; rfl))
  have hc10 : gClL (108 :: (107 :: [])) := gClL_cons hc4 (fun y ad ad' σ h h2 => by rw [gW_int gk_108, gW_int gk_108, h])
  have hM11 : ∀ k, k ∈ (108 :: (107 :: [])) ↔ (k = 108 ∨ (k = 107 ∨ (k < 0))) := fun k => List.mem_cons.trans (by rw [hM5 k])
  have hf12 : (fun k => if k = 108 then q7 else (fun k => if k = 107 then q1 else (fun _ => 0) k) k) 107 = q1 := (if_neg (by omega)).trans hf6
  have hf13 : (fun k => if k = 108 then q7 else (fun k => if k = 107 then q1 else (fun _ => 0) k) k) 108 = q7 := by simp
  rw [hx8] at hP hD
  clear hx8
  refine gm_put (D := D) (ci := 9) (v := .ref q7) (ty := .array .int) (C := RX9) (T := TX9) (N := 3) hx hb hg inlX9 tyX9 tyX9_ok nmX9 hown hK.1 hP hD hS 0 rfl rfl 1 (by decide) tX9_1 (hg _ gw_104) (by decide +kernel) rfl rfl (Nat.le_of_ble_eq_true rfl) dX9_init_19 ?_
  clear hP hD hS
  refine fun H locs (hP : va_P D vwCl (([(h0, .inr (9, [.ref q1, .ref q7, .int 0]))] ++ GW (108 :: (107 :: [])) y (fun k => if k = 108 then q7 else (fun k => if k = 107 then q1 else (fun _ => 0) k) k) gStart)) H) (hD : va_D A (([(h0, .inr (9, [.ref q1, .ref q7, .int 0]))] ++ GW (108 :: (107 :: [])) y (fun k => if k = 108 then q7 else (fun k => if k = 107 then q1 else (fun _ => 0) k) k) gStart))) hS => ?_
  have hnK : 106 ∉ (108 :: (107 :: [])) := fun h => by have := (hM11 106).mp h; omega
  have hr0 : (fun k => if k = 106 then h0 else (fun k => if k = 108 then q7 else (fun k => if k = 107 then q1 else (fun _ => 0) k) k) k) 107 = q1 := (if_neg (by omega)).trans hf12
  have hr1 : (fun k => if k = 106 then h0 else (fun k => if k = 108 then q7 else (fun k => if k = 107 then q1 else (fun _ => 0) k) k) k) 108 = q7 := (if_neg (by omega)).trans hf13
  have hen : gW1 y (fun k => if k = 106 then h0 else (fun k => if k = 108 then q7 else (fun k => if k = 107 then q1 else (fun _ => 0) k) k) k) gStart 106 = (h0, .inr (9, [.ref q1, .ref q7, .int 0])) := by
    rw [gW_obj gk_106 (by decide)]
    show ((fun k => if k = 106 then h0 else (fun k => if k = 108 then q7 else (fun k => if k = 107 then q1 else (fun _ => 0) k) k) k) 106, Sum.inr (9, [Value.ref ((fun k => if k = 106 then h0 else (fun k => if k = 108 then q7 else (fun k => if k = 107 then q1 else (fun _ => 0) k) k) k) 107), Value.ref ((fun k => if k = 106 then h0 else (fun k => if k = 108 then q7 else (fun k => if k = 107 then q1 else (fun _ => 0) k) k) k) 108), Value.int ((gStart.1 106) 2)])) = _
    rw [show (fun k => if k = 106 then h0 else (fun k => if k = 108 then q7 else (fun k => if k = 107 then q1 else (fun _ => 0) k) k) k) 106 = h0 from by simp, hr0, hr1]
    all_goals rfl
  have hw := G_abs (y := y) (ad := (fun k => if k = 108 then q7 else (fun k => if k = 107 then q1 else (fun _ => 0) k) k)) (σ := gStart) (addr := h0) (en := .inr (9, [.ref q1, .ref q7, .int 0])) hc10 hnK hen
  have hcN : gClL (106 :: (108 :: (107 :: []))) := gClL_cons hc10 (fun y ad ad' σ h h2 => by
    rw [gW_obj gk_106 (by decide), gW_obj gk_106 (by decide), h]
    show (_, Sum.inr (9, [Value.ref (ad 107), Value.ref (ad 108), Value.int ((σ.1 106) 2)])) = (_, Sum.inr (9, [Value.ref (ad' 107), Value.ref (ad' 108), Value.int ((σ.1 106) 2)]))
    rw [h2 107 ((hM11 107).mpr (by omega)), h2 108 ((hM11 108).mpr (by omega))])
  replace hP : va_P D vwCl (GW (106 :: (108 :: (107 :: []))) y (fun k => if k = 106 then h0 else (fun k => if k = 108 then q7 else (fun k => if k = 107 then q1 else (fun _ => 0) k) k) k) gStart) H := by rw [← hw]; exact hP
  replace hD : va_D A (GW (106 :: (108 :: (107 :: []))) y (fun k => if k = 106 then h0 else (fun k => if k = 108 then q7 else (fun k => if k = 107 then q1 else (fun _ => 0) k) k) k) gStart) := by rw [← hw]; exact hD
  exact g_vret hx hb hr hlocks ((fun k => if k = 106 then h0 else (fun k => if k = 108 then q7 else (fun k => if k = 107 then q1 else (fun _ => 0) k) k) k), 106 :: (108 :: (107 :: []))) hP hD hS ⟨by simp, hcN, fun k => List.mem_cons.trans (by rw [hM11 k]; omega)⟩ (Nat.le_of_ble_eq_true rfl) (Nat.le_of_ble_eq_true rfl) dX9_init_22
theorem ggI_RX4_20_X8_init : GoodIn wsL_law ([] ++ (Cond.code yX8_init cX8_init 2 none :: wsL_law)) := g_gi (fun _ h => h) gW_good (fun _ h => nomatch h) ⟨gw_96, rfl⟩
set_option maxRecDepth 100000 in
set_option maxHeartbeats 400000 in
theorem kc_Lane (l : Launch) (D : va_G) (y : Nat → ClassId) (aS : Nat → Nat) (sz : Nat) (h0 : Nat) : Met l yX4_init (Cond.code yX4_init cX4_init 1 none :: wsL_law) ({ frames := 2, cells := 8, slots := 108, locals := 33 } : Room) (va_Pc [.ref h0] (gI D y aS [(h0, .inr (4, [.int 0, .int 0, .int 0, .int 0, .null, .null, .null, .null, .long 0]))] sz)) (va_Qv (fun (u : (Nat → Nat) × List Nat) => u.1 109 = h0 ∧ gClL u.2 ∧ ∀ k, k ∈ u.2 ↔ (109 ≤ k ∧ k < 118)) (fun u => gO D (va_A [(h0, .inr (4, [.int 0, .int 0, .int 0, .int 0, .null, .null, .null, .null, .long 0]))] sz) (GW u.2 y u.1 gStart)) (va_A [(h0, .inr (4, [.int 0, .int 0, .int 0, .int 0, .null, .null, .null, .null, .long 0]))] sz)) 8 108 (va_A [(h0, .inr (4, [.int 0, .int 0, .int 0, .int 0, .null, .null, .null, .null, .long 0]))] sz) := by
  refine g_of (by decide) (Nat.le_of_ble_eq_true rfl) ?_
  intro p e s m below meth c ls A hx hb hr hml hown hg hlocks hin hsz hK hP hD hS hA hAe hl
  rw [← hAe]
  replace hown : s.vm.findClass RX4 = some m.cls := hown
  replace hin : meth.name = "<init>" := hin
  replace hl : lv_has ls 1 [(0, .ref h0)] := hl
  refine lv_aload_n hx hb dX4_init_0 rfl (lv_at hl 0 rfl) ?_
  refine W.objInit hx hb hown (hg _ gw_107) (hg _ gw_11) (hg _ gw_12) rfl (by rw [hml]; exact hl.1) rfl dX4_init_1 (Nat.le_of_ble_eq_true rfl) (Nat.le_of_ble_eq_true rfl) ?_
  refine W.eq (g2 := F0 m 4 ls []) rfl ?_
  replace hP : va_P D vwCl ([(h0, .inr (4, [.int 0, .int 0, .int 0, .int 0, .null, .null, .null, .null, .long 0]))] ++ GW [] y (fun _ => 0) gStart) s.heap := hP
  replace hD : va_D A ([(h0, .inr (4, [.int 0, .int 0, .int 0, .int 0, .null, .null, .null, .null, .long 0]))] ++ GW [] y (fun _ => 0) gStart) := hD
  refine lv_aload_n hx hb dX4_init_4 rfl (lv_at hl 0 rfl) ?_
  refine lv_iconst (v := 1) hx hb dX4_init_5 (by decide) ?_
  refine gm_put (D := D) (ci := 4) (v := .int 1) (ty := .int) (C := RX4) (T := TX4) (N := 9) hx hb hg inlX4 tyX4 tyX4_ok nmX4 hown hK.1 hP hD hS 0 rfl rfl 0 (by decide) tX4_0 (hg _ gw_108) (by decide +kernel) rfl rfl (Nat.le_of_ble_eq_true rfl) dX4_init_6 ?_
  clear hP hD hS
  refine fun H locs (hP : va_P D vwCl (([(h0, .inr (4, [.int 1, .int 0, .int 0, .int 0, .null, .null, .null, .null, .long 0]))] ++ GW [] y (fun _ => 0) gStart)) H) (hD : va_D A (([(h0, .inr (4, [.int 1, .int 0, .int 0, .int 0, .null, .null, .null, .null, .long 0]))] ++ GW [] y (fun _ => 0) gStart))) hS => ?_
  refine lv_aload_n hx hb dX4_init_9 rfl (lv_at hl 0 rfl) ?_
  refine lv_iconst (v := 1) hx hb dX4_init_10 (by decide) ?_
  refine gm_put (D := D) (ci := 4) (v := .int 1) (ty := .int) (C := RX4) (T := TX4) (N := 9) hx hb hg inlX4 tyX4 tyX4_ok nmX4 hown hK.1 hP hD hS 0 rfl rfl 1 (by decide) tX4_1 (hg _ gw_109) (by decide +kernel) rfl rfl (Nat.le_of_ble_eq_true rfl) dX4_init_11 ?_
  clear hP hD hS
  refine fun H locs (hP : va_P D vwCl (([(h0, .inr (4, [.int 1, .int 1, .int 0, .int 0, .null, .null, .null, .null, .long 0]))] ++ GW [] y (fun _ => 0) gStart)) H) (hD : va_D A (([(h0, .inr (4, [.int 1, .int 1, .int 0, .int 0, .null, .null, .null, .null, .long 0]))] ++ GW [] y (fun _ => 0) gStart))) hS => ?_
  refine lv_aload_n hx hb dX4_init_14 rfl (lv_at hl 0 rfl) ?_
  refine va_new (ci := 8) (fs := [.null, .int 0]) (C := RX8) (T := TX8) (N := 2) hx hb hg inlX8 tyX8 tyX8_ok hown (hg _ gw_110) (hg _ gw_47) (hg _ gw_48) hK.1 hP hD hS hA rfl dfX8 (Nat.le_of_ble_eq_true rfl) (Nat.le_of_ble_eq_true rfl) dX4_init_15 ?_
  clear hP hD hS
  intro q1 H hP hD hS
  refine lv_dup hx hb dX4_init_18 rfl ?_
  refine lv_bipush (v := 60) hx hb dX4_init_19 (by decide +kernel) ?_
  refine g_avI (va_runI (As := [.int 60]) (rest := [.ref q1, .ref h0]) ⟨hx, hb, hml, hown, hg⟩ (kc_Row l D y aS H.size q1 110 60 60 gk_110 rfl (by decide) (by decide +kernel) (by decide)) (cwI 1 hg ggI_RX4_20_X8_init rfl rfl rfl (hg _ gw_48) (hg _ gw_115) (hg _ gw_95) rfl (by decide +kernel) ⟨Nat.le_of_ble_eq_true rfl, Nat.le_of_ble_eq_true rfl⟩) (g_preI hK hP hD) rfl rfl hl.1 rfl (lv_room (Nat.le_of_ble_eq_true rfl)) dX4_init_21 ⟨(Nat.le_of_ble_eq_true rfl), (Nat.le_of_ble_eq_true rfl)⟩) hP hD hS hA ?_
  clear hP hD hS
  intro u2 H locs hqu2 hP hD hS
  obtain ⟨ad3, hs4, hm5, heq⟩ := G_merge (y := y) (ad := (fun _ => 0)) (u := u2.1) (σ := gStart) gClL_nil hqu2.2.1 (fun k hk hn => by have b1 := (hqu2.2.2 k).mp hk; have b2 := ((fun k => (⟨fun h => (nomatch h), fun h => absurd h (by omega)⟩ : k ∈ [] ↔ k < 0)) k).mp hn; omega)
  replace hP : va_P D vwCl ([(h0, .inr (4, [.int 1, .int 1, .int 0, .int 0, .null, .null, .null, .null, .long 0]))] ++ GW ([] ++ u2.2) y ad3 gStart) H := by rw [← heq]; exact hP
  replace hD : va_D A ([(h0, .inr (4, [.int 1, .int 1, .int 0, .int 0, .null, .null, .null, .null, .long 0]))] ++ GW ([] ++ u2.2) y ad3 gStart) := by rw [← heq]; exact hD
  clear heq
  have hcad3 : gClL ([] ++ u2.2) := gClL_app gClL_nil hqu2.2.1
  have hMad3 : ∀ k, k ∈ ([] ++ u2.2) ↔ (110 ≤ k ∧ k < 110 + 2) := fun k => List.mem_append.trans (by have b1 := hqu2.2.2 k; have b2 := (fun k => (⟨fun h => (nomatch h), fun h => absurd h (by omega)⟩ : k ∈ [] ↔ k < 0)) k; constructor <;> intro h <;> (first | omega | (rcases h with h | h <;> first | (have := b1.mp h; omega) | (have := b2.mp h; omega)) | (rw [b1, b2]; omega)))
  have hf7 : ad3 110 = q1 := (hm5 110 ((hqu2.2.2 110).mpr (by omega))).trans hqu2.1
  generalize hL0 : ([] ++ u2.2) = Lad3 at hP hD hcad3 hMad3
  clear hL0
  refine gm_putF (D := D) (ci := 4) (v := .ref q1) (ty := .object "Greentrunk$Row") (C := RX4) (T := TX4) (N := 9) hx hb hg inlX4 tyX4 tyX4_ok nmX4 hown hK.1 hP hD hS 0 rfl rfl 4 (by decide) tX4_4 (hg _ gw_111) hin rfl (by decide +kernel) rfl rfl (Nat.le_of_ble_eq_true rfl) dX4_init_24 ?_
  clear hP hD hS
  refine fun H locs (hP : va_P D vwCl (([(h0, .inr (4, [.int 1, .int 1, .int 0, .int 0, .ref q1, .null, .null, .null, .long 0]))] ++ GW Lad3 y ad3 gStart)) H) (hD : va_D A (([(h0, .inr (4, [.int 1, .int 1, .int 0, .int 0, .ref q1, .null, .null, .null, .long 0]))] ++ GW Lad3 y ad3 gStart))) hS => ?_
  refine lv_aload_n hx hb dX4_init_27 rfl (lv_at hl 0 rfl) ?_
  refine va_new (ci := 8) (fs := [.null, .int 0]) (C := RX8) (T := TX8) (N := 2) hx hb hg inlX8 tyX8 tyX8_ok hown (hg _ gw_110) (hg _ gw_47) (hg _ gw_48) hK.1 hP hD hS hA rfl dfX8 (Nat.le_of_ble_eq_true rfl) (Nat.le_of_ble_eq_true rfl) dX4_init_28 ?_
  clear hP hD hS
  intro q8 H hP hD hS
  refine lv_dup hx hb dX4_init_31 rfl ?_
  refine lv_bipush (v := 32) hx hb dX4_init_32 (by decide +kernel) ?_
  refine g_avI (va_runI (As := [.int 32]) (rest := [.ref q8, .ref h0]) ⟨hx, hb, hml, hown, hg⟩ (kc_Row l D y aS H.size q8 112 32 32 gk_112 rfl (by decide) (by decide +kernel) (by decide)) (cwI 1 hg ggI_RX4_20_X8_init rfl rfl rfl (hg _ gw_48) (hg _ gw_115) (hg _ gw_95) rfl (by decide +kernel) ⟨Nat.le_of_ble_eq_true rfl, Nat.le_of_ble_eq_true rfl⟩) (g_preI hK hP hD) rfl rfl hl.1 rfl (lv_room (Nat.le_of_ble_eq_true rfl)) dX4_init_34 ⟨(Nat.le_of_ble_eq_true rfl), (Nat.le_of_ble_eq_true rfl)⟩) hP hD hS hA ?_
  clear hP hD hS
  intro u9 H locs hqu9 hP hD hS
  obtain ⟨ad10, hs11, hm12, heq⟩ := G_merge (y := y) (ad := ad3) (u := u9.1) (σ := gStart) hcad3 hqu9.2.1 (fun k hk hn => by have b1 := (hqu9.2.2 k).mp hk; have b2 := (hMad3 k).mp hn; omega)
  replace hP : va_P D vwCl ([(h0, .inr (4, [.int 1, .int 1, .int 0, .int 0, .ref q1, .null, .null, .null, .long 0]))] ++ GW (Lad3 ++ u9.2) y ad10 gStart) H := by rw [← heq]; exact hP
  replace hD : va_D A ([(h0, .inr (4, [.int 1, .int 1, .int 0, .int 0, .ref q1, .null, .null, .null, .long 0]))] ++ GW (Lad3 ++ u9.2) y ad10 gStart) := by rw [← heq]; exact hD
  clear heq
  have hcad10 : gClL (Lad3 ++ u9.2) := gClL_app hcad3 hqu9.2.1
  have hMad10 : ∀ k, k ∈ (Lad3 ++ u9.2) ↔ ((110 ≤ k ∧ k < 110 + 2) ∨ (112 ≤ k ∧ k < 112 + 2)) := fun k => List.mem_append.trans (by have b1 := hqu9.2.2 k; have b2 := hMad3 k; constructor <;> intro h <;> (first | omega | (rcases h with h | h <;> first | (have := b1.mp h; omega) | (have := b2.mp h; omega)) | (rw [b1, b2]; omega)))
  have hf14 : ad10 110 = q1 := (hs11 110 ((hMad3 110).mpr (by omega))).trans hf7
  have hf15 : ad10 112 = q8 := (hm12 112 ((hqu9.2.2 112).mpr (by omega))).trans hqu9.1
  generalize hL0 : (Lad3 ++ u9.2) = Lad10 at hP hD hcad10 hMad10
  clear hL0
  refine gm_putF (D := D) (ci := 4) (v := .ref q8) (ty := .object "Greentrunk$Row") (C := RX4) (T := TX4) (N := 9) hx hb hg inlX4 tyX4 tyX4_ok nmX4 hown hK.1 hP hD hS 0 rfl rfl 5 (by decide) tX4_5 (hg _ gw_112) hin rfl (by decide +kernel) rfl rfl (Nat.le_of_ble_eq_true rfl) dX4_init_37 ?_
  clear hP hD hS
  refine fun H locs (hP : va_P D vwCl (([(h0, .inr (4, [.int 1, .int 1, .int 0, .int 0, .ref q1, .ref q8, .null, .null, .long 0]))] ++ GW Lad10 y ad10 gStart)) H) (hD : va_D A (([(h0, .inr (4, [.int 1, .int 1, .int 0, .int 0, .ref q1, .ref q8, .null, .null, .long 0]))] ++ GW Lad10 y ad10 gStart))) hS => ?_
  refine lv_aload_n hx hb dX4_init_40 rfl (lv_at hl 0 rfl) ?_
  refine va_new (ci := 8) (fs := [.null, .int 0]) (C := RX8) (T := TX8) (N := 2) hx hb hg inlX8 tyX8 tyX8_ok hown (hg _ gw_110) (hg _ gw_47) (hg _ gw_48) hK.1 hP hD hS hA rfl dfX8 (Nat.le_of_ble_eq_true rfl) (Nat.le_of_ble_eq_true rfl) dX4_init_41 ?_
  clear hP hD hS
  intro q16 H hP hD hS
  refine lv_dup hx hb dX4_init_44 rfl ?_
  refine lv_iconst (v := 4) hx hb dX4_init_45 (by decide) ?_
  refine g_avI (va_runI (As := [.int 4]) (rest := [.ref q16, .ref h0]) ⟨hx, hb, hml, hown, hg⟩ (kc_Row l D y aS H.size q16 114 4 4 gk_114 rfl (by decide) (by decide +kernel) (by decide)) (cwI 1 hg ggI_RX4_20_X8_init rfl rfl rfl (hg _ gw_48) (hg _ gw_115) (hg _ gw_95) rfl (by decide +kernel) ⟨Nat.le_of_ble_eq_true rfl, Nat.le_of_ble_eq_true rfl⟩) (g_preI hK hP hD) rfl rfl hl.1 rfl (lv_room (Nat.le_of_ble_eq_true rfl)) dX4_init_46 ⟨(Nat.le_of_ble_eq_true rfl), (Nat.le_of_ble_eq_true rfl)⟩) hP hD hS hA ?_
  clear hP hD hS
  intro u17 H locs hqu17 hP hD hS
  obtain ⟨ad18, hs19, hm20, heq⟩ := G_merge (y := y) (ad := ad10) (u := u17.1) (σ := gStart) hcad10 hqu17.2.1 (fun k hk hn => by have b1 := (hqu17.2.2 k).mp hk; have b2 := (hMad10 k).mp hn; omega)
  replace hP : va_P D vwCl ([(h0, .inr (4, [.int 1, .int 1, .int 0, .int 0, .ref q1, .ref q8, .null, .null, .long 0]))] ++ GW (Lad10 ++ u17.2) y ad18 gStart) H := by rw [← heq]; exact hP
  replace hD : va_D A ([(h0, .inr (4, [.int 1, .int 1, .int 0, .int 0, .ref q1, .ref q8, .null, .null, .long 0]))] ++ GW (Lad10 ++ u17.2) y ad18 gStart) := by rw [← heq]; exact hD
  clear heq
  have hcad18 : gClL (Lad10 ++ u17.2) := gClL_app hcad10 hqu17.2.1
  have hMad18 : ∀ k, k ∈ (Lad10 ++ u17.2) ↔ (((110 ≤ k ∧ k < 110 + 2) ∨ (112 ≤ k ∧ k < 112 + 2)) ∨ (114 ≤ k ∧ k < 114 + 2)) := fun k => List.mem_append.trans (by have b1 := hqu17.2.2 k; have b2 := hMad10 k; constructor <;> intro h <;> (first | omega | (rcases h with h | h <;> first | (have := b1.mp h; omega) | (have := b2.mp h; omega)) | (rw [b1, b2]; omega)))
  have hf22 : ad18 110 = q1 := (hs19 110 ((hMad10 110).mpr (by omega))).trans hf14
  have hf23 : ad18 112 = q8 := (hs19 112 ((hMad10 112).mpr (by omega))).trans hf15
  have hf24 : ad18 114 = q16 := (hm20 114 ((hqu17.2.2 114).mpr (by omega))).trans hqu17.1
  generalize hL0 : (Lad10 ++ u17.2) = Lad18 at hP hD hcad18 hMad18
  clear hL0
  refine gm_putF (D := D) (ci := 4) (v := .ref q16) (ty := .object "Greentrunk$Row") (C := RX4) (T := TX4) (N := 9) hx hb hg inlX4 tyX4 tyX4_ok nmX4 hown hK.1 hP hD hS 0 rfl rfl 6 (by decide) tX4_6 (hg _ gw_113) hin rfl (by decide +kernel) rfl rfl (Nat.le_of_ble_eq_true rfl) dX4_init_49 ?_
  clear hP hD hS
  refine fun H locs (hP : va_P D vwCl (([(h0, .inr (4, [.int 1, .int 1, .int 0, .int 0, .ref q1, .ref q8, .ref q16, .null, .long 0]))] ++ GW Lad18 y ad18 gStart)) H) (hD : va_D A (([(h0, .inr (4, [.int 1, .int 1, .int 0, .int 0, .ref q1, .ref q8, .ref q16, .null, .long 0]))] ++ GW Lad18 y ad18 gStart))) hS => ?_
  refine lv_aload_n hx hb dX4_init_52 rfl (lv_at hl 0 rfl) ?_
  refine va_new (ci := 8) (fs := [.null, .int 0]) (C := RX8) (T := TX8) (N := 2) hx hb hg inlX8 tyX8 tyX8_ok hown (hg _ gw_110) (hg _ gw_47) (hg _ gw_48) hK.1 hP hD hS hA rfl dfX8 (Nat.le_of_ble_eq_true rfl) (Nat.le_of_ble_eq_true rfl) dX4_init_53 ?_
  clear hP hD hS
  intro q25 H hP hD hS
  refine lv_dup hx hb dX4_init_56 rfl ?_
  refine lv_iconst (v := 4) hx hb dX4_init_57 (by decide) ?_
  refine g_avI (va_runI (As := [.int 4]) (rest := [.ref q25, .ref h0]) ⟨hx, hb, hml, hown, hg⟩ (kc_Row l D y aS H.size q25 116 4 4 gk_116 rfl (by decide) (by decide +kernel) (by decide)) (cwI 1 hg ggI_RX4_20_X8_init rfl rfl rfl (hg _ gw_48) (hg _ gw_115) (hg _ gw_95) rfl (by decide +kernel) ⟨Nat.le_of_ble_eq_true rfl, Nat.le_of_ble_eq_true rfl⟩) (g_preI hK hP hD) rfl rfl hl.1 rfl (lv_room (Nat.le_of_ble_eq_true rfl)) dX4_init_58 ⟨(Nat.le_of_ble_eq_true rfl), (Nat.le_of_ble_eq_true rfl)⟩) hP hD hS hA ?_
  clear hP hD hS
  intro u26 H locs hqu26 hP hD hS
  obtain ⟨ad27, hs28, hm29, heq⟩ := G_merge (y := y) (ad := ad18) (u := u26.1) (σ := gStart) hcad18 hqu26.2.1 (fun k hk hn => by have b1 := (hqu26.2.2 k).mp hk; have b2 := (hMad18 k).mp hn; omega)
  replace hP : va_P D vwCl ([(h0, .inr (4, [.int 1, .int 1, .int 0, .int 0, .ref q1, .ref q8, .ref q16, .null, .long 0]))] ++ GW (Lad18 ++ u26.2) y ad27 gStart) H := by rw [← heq]; exact hP
  replace hD : va_D A ([(h0, .inr (4, [.int 1, .int 1, .int 0, .int 0, .ref q1, .ref q8, .ref q16, .null, .long 0]))] ++ GW (Lad18 ++ u26.2) y ad27 gStart) := by rw [← heq]; exact hD
  clear heq
  have hcad27 : gClL (Lad18 ++ u26.2) := gClL_app hcad18 hqu26.2.1
  have hMad27 : ∀ k, k ∈ (Lad18 ++ u26.2) ↔ ((((110 ≤ k ∧ k < 110 + 2) ∨ (112 ≤ k ∧ k < 112 + 2)) ∨ (114 ≤ k ∧ k < 114 + 2)) ∨ (116 ≤ k ∧ k < 116 + 2)) := fun k => List.mem_append.trans (by have b1 := hqu26.2.2 k; have b2 := hMad18 k; constructor <;> intro h <;> (first | omega | (rcases h with h | h <;> first | (have := b1.mp h; omega) | (have := b2.mp h; omega)) | (rw [b1, b2]; omega)))
  have hf31 : ad27 110 = q1 := (hs28 110 ((hMad18 110).mpr (by omega))).trans hf22
  have hf32 : ad27 112 = q8 := (hs28 112 ((hMad18 112).mpr (by omega))).trans hf23
  have hf33 : ad27 114 = q16 := (hs28 114 ((hMad18 114).mpr (by omega))).trans hf24
  have hf34 : ad27 116 = q25 := (hm29 116 ((hqu26.2.2 116).mpr (by omega))).trans hqu26.1
  generalize hL0 : (Lad18 ++ u26.2) = Lad27 at hP hD hcad27 hMad27
  clear hL0
  refine gm_putF (D := D) (ci := 4) (v := .ref q25) (ty := .object "Greentrunk$Row") (C := RX4) (T := TX4) (N := 9) hx hb hg inlX4 tyX4 tyX4_ok nmX4 hown hK.1 hP hD hS 0 rfl rfl 7 (by decide) tX4_7 (hg _ gw_114) hin rfl (by decide +kernel) rfl rfl (Nat.le_of_ble_eq_true rfl) dX4_init_61 ?_
  clear hP hD hS
  refine fun H locs (hP : va_P D vwCl (([(h0, .inr (4, [.int 1, .int 1, .int 0, .int 0, .ref q1, .ref q8, .ref q16, .ref q25, .long 0]))] ++ GW Lad27 y ad27 gStart)) H) (hD : va_D A (([(h0, .inr (4, [.int 1, .int 1, .int 0, .int 0, .ref q1, .ref q8, .ref q16, .ref q25, .long 0]))] ++ GW Lad27 y ad27 gStart))) hS => ?_
  have hnK : 109 ∉ Lad27 := fun h => by have := (hMad27 109).mp h; omega
  have hr4 : (fun k => if k = 109 then h0 else ad27 k) 110 = q1 := (if_neg (by omega)).trans hf31
  have hr5 : (fun k => if k = 109 then h0 else ad27 k) 112 = q8 := (if_neg (by omega)).trans hf32
  have hr6 : (fun k => if k = 109 then h0 else ad27 k) 114 = q16 := (if_neg (by omega)).trans hf33
  have hr7 : (fun k => if k = 109 then h0 else ad27 k) 116 = q25 := (if_neg (by omega)).trans hf34
  have hen : gW1 y (fun k => if k = 109 then h0 else ad27 k) gStart 109 = (h0, .inr (4, [.int 1, .int 1, .int 0, .int 0, .ref q1, .ref q8, .ref q16, .ref q25, .long 0])) := by
    rw [gW_obj gk_109 (by decide)]
    show ((fun k => if k = 109 then h0 else ad27 k) 109, Sum.inr (4, [Value.int ((gStart.1 109) 0), Value.int ((gStart.1 109) 1), Value.int ((gStart.1 109) 2), Value.int ((gStart.1 109) 3), Value.ref ((fun k => if k = 109 then h0 else ad27 k) 110), Value.ref ((fun k => if k = 109 then h0 else ad27 k) 112), Value.ref ((fun k => if k = 109 then h0 else ad27 k) 114), Value.ref ((fun k => if k = 109 then h0 else ad27 k) 116), Value.long ((gStart.2.1 109) 8)])) = _
    rw [show (fun k => if k = 109 then h0 else ad27 k) 109 = h0 from by simp, hr4, hr5, hr6, hr7]
    all_goals rfl
  have hw := G_abs (y := y) (ad := ad27) (σ := gStart) (addr := h0) (en := .inr (4, [.int 1, .int 1, .int 0, .int 0, .ref q1, .ref q8, .ref q16, .ref q25, .long 0])) hcad27 hnK hen
  have hcN : gClL (109 :: Lad27) := gClL_cons hcad27 (fun y ad ad' σ h h2 => by
    rw [gW_obj gk_109 (by decide), gW_obj gk_109 (by decide), h]
    show (_, Sum.inr (4, [Value.int ((σ.1 109) 0), Value.int ((σ.1 109) 1), Value.int ((σ.1 109) 2), Value.int ((σ.1 109) 3), Value.ref (ad 110), Value.ref (ad 112), Value.ref (ad 114), Value.ref (ad 116), Value.long ((σ.2.1 109) 8)])) = (_, Sum.inr (4, [Value.int ((σ.1 109) 0), Value.int ((σ.1 109) 1), Value.int ((σ.1 109) 2), Value.int ((σ.1 109) 3), Value.ref (ad' 110), Value.ref (ad' 112), Value.ref (ad' 114), Value.ref (ad' 116), Value.long ((σ.2.1 109) 8)]))
    rw [h2 110 ((hMad27 110).mpr (by omega)), h2 112 ((hMad27 112).mpr (by omega)), h2 114 ((hMad27 114).mpr (by omega)), h2 116 ((hMad27 116).mpr (by omega))])
  replace hP : va_P D vwCl (GW (109 :: Lad27) y (fun k => if k = 109 then h0 else ad27 k) gStart) H := by rw [← hw]; exact hP
  replace hD : va_D A (GW (109 :: Lad27) y (fun k => if k = 109 then h0 else ad27 k) gStart) := by rw [← hw]; exact hD
  exact g_vret hx hb hr hlocks ((fun k => if k = 109 then h0 else ad27 k), 109 :: Lad27) hP hD hS ⟨by simp, hcN, fun k => List.mem_cons.trans (by rw [hMad27 k]; omega)⟩ (Nat.le_of_ble_eq_true rfl) (Nat.le_of_ble_eq_true rfl) dX4_init_64
theorem ggI_RX0_11_X8_init : GoodIn wsL_law ([] ++ (Cond.code yX8_init cX8_init 2 none :: wsL_law)) := g_gi (fun _ h => h) gW_good (fun _ h => nomatch h) ⟨gw_96, rfl⟩
set_option maxRecDepth 100000 in
set_option maxHeartbeats 400000 in
theorem kc_Beginnings (l : Launch) (D : va_G) (y : Nat → ClassId) (aS : Nat → Nat) (sz : Nat) (h0 : Nat) : Met l yX0_init (Cond.code yX0_init cX0_init 1 none :: wsL_law) ({ frames := 2, cells := 6, slots := 33, locals := 33 } : Room) (va_Pc [.ref h0] (gI D y aS [(h0, .inr (0, [.null, .null, .null, .int 0, .int 0, .int 0, .int 0]))] sz)) (va_Qv (fun (u : (Nat → Nat) × List Nat) => u.1 118 = h0 ∧ gClL u.2 ∧ ∀ k, k ∈ u.2 ↔ (118 ≤ k ∧ k < 125)) (fun u => gO D (va_A [(h0, .inr (0, [.null, .null, .null, .int 0, .int 0, .int 0, .int 0]))] sz) (GW u.2 y u.1 gStart)) (va_A [(h0, .inr (0, [.null, .null, .null, .int 0, .int 0, .int 0, .int 0]))] sz)) 6 33 (va_A [(h0, .inr (0, [.null, .null, .null, .int 0, .int 0, .int 0, .int 0]))] sz) := by
  refine g_of (by decide) (Nat.le_of_ble_eq_true rfl) ?_
  intro p e s m below meth c ls A hx hb hr hml hown hg hlocks hin hsz hK hP hD hS hA hAe hl
  rw [← hAe]
  replace hown : s.vm.findClass RX0 = some m.cls := hown
  replace hin : meth.name = "<init>" := hin
  replace hl : lv_has ls 1 [(0, .ref h0)] := hl
  refine lv_aload_n hx hb dX0_init_0 rfl (lv_at hl 0 rfl) ?_
  refine W.objInit hx hb hown (hg _ gw_118) (hg _ gw_11) (hg _ gw_12) rfl (by rw [hml]; exact hl.1) rfl dX0_init_1 (Nat.le_of_ble_eq_true rfl) (Nat.le_of_ble_eq_true rfl) ?_
  refine W.eq (g2 := F0 m 4 ls []) rfl ?_
  replace hP : va_P D vwCl ([(h0, .inr (0, [.null, .null, .null, .int 0, .int 0, .int 0, .int 0]))] ++ GW [] y (fun _ => 0) gStart) s.heap := hP
  replace hD : va_D A ([(h0, .inr (0, [.null, .null, .null, .int 0, .int 0, .int 0, .int 0]))] ++ GW [] y (fun _ => 0) gStart) := hD
  refine lv_aload_n hx hb dX0_init_4 rfl (lv_at hl 0 rfl) ?_
  refine va_new (ci := 8) (fs := [.null, .int 0]) (C := RX8) (T := TX8) (N := 2) hx hb hg inlX8 tyX8 tyX8_ok hown (hg _ gw_119) (hg _ gw_47) (hg _ gw_48) hK.1 hP hD hS hA rfl dfX8 (Nat.le_of_ble_eq_true rfl) (Nat.le_of_ble_eq_true rfl) dX0_init_5 ?_
  clear hP hD hS
  intro q1 H hP hD hS
  refine lv_dup hx hb dX0_init_8 rfl ?_
  refine lv_bipush (v := 9) hx hb dX0_init_9 (by decide +kernel) ?_
  refine g_avI (va_runI (As := [.int 9]) (rest := [.ref q1, .ref h0]) ⟨hx, hb, hml, hown, hg⟩ (kc_Row l D y aS H.size q1 119 9 9 gk_119 rfl (by decide) (by decide +kernel) (by decide)) (cwI 1 hg ggI_RX0_11_X8_init rfl rfl rfl (hg _ gw_48) (hg _ gw_123) (hg _ gw_95) rfl (by decide +kernel) ⟨Nat.le_of_ble_eq_true rfl, Nat.le_of_ble_eq_true rfl⟩) (g_preI hK hP hD) rfl rfl hl.1 rfl (lv_room (Nat.le_of_ble_eq_true rfl)) dX0_init_11 ⟨(Nat.le_of_ble_eq_true rfl), (Nat.le_of_ble_eq_true rfl)⟩) hP hD hS hA ?_
  clear hP hD hS
  intro u2 H locs hqu2 hP hD hS
  obtain ⟨ad3, hs4, hm5, heq⟩ := G_merge (y := y) (ad := (fun _ => 0)) (u := u2.1) (σ := gStart) gClL_nil hqu2.2.1 (fun k hk hn => by have b1 := (hqu2.2.2 k).mp hk; have b2 := ((fun k => (⟨fun h => (nomatch h), fun h => absurd h (by omega)⟩ : k ∈ [] ↔ k < 0)) k).mp hn; omega)
  replace hP : va_P D vwCl ([(h0, .inr (0, [.null, .null, .null, .int 0, .int 0, .int 0, .int 0]))] ++ GW ([] ++ u2.2) y ad3 gStart) H := by rw [← heq]; exact hP
  replace hD : va_D A ([(h0, .inr (0, [.null, .null, .null, .int 0, .int 0, .int 0, .int 0]))] ++ GW ([] ++ u2.2) y ad3 gStart) := by rw [← heq]; exact hD
  clear heq
  have hcad3 : gClL ([] ++ u2.2) := gClL_app gClL_nil hqu2.2.1
  have hMad3 : ∀ k, k ∈ ([] ++ u2.2) ↔ (119 ≤ k ∧ k < 119 + 2) := fun k => List.mem_append.trans (by have b1 := hqu2.2.2 k; have b2 := (fun k => (⟨fun h => (nomatch h), fun h => absurd h (by omega)⟩ : k ∈ [] ↔ k < 0)) k; constructor <;> intro h <;> (first | omega | (rcases h with h | h <;> first | (have := b1.mp h; omega) | (have := b2.mp h; omega)) | (rw [b1, b2]; omega)))
  have hf7 : ad3 119 = q1 := (hm5 119 ((hqu2.2.2 119).mpr (by omega))).trans hqu2.1
  generalize hL0 : ([] ++ u2.2) = Lad3 at hP hD hcad3 hMad3
  clear hL0
  refine gm_putF (D := D) (ci := 0) (v := .ref q1) (ty := .object "Greentrunk$Row") (C := RX0) (T := TX0) (N := 7) hx hb hg inlX0 tyX0 tyX0_ok nmX0 hown hK.1 hP hD hS 0 rfl rfl 0 (by decide) tX0_0 (hg _ gw_120) hin rfl (by decide +kernel) rfl rfl (Nat.le_of_ble_eq_true rfl) dX0_init_14 ?_
  clear hP hD hS
  refine fun H locs (hP : va_P D vwCl (([(h0, .inr (0, [.ref q1, .null, .null, .int 0, .int 0, .int 0, .int 0]))] ++ GW Lad3 y ad3 gStart)) H) (hD : va_D A (([(h0, .inr (0, [.ref q1, .null, .null, .int 0, .int 0, .int 0, .int 0]))] ++ GW Lad3 y ad3 gStart))) hS => ?_
  refine lv_aload_n hx hb dX0_init_17 rfl (lv_at hl 0 rfl) ?_
  refine va_new (ci := 8) (fs := [.null, .int 0]) (C := RX8) (T := TX8) (N := 2) hx hb hg inlX8 tyX8 tyX8_ok hown (hg _ gw_119) (hg _ gw_47) (hg _ gw_48) hK.1 hP hD hS hA rfl dfX8 (Nat.le_of_ble_eq_true rfl) (Nat.le_of_ble_eq_true rfl) dX0_init_18 ?_
  clear hP hD hS
  intro q8 H hP hD hS
  refine lv_dup hx hb dX0_init_21 rfl ?_
  refine lv_bipush (v := 9) hx hb dX0_init_22 (by decide +kernel) ?_
  refine g_avI (va_runI (As := [.int 9]) (rest := [.ref q8, .ref h0]) ⟨hx, hb, hml, hown, hg⟩ (kc_Row l D y aS H.size q8 121 9 9 gk_121 rfl (by decide) (by decide +kernel) (by decide)) (cwI 1 hg ggI_RX0_11_X8_init rfl rfl rfl (hg _ gw_48) (hg _ gw_123) (hg _ gw_95) rfl (by decide +kernel) ⟨Nat.le_of_ble_eq_true rfl, Nat.le_of_ble_eq_true rfl⟩) (g_preI hK hP hD) rfl rfl hl.1 rfl (lv_room (Nat.le_of_ble_eq_true rfl)) dX0_init_24 ⟨(Nat.le_of_ble_eq_true rfl), (Nat.le_of_ble_eq_true rfl)⟩) hP hD hS hA ?_
  clear hP hD hS
  intro u9 H locs hqu9 hP hD hS
  obtain ⟨ad10, hs11, hm12, heq⟩ := G_merge (y := y) (ad := ad3) (u := u9.1) (σ := gStart) hcad3 hqu9.2.1 (fun k hk hn => by have b1 := (hqu9.2.2 k).mp hk; have b2 := (hMad3 k).mp hn; omega)
  replace hP : va_P D vwCl ([(h0, .inr (0, [.ref q1, .null, .null, .int 0, .int 0, .int 0, .int 0]))] ++ GW (Lad3 ++ u9.2) y ad10 gStart) H := by rw [← heq]; exact hP
  replace hD : va_D A ([(h0, .inr (0, [.ref q1, .null, .null, .int 0, .int 0, .int 0, .int 0]))] ++ GW (Lad3 ++ u9.2) y ad10 gStart) := by rw [← heq]; exact hD
  clear heq
  have hcad10 : gClL (Lad3 ++ u9.2) := gClL_app hcad3 hqu9.2.1
  have hMad10 : ∀ k, k ∈ (Lad3 ++ u9.2) ↔ ((119 ≤ k ∧ k < 119 + 2) ∨ (121 ≤ k ∧ k < 121 + 2)) := fun k => List.mem_append.trans (by have b1 := hqu9.2.2 k; have b2 := hMad3 k; constructor <;> intro h <;> (first | omega | (rcases h with h | h <;> first | (have := b1.mp h; omega) | (have := b2.mp h; omega)) | (rw [b1, b2]; omega)))
  have hf14 : ad10 119 = q1 := (hs11 119 ((hMad3 119).mpr (by omega))).trans hf7
  have hf15 : ad10 121 = q8 := (hm12 121 ((hqu9.2.2 121).mpr (by omega))).trans hqu9.1
  generalize hL0 : (Lad3 ++ u9.2) = Lad10 at hP hD hcad10 hMad10
  clear hL0
  refine gm_putF (D := D) (ci := 0) (v := .ref q8) (ty := .object "Greentrunk$Row") (C := RX0) (T := TX0) (N := 7) hx hb hg inlX0 tyX0 tyX0_ok nmX0 hown hK.1 hP hD hS 0 rfl rfl 1 (by decide) tX0_1 (hg _ gw_121) hin rfl (by decide +kernel) rfl rfl (Nat.le_of_ble_eq_true rfl) dX0_init_27 ?_
  clear hP hD hS
  refine fun H locs (hP : va_P D vwCl (([(h0, .inr (0, [.ref q1, .ref q8, .null, .int 0, .int 0, .int 0, .int 0]))] ++ GW Lad10 y ad10 gStart)) H) (hD : va_D A (([(h0, .inr (0, [.ref q1, .ref q8, .null, .int 0, .int 0, .int 0, .int 0]))] ++ GW Lad10 y ad10 gStart))) hS => ?_
  refine lv_aload_n hx hb dX0_init_30 rfl (lv_at hl 0 rfl) ?_
  refine va_new (ci := 8) (fs := [.null, .int 0]) (C := RX8) (T := TX8) (N := 2) hx hb hg inlX8 tyX8 tyX8_ok hown (hg _ gw_119) (hg _ gw_47) (hg _ gw_48) hK.1 hP hD hS hA rfl dfX8 (Nat.le_of_ble_eq_true rfl) (Nat.le_of_ble_eq_true rfl) dX0_init_31 ?_
  clear hP hD hS
  intro q16 H hP hD hS
  refine lv_dup hx hb dX0_init_34 rfl ?_
  refine lv_bipush (v := 9) hx hb dX0_init_35 (by decide +kernel) ?_
  refine g_avI (va_runI (As := [.int 9]) (rest := [.ref q16, .ref h0]) ⟨hx, hb, hml, hown, hg⟩ (kc_Row l D y aS H.size q16 123 9 9 gk_123 rfl (by decide) (by decide +kernel) (by decide)) (cwI 1 hg ggI_RX0_11_X8_init rfl rfl rfl (hg _ gw_48) (hg _ gw_123) (hg _ gw_95) rfl (by decide +kernel) ⟨Nat.le_of_ble_eq_true rfl, Nat.le_of_ble_eq_true rfl⟩) (g_preI hK hP hD) rfl rfl hl.1 rfl (lv_room (Nat.le_of_ble_eq_true rfl)) dX0_init_37 ⟨(Nat.le_of_ble_eq_true rfl), (Nat.le_of_ble_eq_true rfl)⟩) hP hD hS hA ?_
  clear hP hD hS
  intro u17 H locs hqu17 hP hD hS
  obtain ⟨ad18, hs19, hm20, heq⟩ := G_merge (y := y) (ad := ad10) (u := u17.1) (σ := gStart) hcad10 hqu17.2.1 (fun k hk hn => by have b1 := (hqu17.2.2 k).mp hk; have b2 := (hMad10 k).mp hn; omega)
  replace hP : va_P D vwCl ([(h0, .inr (0, [.ref q1, .ref q8, .null, .int 0, .int 0, .int 0, .int 0]))] ++ GW (Lad10 ++ u17.2) y ad18 gStart) H := by rw [← heq]; exact hP
  replace hD : va_D A ([(h0, .inr (0, [.ref q1, .ref q8, .null, .int 0, .int 0, .int 0, .int 0]))] ++ GW (Lad10 ++ u17.2) y ad18 gStart) := by rw [← heq]; exact hD
  clear heq
  have hcad18 : gClL (Lad10 ++ u17.2) := gClL_app hcad10 hqu17.2.1
  have hMad18 : ∀ k, k ∈ (Lad10 ++ u17.2) ↔ (((119 ≤ k ∧ k < 119 + 2) ∨ (121 ≤ k ∧ k < 121 + 2)) ∨ (123 ≤ k ∧ k < 123 + 2)) := fun k => List.mem_append.trans (by have b1 := hqu17.2.2 k; have b2 := hMad10 k; constructor <;> intro h <;> (first | omega | (rcases h with h | h <;> first | (have := b1.mp h; omega) | (have := b2.mp h; omega)) | (rw [b1, b2]; omega)))
  have hf22 : ad18 119 = q1 := (hs19 119 ((hMad10 119).mpr (by omega))).trans hf14
  have hf23 : ad18 121 = q8 := (hs19 121 ((hMad10 121).mpr (by omega))).trans hf15
  have hf24 : ad18 123 = q16 := (hm20 123 ((hqu17.2.2 123).mpr (by omega))).trans hqu17.1
  generalize hL0 : (Lad10 ++ u17.2) = Lad18 at hP hD hcad18 hMad18
  clear hL0
  refine gm_putF (D := D) (ci := 0) (v := .ref q16) (ty := .object "Greentrunk$Row") (C := RX0) (T := TX0) (N := 7) hx hb hg inlX0 tyX0 tyX0_ok nmX0 hown hK.1 hP hD hS 0 rfl rfl 2 (by decide) tX0_2 (hg _ gw_122) hin rfl (by decide +kernel) rfl rfl (Nat.le_of_ble_eq_true rfl) dX0_init_40 ?_
  clear hP hD hS
  refine fun H locs (hP : va_P D vwCl (([(h0, .inr (0, [.ref q1, .ref q8, .ref q16, .int 0, .int 0, .int 0, .int 0]))] ++ GW Lad18 y ad18 gStart)) H) (hD : va_D A (([(h0, .inr (0, [.ref q1, .ref q8, .ref q16, .int 0, .int 0, .int 0, .int 0]))] ++ GW Lad18 y ad18 gStart))) hS => ?_
  have hnK : 118 ∉ Lad18 := fun h => by have := (hMad18 118).mp h; omega
  have hr0 : (fun k => if k = 118 then h0 else ad18 k) 119 = q1 := (if_neg (by omega)).trans hf22
  have hr1 : (fun k => if k = 118 then h0 else ad18 k) 121 = q8 := (if_neg (by omega)).trans hf23
  have hr2 : (fun k => if k = 118 then h0 else ad18 k) 123 = q16 := (if_neg (by omega)).trans hf24
  have hen : gW1 y (fun k => if k = 118 then h0 else ad18 k) gStart 118 = (h0, .inr (0, [.ref q1, .ref q8, .ref q16, .int 0, .int 0, .int 0, .int 0])) := by
    rw [gW_obj gk_118 (by decide)]
    show ((fun k => if k = 118 then h0 else ad18 k) 118, Sum.inr (0, [Value.ref ((fun k => if k = 118 then h0 else ad18 k) 119), Value.ref ((fun k => if k = 118 then h0 else ad18 k) 121), Value.ref ((fun k => if k = 118 then h0 else ad18 k) 123), Value.int ((gStart.1 118) 3), Value.int ((gStart.1 118) 4), Value.int ((gStart.1 118) 5), Value.int ((gStart.1 118) 6)])) = _
    rw [show (fun k => if k = 118 then h0 else ad18 k) 118 = h0 from by simp, hr0, hr1, hr2]
    all_goals rfl
  have hw := G_abs (y := y) (ad := ad18) (σ := gStart) (addr := h0) (en := .inr (0, [.ref q1, .ref q8, .ref q16, .int 0, .int 0, .int 0, .int 0])) hcad18 hnK hen
  have hcN : gClL (118 :: Lad18) := gClL_cons hcad18 (fun y ad ad' σ h h2 => by
    rw [gW_obj gk_118 (by decide), gW_obj gk_118 (by decide), h]
    show (_, Sum.inr (0, [Value.ref (ad 119), Value.ref (ad 121), Value.ref (ad 123), Value.int ((σ.1 118) 3), Value.int ((σ.1 118) 4), Value.int ((σ.1 118) 5), Value.int ((σ.1 118) 6)])) = (_, Sum.inr (0, [Value.ref (ad' 119), Value.ref (ad' 121), Value.ref (ad' 123), Value.int ((σ.1 118) 3), Value.int ((σ.1 118) 4), Value.int ((σ.1 118) 5), Value.int ((σ.1 118) 6)]))
    rw [h2 119 ((hMad18 119).mpr (by omega)), h2 121 ((hMad18 121).mpr (by omega)), h2 123 ((hMad18 123).mpr (by omega))])
  replace hP : va_P D vwCl (GW (118 :: Lad18) y (fun k => if k = 118 then h0 else ad18 k) gStart) H := by rw [← hw]; exact hP
  replace hD : va_D A (GW (118 :: Lad18) y (fun k => if k = 118 then h0 else ad18 k) gStart) := by rw [← hw]; exact hD
  exact g_vret hx hb hr hlocks ((fun k => if k = 118 then h0 else ad18 k), 118 :: Lad18) hP hD hS ⟨by simp, hcN, fun k => List.mem_cons.trans (by rw [hMad18 k]; omega)⟩ (Nat.le_of_ble_eq_true rfl) (Nat.le_of_ble_eq_true rfl) dX0_init_43
theorem ggI_RX10_13_X8_init : GoodIn wsL_law ([] ++ (Cond.code yX8_init cX8_init 2 none :: wsL_law)) := g_gi (fun _ h => h) gW_good (fun _ h => nomatch h) ⟨gw_96, rfl⟩
set_option maxRecDepth 100000 in
set_option maxHeartbeats 400000 in
theorem kc_Wanted (l : Launch) (D : va_G) (y : Nat → ClassId) (aS : Nat → Nat) (sz : Nat) (h0 : Nat) : Met l yX10_init (Cond.code yX10_init cX10_init 1 none :: wsL_law) ({ frames := 2, cells := 8, slots := 208, locals := 33 } : Room) (va_Pc [.ref h0] (gI D y aS [(h0, .inr (10, [.null, .null, .null, .null]))] sz)) (va_Qv (fun (u : (Nat → Nat) × List Nat) => u.1 125 = h0 ∧ gClL u.2 ∧ ∀ k, k ∈ u.2 ↔ (125 ≤ k ∧ k < 134)) (fun u => gO D (va_A [(h0, .inr (10, [.null, .null, .null, .null]))] sz) (GW u.2 y u.1 gStart)) (va_A [(h0, .inr (10, [.null, .null, .null, .null]))] sz)) 8 208 (va_A [(h0, .inr (10, [.null, .null, .null, .null]))] sz) := by
  refine g_of (by decide) (Nat.le_of_ble_eq_true rfl) ?_
  intro p e s m below meth c ls A hx hb hr hml hown hg hlocks hin hsz hK hP hD hS hA hAe hl
  rw [← hAe]
  replace hown : s.vm.findClass RX10 = some m.cls := hown
  replace hin : meth.name = "<init>" := hin
  replace hl : lv_has ls 1 [(0, .ref h0)] := hl
  refine lv_aload_n hx hb dX10_init_0 rfl (lv_at hl 0 rfl) ?_
  refine W.objInit hx hb hown (hg _ gw_126) (hg _ gw_11) (hg _ gw_12) rfl (by rw [hml]; exact hl.1) rfl dX10_init_1 (Nat.le_of_ble_eq_true rfl) (Nat.le_of_ble_eq_true rfl) ?_
  refine W.eq (g2 := F0 m 4 ls []) rfl ?_
  replace hP : va_P D vwCl ([(h0, .inr (10, [.null, .null, .null, .null]))] ++ GW [] y (fun _ => 0) gStart) s.heap := hP
  replace hD : va_D A ([(h0, .inr (10, [.null, .null, .null, .null]))] ++ GW [] y (fun _ => 0) gStart) := hD
  refine lv_aload_n hx hb dX10_init_4 rfl (lv_at hl 0 rfl) ?_
  refine va_new (ci := 8) (fs := [.null, .int 0]) (C := RX8) (T := TX8) (N := 2) hx hb hg inlX8 tyX8 tyX8_ok hown (hg _ gw_127) (hg _ gw_47) (hg _ gw_48) hK.1 hP hD hS hA rfl dfX8 (Nat.le_of_ble_eq_true rfl) (Nat.le_of_ble_eq_true rfl) dX10_init_5 ?_
  clear hP hD hS
  intro q1 H hP hD hS
  refine lv_dup hx hb dX10_init_8 rfl ?_
  refine lv_bipush (v := 50) hx hb dX10_init_9 (by decide +kernel) ?_
  refine g_avI (va_runI (As := [.int 50]) (rest := [.ref q1, .ref h0]) ⟨hx, hb, hml, hown, hg⟩ (kc_Row l D y aS H.size q1 126 50 50 gk_126 rfl (by decide) (by decide +kernel) (by decide)) (cwI 1 hg ggI_RX10_13_X8_init rfl rfl rfl (hg _ gw_48) (hg _ gw_132) (hg _ gw_95) rfl (by decide +kernel) ⟨Nat.le_of_ble_eq_true rfl, Nat.le_of_ble_eq_true rfl⟩) (g_preI hK hP hD) rfl rfl hl.1 rfl (lv_room (Nat.le_of_ble_eq_true rfl)) dX10_init_11 ⟨(Nat.le_of_ble_eq_true rfl), (Nat.le_of_ble_eq_true rfl)⟩) hP hD hS hA ?_
  clear hP hD hS
  intro u2 H locs hqu2 hP hD hS
  obtain ⟨ad3, hs4, hm5, heq⟩ := G_merge (y := y) (ad := (fun _ => 0)) (u := u2.1) (σ := gStart) gClL_nil hqu2.2.1 (fun k hk hn => by have b1 := (hqu2.2.2 k).mp hk; have b2 := ((fun k => (⟨fun h => (nomatch h), fun h => absurd h (by omega)⟩ : k ∈ [] ↔ k < 0)) k).mp hn; omega)
  replace hP : va_P D vwCl ([(h0, .inr (10, [.null, .null, .null, .null]))] ++ GW ([] ++ u2.2) y ad3 gStart) H := by rw [← heq]; exact hP
  replace hD : va_D A ([(h0, .inr (10, [.null, .null, .null, .null]))] ++ GW ([] ++ u2.2) y ad3 gStart) := by rw [← heq]; exact hD
  clear heq
  have hcad3 : gClL ([] ++ u2.2) := gClL_app gClL_nil hqu2.2.1
  have hMad3 : ∀ k, k ∈ ([] ++ u2.2) ↔ (126 ≤ k ∧ k < 126 + 2) := fun k => List.mem_append.trans (by have b1 := hqu2.2.2 k; have b2 := (fun k => (⟨fun h => (nomatch h), fun h => absurd h (by omega)⟩ : k ∈ [] ↔ k < 0)) k; constructor <;> intro h <;> (first | omega | (rcases h with h | h <;> first | (have := b1.mp h; omega) | (have := b2.mp h; omega)) | (rw [b1, b2]; omega)))
  have hf7 : ad3 126 = q1 := (hm5 126 ((hqu2.2.2 126).mpr (by omega))).trans hqu2.1
  generalize hL0 : ([] ++ u2.2) = Lad3 at hP hD hcad3 hMad3
  clear hL0
  refine gm_putF (D := D) (ci := 10) (v := .ref q1) (ty := .object "Greentrunk$Row") (C := RX10) (T := TX10) (N := 4) hx hb hg inlX10 tyX10 tyX10_ok nmX10 hown hK.1 hP hD hS 0 rfl rfl 0 (by decide) tX10_0 (hg _ gw_128) hin rfl (by decide +kernel) rfl rfl (Nat.le_of_ble_eq_true rfl) dX10_init_14 ?_
  clear hP hD hS
  refine fun H locs (hP : va_P D vwCl (([(h0, .inr (10, [.ref q1, .null, .null, .null]))] ++ GW Lad3 y ad3 gStart)) H) (hD : va_D A (([(h0, .inr (10, [.ref q1, .null, .null, .null]))] ++ GW Lad3 y ad3 gStart))) hS => ?_
  refine lv_aload_n hx hb dX10_init_17 rfl (lv_at hl 0 rfl) ?_
  refine va_new (ci := 8) (fs := [.null, .int 0]) (C := RX8) (T := TX8) (N := 2) hx hb hg inlX8 tyX8 tyX8_ok hown (hg _ gw_127) (hg _ gw_47) (hg _ gw_48) hK.1 hP hD hS hA rfl dfX8 (Nat.le_of_ble_eq_true rfl) (Nat.le_of_ble_eq_true rfl) dX10_init_18 ?_
  clear hP hD hS
  intro q8 H hP hD hS
  refine lv_dup hx hb dX10_init_21 rfl ?_
  refine lv_bipush (v := 50) hx hb dX10_init_22 (by decide +kernel) ?_
  refine g_avI (va_runI (As := [.int 50]) (rest := [.ref q8, .ref h0]) ⟨hx, hb, hml, hown, hg⟩ (kc_Row l D y aS H.size q8 128 50 50 gk_128 rfl (by decide) (by decide +kernel) (by decide)) (cwI 1 hg ggI_RX10_13_X8_init rfl rfl rfl (hg _ gw_48) (hg _ gw_132) (hg _ gw_95) rfl (by decide +kernel) ⟨Nat.le_of_ble_eq_true rfl, Nat.le_of_ble_eq_true rfl⟩) (g_preI hK hP hD) rfl rfl hl.1 rfl (lv_room (Nat.le_of_ble_eq_true rfl)) dX10_init_24 ⟨(Nat.le_of_ble_eq_true rfl), (Nat.le_of_ble_eq_true rfl)⟩) hP hD hS hA ?_
  clear hP hD hS
  intro u9 H locs hqu9 hP hD hS
  obtain ⟨ad10, hs11, hm12, heq⟩ := G_merge (y := y) (ad := ad3) (u := u9.1) (σ := gStart) hcad3 hqu9.2.1 (fun k hk hn => by have b1 := (hqu9.2.2 k).mp hk; have b2 := (hMad3 k).mp hn; omega)
  replace hP : va_P D vwCl ([(h0, .inr (10, [.ref q1, .null, .null, .null]))] ++ GW (Lad3 ++ u9.2) y ad10 gStart) H := by rw [← heq]; exact hP
  replace hD : va_D A ([(h0, .inr (10, [.ref q1, .null, .null, .null]))] ++ GW (Lad3 ++ u9.2) y ad10 gStart) := by rw [← heq]; exact hD
  clear heq
  have hcad10 : gClL (Lad3 ++ u9.2) := gClL_app hcad3 hqu9.2.1
  have hMad10 : ∀ k, k ∈ (Lad3 ++ u9.2) ↔ ((126 ≤ k ∧ k < 126 + 2) ∨ (128 ≤ k ∧ k < 128 + 2)) := fun k => List.mem_append.trans (by have b1 := hqu9.2.2 k; have b2 := hMad3 k; constructor <;> intro h <;> (first | omega | (rcases h with h | h <;> first | (have := b1.mp h; omega) | (have := b2.mp h; omega)) | (rw [b1, b2]; omega)))
  have hf14 : ad10 126 = q1 := (hs11 126 ((hMad3 126).mpr (by omega))).trans hf7
  have hf15 : ad10 128 = q8 := (hm12 128 ((hqu9.2.2 128).mpr (by omega))).trans hqu9.1
  generalize hL0 : (Lad3 ++ u9.2) = Lad10 at hP hD hcad10 hMad10
  clear hL0
  refine gm_putF (D := D) (ci := 10) (v := .ref q8) (ty := .object "Greentrunk$Row") (C := RX10) (T := TX10) (N := 4) hx hb hg inlX10 tyX10 tyX10_ok nmX10 hown hK.1 hP hD hS 0 rfl rfl 1 (by decide) tX10_1 (hg _ gw_129) hin rfl (by decide +kernel) rfl rfl (Nat.le_of_ble_eq_true rfl) dX10_init_27 ?_
  clear hP hD hS
  refine fun H locs (hP : va_P D vwCl (([(h0, .inr (10, [.ref q1, .ref q8, .null, .null]))] ++ GW Lad10 y ad10 gStart)) H) (hD : va_D A (([(h0, .inr (10, [.ref q1, .ref q8, .null, .null]))] ++ GW Lad10 y ad10 gStart))) hS => ?_
  refine lv_aload_n hx hb dX10_init_30 rfl (lv_at hl 0 rfl) ?_
  refine va_new (ci := 8) (fs := [.null, .int 0]) (C := RX8) (T := TX8) (N := 2) hx hb hg inlX8 tyX8 tyX8_ok hown (hg _ gw_127) (hg _ gw_47) (hg _ gw_48) hK.1 hP hD hS hA rfl dfX8 (Nat.le_of_ble_eq_true rfl) (Nat.le_of_ble_eq_true rfl) dX10_init_31 ?_
  clear hP hD hS
  intro q16 H hP hD hS
  refine lv_dup hx hb dX10_init_34 rfl ?_
  refine lv_bipush (v := 50) hx hb dX10_init_35 (by decide +kernel) ?_
  refine g_avI (va_runI (As := [.int 50]) (rest := [.ref q16, .ref h0]) ⟨hx, hb, hml, hown, hg⟩ (kc_Row l D y aS H.size q16 130 50 50 gk_130 rfl (by decide) (by decide +kernel) (by decide)) (cwI 1 hg ggI_RX10_13_X8_init rfl rfl rfl (hg _ gw_48) (hg _ gw_132) (hg _ gw_95) rfl (by decide +kernel) ⟨Nat.le_of_ble_eq_true rfl, Nat.le_of_ble_eq_true rfl⟩) (g_preI hK hP hD) rfl rfl hl.1 rfl (lv_room (Nat.le_of_ble_eq_true rfl)) dX10_init_37 ⟨(Nat.le_of_ble_eq_true rfl), (Nat.le_of_ble_eq_true rfl)⟩) hP hD hS hA ?_
  clear hP hD hS
  intro u17 H locs hqu17 hP hD hS
  obtain ⟨ad18, hs19, hm20, heq⟩ := G_merge (y := y) (ad := ad10) (u := u17.1) (σ := gStart) hcad10 hqu17.2.1 (fun k hk hn => by have b1 := (hqu17.2.2 k).mp hk; have b2 := (hMad10 k).mp hn; omega)
  replace hP : va_P D vwCl ([(h0, .inr (10, [.ref q1, .ref q8, .null, .null]))] ++ GW (Lad10 ++ u17.2) y ad18 gStart) H := by rw [← heq]; exact hP
  replace hD : va_D A ([(h0, .inr (10, [.ref q1, .ref q8, .null, .null]))] ++ GW (Lad10 ++ u17.2) y ad18 gStart) := by rw [← heq]; exact hD
  clear heq
  have hcad18 : gClL (Lad10 ++ u17.2) := gClL_app hcad10 hqu17.2.1
  have hMad18 : ∀ k, k ∈ (Lad10 ++ u17.2) ↔ (((126 ≤ k ∧ k < 126 + 2) ∨ (128 ≤ k ∧ k < 128 + 2)) ∨ (130 ≤ k ∧ k < 130 + 2)) := fun k => List.mem_append.trans (by have b1 := hqu17.2.2 k; have b2 := hMad10 k; constructor <;> intro h <;> (first | omega | (rcases h with h | h <;> first | (have := b1.mp h; omega) | (have := b2.mp h; omega)) | (rw [b1, b2]; omega)))
  have hf22 : ad18 126 = q1 := (hs19 126 ((hMad10 126).mpr (by omega))).trans hf14
  have hf23 : ad18 128 = q8 := (hs19 128 ((hMad10 128).mpr (by omega))).trans hf15
  have hf24 : ad18 130 = q16 := (hm20 130 ((hqu17.2.2 130).mpr (by omega))).trans hqu17.1
  generalize hL0 : (Lad10 ++ u17.2) = Lad18 at hP hD hcad18 hMad18
  clear hL0
  refine gm_putF (D := D) (ci := 10) (v := .ref q16) (ty := .object "Greentrunk$Row") (C := RX10) (T := TX10) (N := 4) hx hb hg inlX10 tyX10 tyX10_ok nmX10 hown hK.1 hP hD hS 0 rfl rfl 2 (by decide) tX10_2 (hg _ gw_130) hin rfl (by decide +kernel) rfl rfl (Nat.le_of_ble_eq_true rfl) dX10_init_40 ?_
  clear hP hD hS
  refine fun H locs (hP : va_P D vwCl (([(h0, .inr (10, [.ref q1, .ref q8, .ref q16, .null]))] ++ GW Lad18 y ad18 gStart)) H) (hD : va_D A (([(h0, .inr (10, [.ref q1, .ref q8, .ref q16, .null]))] ++ GW Lad18 y ad18 gStart))) hS => ?_
  refine lv_aload_n hx hb dX10_init_43 rfl (lv_at hl 0 rfl) ?_
  refine va_new (ci := 8) (fs := [.null, .int 0]) (C := RX8) (T := TX8) (N := 2) hx hb hg inlX8 tyX8 tyX8_ok hown (hg _ gw_127) (hg _ gw_47) (hg _ gw_48) hK.1 hP hD hS hA rfl dfX8 (Nat.le_of_ble_eq_true rfl) (Nat.le_of_ble_eq_true rfl) dX10_init_44 ?_
  clear hP hD hS
  intro q25 H hP hD hS
  refine lv_dup hx hb dX10_init_47 rfl ?_
  refine lv_bipush (v := 50) hx hb dX10_init_48 (by decide +kernel) ?_
  refine g_avI (va_runI (As := [.int 50]) (rest := [.ref q25, .ref h0]) ⟨hx, hb, hml, hown, hg⟩ (kc_Row l D y aS H.size q25 132 50 50 gk_132 rfl (by decide) (by decide +kernel) (by decide)) (cwI 1 hg ggI_RX10_13_X8_init rfl rfl rfl (hg _ gw_48) (hg _ gw_132) (hg _ gw_95) rfl (by decide +kernel) ⟨Nat.le_of_ble_eq_true rfl, Nat.le_of_ble_eq_true rfl⟩) (g_preI hK hP hD) rfl rfl hl.1 rfl (lv_room (Nat.le_of_ble_eq_true rfl)) dX10_init_50 ⟨(Nat.le_of_ble_eq_true rfl), (Nat.le_of_ble_eq_true rfl)⟩) hP hD hS hA ?_
  clear hP hD hS
  intro u26 H locs hqu26 hP hD hS
  obtain ⟨ad27, hs28, hm29, heq⟩ := G_merge (y := y) (ad := ad18) (u := u26.1) (σ := gStart) hcad18 hqu26.2.1 (fun k hk hn => by have b1 := (hqu26.2.2 k).mp hk; have b2 := (hMad18 k).mp hn; omega)
  replace hP : va_P D vwCl ([(h0, .inr (10, [.ref q1, .ref q8, .ref q16, .null]))] ++ GW (Lad18 ++ u26.2) y ad27 gStart) H := by rw [← heq]; exact hP
  replace hD : va_D A ([(h0, .inr (10, [.ref q1, .ref q8, .ref q16, .null]))] ++ GW (Lad18 ++ u26.2) y ad27 gStart) := by rw [← heq]; exact hD
  clear heq
  have hcad27 : gClL (Lad18 ++ u26.2) := gClL_app hcad18 hqu26.2.1
  have hMad27 : ∀ k, k ∈ (Lad18 ++ u26.2) ↔ ((((126 ≤ k ∧ k < 126 + 2) ∨ (128 ≤ k ∧ k < 128 + 2)) ∨ (130 ≤ k ∧ k < 130 + 2)) ∨ (132 ≤ k ∧ k < 132 + 2)) := fun k => List.mem_append.trans (by have b1 := hqu26.2.2 k; have b2 := hMad18 k; constructor <;> intro h <;> (first | omega | (rcases h with h | h <;> first | (have := b1.mp h; omega) | (have := b2.mp h; omega)) | (rw [b1, b2]; omega)))
  have hf31 : ad27 126 = q1 := (hs28 126 ((hMad18 126).mpr (by omega))).trans hf22
  have hf32 : ad27 128 = q8 := (hs28 128 ((hMad18 128).mpr (by omega))).trans hf23
  have hf33 : ad27 130 = q16 := (hs28 130 ((hMad18 130).mpr (by omega))).trans hf24
  have hf34 : ad27 132 = q25 := (hm29 132 ((hqu26.2.2 132).mpr (by omega))).trans hqu26.1
  generalize hL0 : (Lad18 ++ u26.2) = Lad27 at hP hD hcad27 hMad27
  clear hL0
  refine gm_putF (D := D) (ci := 10) (v := .ref q25) (ty := .object "Greentrunk$Row") (C := RX10) (T := TX10) (N := 4) hx hb hg inlX10 tyX10 tyX10_ok nmX10 hown hK.1 hP hD hS 0 rfl rfl 3 (by decide) tX10_3 (hg _ gw_131) hin rfl (by decide +kernel) rfl rfl (Nat.le_of_ble_eq_true rfl) dX10_init_53 ?_
  clear hP hD hS
  refine fun H locs (hP : va_P D vwCl (([(h0, .inr (10, [.ref q1, .ref q8, .ref q16, .ref q25]))] ++ GW Lad27 y ad27 gStart)) H) (hD : va_D A (([(h0, .inr (10, [.ref q1, .ref q8, .ref q16, .ref q25]))] ++ GW Lad27 y ad27 gStart))) hS => ?_
  have hnK : 125 ∉ Lad27 := fun h => by have := (hMad27 125).mp h; omega
  have hr0 : (fun k => if k = 125 then h0 else ad27 k) 126 = q1 := (if_neg (by omega)).trans hf31
  have hr1 : (fun k => if k = 125 then h0 else ad27 k) 128 = q8 := (if_neg (by omega)).trans hf32
  have hr2 : (fun k => if k = 125 then h0 else ad27 k) 130 = q16 := (if_neg (by omega)).trans hf33
  have hr3 : (fun k => if k = 125 then h0 else ad27 k) 132 = q25 := (if_neg (by omega)).trans hf34
  have hen : gW1 y (fun k => if k = 125 then h0 else ad27 k) gStart 125 = (h0, .inr (10, [.ref q1, .ref q8, .ref q16, .ref q25])) := by
    rw [gW_obj gk_125 (by decide)]
    show ((fun k => if k = 125 then h0 else ad27 k) 125, Sum.inr (10, [Value.ref ((fun k => if k = 125 then h0 else ad27 k) 126), Value.ref ((fun k => if k = 125 then h0 else ad27 k) 128), Value.ref ((fun k => if k = 125 then h0 else ad27 k) 130), Value.ref ((fun k => if k = 125 then h0 else ad27 k) 132)])) = _
    rw [show (fun k => if k = 125 then h0 else ad27 k) 125 = h0 from by simp, hr0, hr1, hr2, hr3]
    all_goals rfl
  have hw := G_abs (y := y) (ad := ad27) (σ := gStart) (addr := h0) (en := .inr (10, [.ref q1, .ref q8, .ref q16, .ref q25])) hcad27 hnK hen
  have hcN : gClL (125 :: Lad27) := gClL_cons hcad27 (fun y ad ad' σ h h2 => by
    rw [gW_obj gk_125 (by decide), gW_obj gk_125 (by decide), h]
    show (_, Sum.inr (10, [Value.ref (ad 126), Value.ref (ad 128), Value.ref (ad 130), Value.ref (ad 132)])) = (_, Sum.inr (10, [Value.ref (ad' 126), Value.ref (ad' 128), Value.ref (ad' 130), Value.ref (ad' 132)]))
    rw [h2 126 ((hMad27 126).mpr (by omega)), h2 128 ((hMad27 128).mpr (by omega)), h2 130 ((hMad27 130).mpr (by omega)), h2 132 ((hMad27 132).mpr (by omega))])
  replace hP : va_P D vwCl (GW (125 :: Lad27) y (fun k => if k = 125 then h0 else ad27 k) gStart) H := by rw [← hw]; exact hP
  replace hD : va_D A (GW (125 :: Lad27) y (fun k => if k = 125 then h0 else ad27 k) gStart) := by rw [← hw]; exact hD
  exact g_vret hx hb hr hlocks ((fun k => if k = 125 then h0 else ad27 k), 125 :: Lad27) hP hD hS ⟨by simp, hcN, fun k => List.mem_cons.trans (by rw [hMad27 k]; omega)⟩ (Nat.le_of_ble_eq_true rfl) (Nat.le_of_ble_eq_true rfl) dX10_init_56
theorem ggI_RX5_11_X8_init : GoodIn wsL_law ([] ++ (Cond.code yX8_init cX8_init 2 none :: wsL_law)) := g_gi (fun _ h => h) gW_good (fun _ h => nomatch h) ⟨gw_96, rfl⟩
set_option maxRecDepth 100000 in
set_option maxHeartbeats 400000 in
theorem kc_LogBook (l : Launch) (D : va_G) (y : Nat → ClassId) (aS : Nat → Nat) (sz : Nat) (h0 : Nat) : Met l yX5_init (Cond.code yX5_init cX5_init 1 none :: wsL_law) ({ frames := 2, cells := 8, slots := 429, locals := 33 } : Room) (va_Pc [.ref h0] (gI D y aS [(h0, .inr (5, [.null, .null, .null, .null, .int 0]))] sz)) (va_Qv (fun (u : (Nat → Nat) × List Nat) => u.1 134 = h0 ∧ gClL u.2 ∧ ∀ k, k ∈ u.2 ↔ (134 ≤ k ∧ k < 143)) (fun u => gO D (va_A [(h0, .inr (5, [.null, .null, .null, .null, .int 0]))] sz) (GW u.2 y u.1 gStart)) (va_A [(h0, .inr (5, [.null, .null, .null, .null, .int 0]))] sz)) 8 429 (va_A [(h0, .inr (5, [.null, .null, .null, .null, .int 0]))] sz) := by
  refine g_of (by decide) (Nat.le_of_ble_eq_true rfl) ?_
  intro p e s m below meth c ls A hx hb hr hml hown hg hlocks hin hsz hK hP hD hS hA hAe hl
  rw [← hAe]
  replace hown : s.vm.findClass RX5 = some m.cls := hown
  replace hin : meth.name = "<init>" := hin
  replace hl : lv_has ls 1 [(0, .ref h0)] := hl
  refine lv_aload_n hx hb dX5_init_0 rfl (lv_at hl 0 rfl) ?_
  refine W.objInit hx hb hown (hg _ gw_135) (hg _ gw_11) (hg _ gw_12) rfl (by rw [hml]; exact hl.1) rfl dX5_init_1 (Nat.le_of_ble_eq_true rfl) (Nat.le_of_ble_eq_true rfl) ?_
  refine W.eq (g2 := F0 m 4 ls []) rfl ?_
  replace hP : va_P D vwCl ([(h0, .inr (5, [.null, .null, .null, .null, .int 0]))] ++ GW [] y (fun _ => 0) gStart) s.heap := hP
  replace hD : va_D A ([(h0, .inr (5, [.null, .null, .null, .null, .int 0]))] ++ GW [] y (fun _ => 0) gStart) := hD
  refine lv_aload_n hx hb dX5_init_4 rfl (lv_at hl 0 rfl) ?_
  refine va_new (ci := 8) (fs := [.null, .int 0]) (C := RX8) (T := TX8) (N := 2) hx hb hg inlX8 tyX8 tyX8_ok hown (hg _ gw_136) (hg _ gw_47) (hg _ gw_48) hK.1 hP hD hS hA rfl dfX8 (Nat.le_of_ble_eq_true rfl) (Nat.le_of_ble_eq_true rfl) dX5_init_5 ?_
  clear hP hD hS
  intro q1 H hP hD hS
  refine lv_dup hx hb dX5_init_8 rfl ?_
  refine lv_sipush (v := 200) hx hb dX5_init_9 (by decide +kernel) ?_
  refine g_avI (va_runI (As := [.int 200]) (rest := [.ref q1, .ref h0]) ⟨hx, hb, hml, hown, hg⟩ (kc_Row l D y aS H.size q1 135 200 200 gk_135 rfl (by decide) (by decide +kernel) (by decide)) (cwI 1 hg ggI_RX5_11_X8_init rfl rfl rfl (hg _ gw_48) (hg _ gw_141) (hg _ gw_95) rfl (by decide +kernel) ⟨Nat.le_of_ble_eq_true rfl, Nat.le_of_ble_eq_true rfl⟩) (g_preI hK hP hD) rfl rfl hl.1 rfl (lv_room (Nat.le_of_ble_eq_true rfl)) dX5_init_12 ⟨(Nat.le_of_ble_eq_true rfl), (Nat.le_of_ble_eq_true rfl)⟩) hP hD hS hA ?_
  clear hP hD hS
  intro u2 H locs hqu2 hP hD hS
  obtain ⟨ad3, hs4, hm5, heq⟩ := G_merge (y := y) (ad := (fun _ => 0)) (u := u2.1) (σ := gStart) gClL_nil hqu2.2.1 (fun k hk hn => by have b1 := (hqu2.2.2 k).mp hk; have b2 := ((fun k => (⟨fun h => (nomatch h), fun h => absurd h (by omega)⟩ : k ∈ [] ↔ k < 0)) k).mp hn; omega)
  replace hP : va_P D vwCl ([(h0, .inr (5, [.null, .null, .null, .null, .int 0]))] ++ GW ([] ++ u2.2) y ad3 gStart) H := by rw [← heq]; exact hP
  replace hD : va_D A ([(h0, .inr (5, [.null, .null, .null, .null, .int 0]))] ++ GW ([] ++ u2.2) y ad3 gStart) := by rw [← heq]; exact hD
  clear heq
  have hcad3 : gClL ([] ++ u2.2) := gClL_app gClL_nil hqu2.2.1
  have hMad3 : ∀ k, k ∈ ([] ++ u2.2) ↔ (135 ≤ k ∧ k < 135 + 2) := fun k => List.mem_append.trans (by have b1 := hqu2.2.2 k; have b2 := (fun k => (⟨fun h => (nomatch h), fun h => absurd h (by omega)⟩ : k ∈ [] ↔ k < 0)) k; constructor <;> intro h <;> (first | omega | (rcases h with h | h <;> first | (have := b1.mp h; omega) | (have := b2.mp h; omega)) | (rw [b1, b2]; omega)))
  have hf7 : ad3 135 = q1 := (hm5 135 ((hqu2.2.2 135).mpr (by omega))).trans hqu2.1
  generalize hL0 : ([] ++ u2.2) = Lad3 at hP hD hcad3 hMad3
  clear hL0
  refine gm_putF (D := D) (ci := 5) (v := .ref q1) (ty := .object "Greentrunk$Row") (C := RX5) (T := TX5) (N := 5) hx hb hg inlX5 tyX5 tyX5_ok nmX5 hown hK.1 hP hD hS 0 rfl rfl 0 (by decide) tX5_0 (hg _ gw_137) hin rfl (by decide +kernel) rfl rfl (Nat.le_of_ble_eq_true rfl) dX5_init_15 ?_
  clear hP hD hS
  refine fun H locs (hP : va_P D vwCl (([(h0, .inr (5, [.ref q1, .null, .null, .null, .int 0]))] ++ GW Lad3 y ad3 gStart)) H) (hD : va_D A (([(h0, .inr (5, [.ref q1, .null, .null, .null, .int 0]))] ++ GW Lad3 y ad3 gStart))) hS => ?_
  refine lv_aload_n hx hb dX5_init_18 rfl (lv_at hl 0 rfl) ?_
  refine va_new (ci := 8) (fs := [.null, .int 0]) (C := RX8) (T := TX8) (N := 2) hx hb hg inlX8 tyX8 tyX8_ok hown (hg _ gw_136) (hg _ gw_47) (hg _ gw_48) hK.1 hP hD hS hA rfl dfX8 (Nat.le_of_ble_eq_true rfl) (Nat.le_of_ble_eq_true rfl) dX5_init_19 ?_
  clear hP hD hS
  intro q8 H hP hD hS
  refine lv_dup hx hb dX5_init_22 rfl ?_
  refine lv_sipush (v := 200) hx hb dX5_init_23 (by decide +kernel) ?_
  refine g_avI (va_runI (As := [.int 200]) (rest := [.ref q8, .ref h0]) ⟨hx, hb, hml, hown, hg⟩ (kc_Row l D y aS H.size q8 137 200 200 gk_137 rfl (by decide) (by decide +kernel) (by decide)) (cwI 1 hg ggI_RX5_11_X8_init rfl rfl rfl (hg _ gw_48) (hg _ gw_141) (hg _ gw_95) rfl (by decide +kernel) ⟨Nat.le_of_ble_eq_true rfl, Nat.le_of_ble_eq_true rfl⟩) (g_preI hK hP hD) rfl rfl hl.1 rfl (lv_room (Nat.le_of_ble_eq_true rfl)) dX5_init_26 ⟨(Nat.le_of_ble_eq_true rfl), (Nat.le_of_ble_eq_true rfl)⟩) hP hD hS hA ?_
  clear hP hD hS
  intro u9 H locs hqu9 hP hD hS
  obtain ⟨ad10, hs11, hm12, heq⟩ := G_merge (y := y) (ad := ad3) (u := u9.1) (σ := gStart) hcad3 hqu9.2.1 (fun k hk hn => by have b1 := (hqu9.2.2 k).mp hk; have b2 := (hMad3 k).mp hn; omega)
  replace hP : va_P D vwCl ([(h0, .inr (5, [.ref q1, .null, .null, .null, .int 0]))] ++ GW (Lad3 ++ u9.2) y ad10 gStart) H := by rw [← heq]; exact hP
  replace hD : va_D A ([(h0, .inr (5, [.ref q1, .null, .null, .null, .int 0]))] ++ GW (Lad3 ++ u9.2) y ad10 gStart) := by rw [← heq]; exact hD
  clear heq
  have hcad10 : gClL (Lad3 ++ u9.2) := gClL_app hcad3 hqu9.2.1
  have hMad10 : ∀ k, k ∈ (Lad3 ++ u9.2) ↔ ((135 ≤ k ∧ k < 135 + 2) ∨ (137 ≤ k ∧ k < 137 + 2)) := fun k => List.mem_append.trans (by have b1 := hqu9.2.2 k; have b2 := hMad3 k; constructor <;> intro h <;> (first | omega | (rcases h with h | h <;> first | (have := b1.mp h; omega) | (have := b2.mp h; omega)) | (rw [b1, b2]; omega)))
  have hf14 : ad10 135 = q1 := (hs11 135 ((hMad3 135).mpr (by omega))).trans hf7
  have hf15 : ad10 137 = q8 := (hm12 137 ((hqu9.2.2 137).mpr (by omega))).trans hqu9.1
  generalize hL0 : (Lad3 ++ u9.2) = Lad10 at hP hD hcad10 hMad10
  clear hL0
  refine gm_putF (D := D) (ci := 5) (v := .ref q8) (ty := .object "Greentrunk$Row") (C := RX5) (T := TX5) (N := 5) hx hb hg inlX5 tyX5 tyX5_ok nmX5 hown hK.1 hP hD hS 0 rfl rfl 1 (by decide) tX5_1 (hg _ gw_138) hin rfl (by decide +kernel) rfl rfl (Nat.le_of_ble_eq_true rfl) dX5_init_29 ?_
  clear hP hD hS
  refine fun H locs (hP : va_P D vwCl (([(h0, .inr (5, [.ref q1, .ref q8, .null, .null, .int 0]))] ++ GW Lad10 y ad10 gStart)) H) (hD : va_D A (([(h0, .inr (5, [.ref q1, .ref q8, .null, .null, .int 0]))] ++ GW Lad10 y ad10 gStart))) hS => ?_
  refine lv_aload_n hx hb dX5_init_32 rfl (lv_at hl 0 rfl) ?_
  refine va_new (ci := 8) (fs := [.null, .int 0]) (C := RX8) (T := TX8) (N := 2) hx hb hg inlX8 tyX8 tyX8_ok hown (hg _ gw_136) (hg _ gw_47) (hg _ gw_48) hK.1 hP hD hS hA rfl dfX8 (Nat.le_of_ble_eq_true rfl) (Nat.le_of_ble_eq_true rfl) dX5_init_33 ?_
  clear hP hD hS
  intro q16 H hP hD hS
  refine lv_dup hx hb dX5_init_36 rfl ?_
  refine lv_bipush (v := 18) hx hb dX5_init_37 (by decide +kernel) ?_
  refine g_avI (va_runI (As := [.int 18]) (rest := [.ref q16, .ref h0]) ⟨hx, hb, hml, hown, hg⟩ (kc_Row l D y aS H.size q16 139 18 18 gk_139 rfl (by decide) (by decide +kernel) (by decide)) (cwI 1 hg ggI_RX5_11_X8_init rfl rfl rfl (hg _ gw_48) (hg _ gw_141) (hg _ gw_95) rfl (by decide +kernel) ⟨Nat.le_of_ble_eq_true rfl, Nat.le_of_ble_eq_true rfl⟩) (g_preI hK hP hD) rfl rfl hl.1 rfl (lv_room (Nat.le_of_ble_eq_true rfl)) dX5_init_39 ⟨(Nat.le_of_ble_eq_true rfl), (Nat.le_of_ble_eq_true rfl)⟩) hP hD hS hA ?_
  clear hP hD hS
  intro u17 H locs hqu17 hP hD hS
  obtain ⟨ad18, hs19, hm20, heq⟩ := G_merge (y := y) (ad := ad10) (u := u17.1) (σ := gStart) hcad10 hqu17.2.1 (fun k hk hn => by have b1 := (hqu17.2.2 k).mp hk; have b2 := (hMad10 k).mp hn; omega)
  replace hP : va_P D vwCl ([(h0, .inr (5, [.ref q1, .ref q8, .null, .null, .int 0]))] ++ GW (Lad10 ++ u17.2) y ad18 gStart) H := by rw [← heq]; exact hP
  replace hD : va_D A ([(h0, .inr (5, [.ref q1, .ref q8, .null, .null, .int 0]))] ++ GW (Lad10 ++ u17.2) y ad18 gStart) := by rw [← heq]; exact hD
  clear heq
  have hcad18 : gClL (Lad10 ++ u17.2) := gClL_app hcad10 hqu17.2.1
  have hMad18 : ∀ k, k ∈ (Lad10 ++ u17.2) ↔ (((135 ≤ k ∧ k < 135 + 2) ∨ (137 ≤ k ∧ k < 137 + 2)) ∨ (139 ≤ k ∧ k < 139 + 2)) := fun k => List.mem_append.trans (by have b1 := hqu17.2.2 k; have b2 := hMad10 k; constructor <;> intro h <;> (first | omega | (rcases h with h | h <;> first | (have := b1.mp h; omega) | (have := b2.mp h; omega)) | (rw [b1, b2]; omega)))
  have hf22 : ad18 135 = q1 := (hs19 135 ((hMad10 135).mpr (by omega))).trans hf14
  have hf23 : ad18 137 = q8 := (hs19 137 ((hMad10 137).mpr (by omega))).trans hf15
  have hf24 : ad18 139 = q16 := (hm20 139 ((hqu17.2.2 139).mpr (by omega))).trans hqu17.1
  generalize hL0 : (Lad10 ++ u17.2) = Lad18 at hP hD hcad18 hMad18
  clear hL0
  refine gm_putF (D := D) (ci := 5) (v := .ref q16) (ty := .object "Greentrunk$Row") (C := RX5) (T := TX5) (N := 5) hx hb hg inlX5 tyX5 tyX5_ok nmX5 hown hK.1 hP hD hS 0 rfl rfl 2 (by decide) tX5_2 (hg _ gw_139) hin rfl (by decide +kernel) rfl rfl (Nat.le_of_ble_eq_true rfl) dX5_init_42 ?_
  clear hP hD hS
  refine fun H locs (hP : va_P D vwCl (([(h0, .inr (5, [.ref q1, .ref q8, .ref q16, .null, .int 0]))] ++ GW Lad18 y ad18 gStart)) H) (hD : va_D A (([(h0, .inr (5, [.ref q1, .ref q8, .ref q16, .null, .int 0]))] ++ GW Lad18 y ad18 gStart))) hS => ?_
  refine lv_aload_n hx hb dX5_init_45 rfl (lv_at hl 0 rfl) ?_
  refine va_new (ci := 8) (fs := [.null, .int 0]) (C := RX8) (T := TX8) (N := 2) hx hb hg inlX8 tyX8 tyX8_ok hown (hg _ gw_136) (hg _ gw_47) (hg _ gw_48) hK.1 hP hD hS hA rfl dfX8 (Nat.le_of_ble_eq_true rfl) (Nat.le_of_ble_eq_true rfl) dX5_init_46 ?_
  clear hP hD hS
  intro q25 H hP hD hS
  refine lv_dup hx hb dX5_init_49 rfl ?_
  refine lv_iconst (v := 3) hx hb dX5_init_50 (by decide) ?_
  refine g_avI (va_runI (As := [.int 3]) (rest := [.ref q25, .ref h0]) ⟨hx, hb, hml, hown, hg⟩ (kc_Row l D y aS H.size q25 141 3 3 gk_141 rfl (by decide) (by decide +kernel) (by decide)) (cwI 1 hg ggI_RX5_11_X8_init rfl rfl rfl (hg _ gw_48) (hg _ gw_141) (hg _ gw_95) rfl (by decide +kernel) ⟨Nat.le_of_ble_eq_true rfl, Nat.le_of_ble_eq_true rfl⟩) (g_preI hK hP hD) rfl rfl hl.1 rfl (lv_room (Nat.le_of_ble_eq_true rfl)) dX5_init_51 ⟨(Nat.le_of_ble_eq_true rfl), (Nat.le_of_ble_eq_true rfl)⟩) hP hD hS hA ?_
  clear hP hD hS
  intro u26 H locs hqu26 hP hD hS
  obtain ⟨ad27, hs28, hm29, heq⟩ := G_merge (y := y) (ad := ad18) (u := u26.1) (σ := gStart) hcad18 hqu26.2.1 (fun k hk hn => by have b1 := (hqu26.2.2 k).mp hk; have b2 := (hMad18 k).mp hn; omega)
  replace hP : va_P D vwCl ([(h0, .inr (5, [.ref q1, .ref q8, .ref q16, .null, .int 0]))] ++ GW (Lad18 ++ u26.2) y ad27 gStart) H := by rw [← heq]; exact hP
  replace hD : va_D A ([(h0, .inr (5, [.ref q1, .ref q8, .ref q16, .null, .int 0]))] ++ GW (Lad18 ++ u26.2) y ad27 gStart) := by rw [← heq]; exact hD
  clear heq
  have hcad27 : gClL (Lad18 ++ u26.2) := gClL_app hcad18 hqu26.2.1
  have hMad27 : ∀ k, k ∈ (Lad18 ++ u26.2) ↔ ((((135 ≤ k ∧ k < 135 + 2) ∨ (137 ≤ k ∧ k < 137 + 2)) ∨ (139 ≤ k ∧ k < 139 + 2)) ∨ (141 ≤ k ∧ k < 141 + 2)) := fun k => List.mem_append.trans (by have b1 := hqu26.2.2 k; have b2 := hMad18 k; constructor <;> intro h <;> (first | omega | (rcases h with h | h <;> first | (have := b1.mp h; omega) | (have := b2.mp h; omega)) | (rw [b1, b2]; omega)))
  have hf31 : ad27 135 = q1 := (hs28 135 ((hMad18 135).mpr (by omega))).trans hf22
  have hf32 : ad27 137 = q8 := (hs28 137 ((hMad18 137).mpr (by omega))).trans hf23
  have hf33 : ad27 139 = q16 := (hs28 139 ((hMad18 139).mpr (by omega))).trans hf24
  have hf34 : ad27 141 = q25 := (hm29 141 ((hqu26.2.2 141).mpr (by omega))).trans hqu26.1
  generalize hL0 : (Lad18 ++ u26.2) = Lad27 at hP hD hcad27 hMad27
  clear hL0
  refine gm_putF (D := D) (ci := 5) (v := .ref q25) (ty := .object "Greentrunk$Row") (C := RX5) (T := TX5) (N := 5) hx hb hg inlX5 tyX5 tyX5_ok nmX5 hown hK.1 hP hD hS 0 rfl rfl 3 (by decide) tX5_3 (hg _ gw_140) hin rfl (by decide +kernel) rfl rfl (Nat.le_of_ble_eq_true rfl) dX5_init_54 ?_
  clear hP hD hS
  refine fun H locs (hP : va_P D vwCl (([(h0, .inr (5, [.ref q1, .ref q8, .ref q16, .ref q25, .int 0]))] ++ GW Lad27 y ad27 gStart)) H) (hD : va_D A (([(h0, .inr (5, [.ref q1, .ref q8, .ref q16, .ref q25, .int 0]))] ++ GW Lad27 y ad27 gStart))) hS => ?_
  have hnK : 134 ∉ Lad27 := fun h => by have := (hMad27 134).mp h; omega
  have hr0 : (fun k => if k = 134 then h0 else ad27 k) 135 = q1 := (if_neg (by omega)).trans hf31
  have hr1 : (fun k => if k = 134 then h0 else ad27 k) 137 = q8 := (if_neg (by omega)).trans hf32
  have hr2 : (fun k => if k = 134 then h0 else ad27 k) 139 = q16 := (if_neg (by omega)).trans hf33
  have hr3 : (fun k => if k = 134 then h0 else ad27 k) 141 = q25 := (if_neg (by omega)).trans hf34
  have hen : gW1 y (fun k => if k = 134 then h0 else ad27 k) gStart 134 = (h0, .inr (5, [.ref q1, .ref q8, .ref q16, .ref q25, .int 0])) := by
    rw [gW_obj gk_134 (by decide)]
    show ((fun k => if k = 134 then h0 else ad27 k) 134, Sum.inr (5, [Value.ref ((fun k => if k = 134 then h0 else ad27 k) 135), Value.ref ((fun k => if k = 134 then h0 else ad27 k) 137), Value.ref ((fun k => if k = 134 then h0 else ad27 k) 139), Value.ref ((fun k => if k = 134 then h0 else ad27 k) 141), Value.int ((gStart.1 134) 4)])) = _
    rw [show (fun k => if k = 134 then h0 else ad27 k) 134 = h0 from by simp, hr0, hr1, hr2, hr3]
    all_goals rfl
  have hw := G_abs (y := y) (ad := ad27) (σ := gStart) (addr := h0) (en := .inr (5, [.ref q1, .ref q8, .ref q16, .ref q25, .int 0])) hcad27 hnK hen
  have hcN : gClL (134 :: Lad27) := gClL_cons hcad27 (fun y ad ad' σ h h2 => by
    rw [gW_obj gk_134 (by decide), gW_obj gk_134 (by decide), h]
    show (_, Sum.inr (5, [Value.ref (ad 135), Value.ref (ad 137), Value.ref (ad 139), Value.ref (ad 141), Value.int ((σ.1 134) 4)])) = (_, Sum.inr (5, [Value.ref (ad' 135), Value.ref (ad' 137), Value.ref (ad' 139), Value.ref (ad' 141), Value.int ((σ.1 134) 4)]))
    rw [h2 135 ((hMad27 135).mpr (by omega)), h2 137 ((hMad27 137).mpr (by omega)), h2 139 ((hMad27 139).mpr (by omega)), h2 141 ((hMad27 141).mpr (by omega))])
  replace hP : va_P D vwCl (GW (134 :: Lad27) y (fun k => if k = 134 then h0 else ad27 k) gStart) H := by rw [← hw]; exact hP
  replace hD : va_D A (GW (134 :: Lad27) y (fun k => if k = 134 then h0 else ad27 k) gStart) := by rw [← hw]; exact hD
  exact g_vret hx hb hr hlocks ((fun k => if k = 134 then h0 else ad27 k), 134 :: Lad27) hP hD hS ⟨by simp, hcN, fun k => List.mem_cons.trans (by rw [hMad27 k]; omega)⟩ (Nat.le_of_ble_eq_true rfl) (Nat.le_of_ble_eq_true rfl) dX5_init_57
theorem ggI_RX2_17_X1_init : GoodIn wsL_law ([] ++ (Cond.code yX1_init cX1_init 2 none :: wsL_law)) := g_gi (fun _ h => h) gW_good (fun _ h => nomatch h) ⟨gw_68, rfl⟩
set_option maxRecDepth 100000 in
set_option maxHeartbeats 400000 in
theorem wc_Changes {p : Program} {l : Launch} {e : Env} {s : State} {m : MethodId} {args : Array Value} {below : List Frame} {meth : Method} {c : Code} {D : va_G} {y : Nat → ClassId} {aS : Nat → Nat} {A : Nat → Prop} {h0 qa : Nat} {qf3 : Nat} {qf4 : Nat} (hx : p.tables.exec = Jvm.exec) (hb : c.code = cX2_init) (hr : meth.sig.returnType = none) (hml : c.maxLocals = 2) (hown : s.vm.findClass RX2 = some m.cls) (hg : ∀ w ∈ wsL_law, w.before args s = true) (hlocks : meth.locks = false) (hin : meth.name = "<init>") (hK : gK D y aS s) (hA : ∀ q, s.heap.size ≤ q → A q) : ∀ (n i : Nat), i + n = 60 → ∀ (L : List Nat) (ad : Nat → Nat) (fa : Nat → Option Nat) (kc ns : Nat) (H : Heap) (locs : List Loc) (ls : Array Slot), kc + 1 * n ≤ 63 → ns + 14 * n ≤ 928 → gClL L → (∀ k, k ∈ L ↔ ((3 ≤ k ∧ k < 5) ∨ 5 ≤ k ∧ k < 5 + i)) → (∀ j, j < i → fa j = some (ad (5 + j))) → (∀ j, i ≤ j → fa j = none) → ad 3 = qf3 → ad 4 = qf4 → va_P D vwCl ([(h0, .inr (2, [.ref qa, .ref qf3, .ref qf4, .int 0, .int 0])), (qa, .inl (y 3, 60, .inr (.inr (.inr (.inr fa)))))] ++ GW L y ad gStart) H → va_D A ([(h0, .inr (2, [.ref qa, .ref qf3, .ref qf4, .int 0, .int 0])), (qa, .inl (y 3, 60, .inr (.inr (.inr (.inr fa)))))] ++ GW L y ad gStart) → va_S A s.heap H locs → lv_has ls 2 [(1, .int (Int32.ofNat i)), (0, .ref h0)] → W p l e ({ frames := 2, cells := 63, slots := 928, locals := 33 } : Room) s m args below meth c H locs kc ns (MQ below (va_Qv (fun (u : (Nat → Nat) × List Nat) => u.1 1 = h0 ∧ gClL u.2 ∧ ∀ k, k ∈ u.2 ↔ (1 ≤ k ∧ k < 65)) (fun u => gO D A (GW u.2 y u.1 gStart)) A) args s 63 928 A) (F0 m 39 ls []) := by
  intro n
  induction n with
  | zero =>
    intro i hin2 L ad fa kc ns H locs ls hkc hns hcl hmem hfa hfb hf3 hf4 hP hD hS hl
    obtain rfl : i = 60 := by omega
    refine lv_iload_n hx hb dX2_init_39 rfl (lv_at hl 0 rfl) ?_
    refine lv_aload_n hx hb dX2_init_40 rfl (lv_at hl 1 rfl) ?_
    refine gm_get (D := D) (ci := 2) (v := .ref qa) (C := RX2) (T := TX2) (N := 5) hx hb hg inlX2 hown hK.1 hP 0 rfl rfl 0 (by decide) tX2_0 (hg _ gw_61) rfl dX2_init_41 ?_
    refine va_alen hx hb hK.1 hP 1 3 rfl rfl (v := 60) rfl dX2_init_44 ?_
    refine lv_icmp_ge (tgt := 68) hx hb dX2_init_45 (by decide) (fun _ => ?_) (fun c9 => absurd (g_ige (n := 60)) c9)
    have hn2 : 2 ∉ L := fun h => by have := (hmem 2).mp h; omega
    have hx1 := G_abs (y := y) (ad := ad) (σ := gStart) (addr := qa) (en := .inl (y 3, 60, .inr (.inr (.inr (.inr fa))))) hcl hn2 (by
    rw [gW_a23 gk_2]
    refine Prod.ext (by simp) ?_
    show Sum.inl (_, _, Sum.inr (Sum.inr (Sum.inr (Sum.inr (fun j => if j < 60 then some ((fun k => if k = 2 then qa else ad k) (5 + j)) else none))))) = _
    rw [show (fun j => if j < 60 then some ((fun k => if k = 2 then qa else ad k) (5 + j)) else none) = fa from by
      funext j
      by_cases h9 : j < 60
      · rw [if_pos h9, hfa j (by omega)]; exact congrArg some (if_neg (by omega))
      · rw [if_neg h9, hfb j (by omega)]])
    have hc3 : gClL (2 :: L) := gClL_cons hcl (fun y ad ad' σ h h2 => by
    rw [gW_a23 gk_2, gW_a23 gk_2, h]
    rw [show (fun j => if j < 60 then some (ad (5 + j)) else none) = (fun j => if j < 60 then some (ad' (5 + j)) else none) from by
      funext j
      by_cases h9 : j < 60
      · rw [if_pos h9, if_pos h9, h2 _ ((hmem (5 + j)).mpr (by omega))]
      · rw [if_neg h9, if_neg h9]])
    have hM4 : ∀ k, k ∈ (2 :: L) ↔ (k = 2 ∨ ((3 ≤ k ∧ k < 5) ∨ 5 ≤ k ∧ k < 5 + 60)) := fun k => List.mem_cons.trans (by rw [hmem k])
    have hf5 : (fun k => if k = 2 then qa else ad k) 3 = qf3 := (if_neg (by omega)).trans hf3
    have hf6 : (fun k => if k = 2 then qa else ad k) 4 = qf4 := (if_neg (by omega)).trans hf4
    have hf7 : (fun k => if k = 2 then qa else ad k) 2 = qa := by simp
    replace hP : va_P D vwCl ([(h0, .inr (2, [.ref qa, .ref qf3, .ref qf4, .int 0, .int 0]))] ++ ((qa, .inl (y 3, 60, .inr (.inr (.inr (.inr fa))))) :: GW L y ad gStart)) H := hP
    replace hD : va_D A ([(h0, .inr (2, [.ref qa, .ref qf3, .ref qf4, .int 0, .int 0]))] ++ ((qa, .inl (y 3, 60, .inr (.inr (.inr (.inr fa))))) :: GW L y ad gStart)) := hD
    rw [hx1] at hP hD
    clear hx1
    have hnK : 1 ∉ (2 :: L) := fun h => by have := (hM4 1).mp h; omega
    have hr0 : (fun k => if k = 1 then h0 else (fun k => if k = 2 then qa else ad k) k) 2 = qa := (if_neg (by omega)).trans hf7
    have hr1 : (fun k => if k = 1 then h0 else (fun k => if k = 2 then qa else ad k) k) 3 = qf3 := (if_neg (by omega)).trans hf5
    have hr2 : (fun k => if k = 1 then h0 else (fun k => if k = 2 then qa else ad k) k) 4 = qf4 := (if_neg (by omega)).trans hf6
    have hen : gW1 y (fun k => if k = 1 then h0 else (fun k => if k = 2 then qa else ad k) k) gStart 1 = (h0, .inr (2, [.ref qa, .ref qf3, .ref qf4, .int 0, .int 0])) := by
      rw [gW_obj gk_1 (by decide)]
      show ((fun k => if k = 1 then h0 else (fun k => if k = 2 then qa else ad k) k) 1, Sum.inr (2, [Value.ref ((fun k => if k = 1 then h0 else (fun k => if k = 2 then qa else ad k) k) 2), Value.ref ((fun k => if k = 1 then h0 else (fun k => if k = 2 then qa else ad k) k) 3), Value.ref ((fun k => if k = 1 then h0 else (fun k => if k = 2 then qa else ad k) k) 4), Value.int ((gStart.1 1) 3), Value.int ((gStart.1 1) 4)])) = _
      rw [show (fun k => if k = 1 then h0 else (fun k => if k = 2 then qa else ad k) k) 1 = h0 from by simp, hr0, hr1, hr2]
      all_goals rfl
    have hw := G_abs (y := y) (ad := (fun k => if k = 2 then qa else ad k)) (σ := gStart) (addr := h0) (en := .inr (2, [.ref qa, .ref qf3, .ref qf4, .int 0, .int 0])) hc3 hnK hen
    have hcN : gClL (1 :: (2 :: L)) := gClL_cons hc3 (fun y ad ad' σ h h2 => by
      rw [gW_obj gk_1 (by decide), gW_obj gk_1 (by decide), h]
      show (_, Sum.inr (2, [Value.ref (ad 2), Value.ref (ad 3), Value.ref (ad 4), Value.int ((σ.1 1) 3), Value.int ((σ.1 1) 4)])) = (_, Sum.inr (2, [Value.ref (ad' 2), Value.ref (ad' 3), Value.ref (ad' 4), Value.int ((σ.1 1) 3), Value.int ((σ.1 1) 4)]))
      rw [h2 2 ((hM4 2).mpr (by omega)), h2 3 ((hM4 3).mpr (by omega)), h2 4 ((hM4 4).mpr (by omega))])
    replace hP : va_P D vwCl (GW (1 :: (2 :: L)) y (fun k => if k = 1 then h0 else (fun k => if k = 2 then qa else ad k) k) gStart) H := by rw [← hw]; exact hP
    replace hD : va_D A (GW (1 :: (2 :: L)) y (fun k => if k = 1 then h0 else (fun k => if k = 2 then qa else ad k) k) gStart) := by rw [← hw]; exact hD
    exact g_vret hx hb hr hlocks ((fun k => if k = 1 then h0 else (fun k => if k = 2 then qa else ad k) k), 1 :: (2 :: L)) hP hD hS ⟨by simp, hcN, fun k => List.mem_cons.trans (by rw [hM4 k]; omega)⟩ (by first | omega | (dsimp only; omega)) (by first | omega | (dsimp only; omega)) dX2_init_68
  | succ n ih =>
    intro i hin2 L ad fa kc ns H locs ls hkc hns hcl hmem hfa hfb hf3 hf4 hP hD hS hl
    refine lv_iload_n hx hb dX2_init_39 rfl (lv_at hl 0 rfl) ?_
    refine lv_aload_n hx hb dX2_init_40 rfl (lv_at hl 1 rfl) ?_
    refine gm_get (D := D) (ci := 2) (v := .ref qa) (C := RX2) (T := TX2) (N := 5) hx hb hg inlX2 hown hK.1 hP 0 rfl rfl 0 (by decide) tX2_0 (hg _ gw_61) rfl dX2_init_41 ?_
    refine va_alen hx hb hK.1 hP 1 3 rfl rfl (v := 60) rfl dX2_init_44 ?_
    refine lv_icmp_ge (tgt := 68) hx hb dX2_init_45 (by decide) (fun c9 => absurd c9 (g_ilt (n := i) (k := 60) (by decide) (by omega))) (fun _ => ?_)
    refine lv_aload_n hx hb dX2_init_48 rfl (lv_at hl 1 rfl) ?_
    refine gm_get (D := D) (ci := 2) (v := .ref qa) (C := RX2) (T := TX2) (N := 5) hx hb hg inlX2 hown hK.1 hP 0 rfl rfl 0 (by decide) tX2_0 (hg _ gw_61) rfl dX2_init_49 ?_
    refine lv_iload_n hx hb dX2_init_52 rfl (lv_at hl 0 rfl) ?_
    refine va_new (ci := 1) (fs := [.int 0, .int 0, .int 0, .int 0, .int 0, .int 0, .long 0, .long 0, .long 0, .int 0, .int 0, .int 0, .int 0, .int 0]) (C := RX1) (T := TX1) (N := 14) hx hb hg inlX1 tyX1 tyX1_ok hown (hg _ gw_60) (hg _ gw_62) (hg _ gw_63) hK.1 hP hD hS hA rfl dfX1 (by first | omega | (dsimp only; omega)) (by first | omega | (dsimp only; omega)) dX2_init_53 ?_
    clear hP hD hS
    intro q1 H hP hD hS
    refine lv_dup hx hb dX2_init_56 rfl ?_
    refine lv_iload_n hx hb dX2_init_57 rfl (lv_at hl 0 rfl) ?_
    refine g_avI (va_runI (As := [.int (Int32.ofNat i)]) (rest := [.ref q1, .int (Int32.ofNat i), .ref qa]) ⟨hx, hb, hml, hown, hg⟩ (kc_Change l D y aS H.size q1 (5 + i) (Int32.ofNat i) (gc_23k (by omega)) (g_numC (by omega))) (cwI 1 hg ggI_RX2_17_X1_init rfl rfl rfl (hg _ gw_63) (hg _ gw_66) (hg _ gw_67) rfl (by decide +kernel) ⟨Nat.le_of_ble_eq_true rfl, Nat.le_of_ble_eq_true rfl⟩) (g_preI hK hP hD) rfl rfl hl.1 rfl (lv_room (Nat.le_of_ble_eq_true rfl)) dX2_init_58 ⟨(by first | omega | (dsimp only; omega)), (by first | omega | (dsimp only; omega))⟩) hP hD hS hA ?_
    clear hP hD hS
    intro u2 H locs hqu2 hP hD hS
    obtain ⟨ad3, hs4, hm5, heq⟩ := G_merge (y := y) (ad := ad) (u := u2.1) (σ := gStart) hcl hqu2.2.1 (fun k hk hn => by have b1 := (hqu2.2.2 k).mp hk; have b2 := (hmem k).mp hn; omega)
    replace hP : va_P D vwCl ([(h0, .inr (2, [.ref qa, .ref qf3, .ref qf4, .int 0, .int 0])), (qa, .inl (y 3, 60, .inr (.inr (.inr (.inr fa)))))] ++ GW (L ++ u2.2) y ad3 gStart) H := by rw [← heq]; exact hP
    replace hD : va_D A ([(h0, .inr (2, [.ref qa, .ref qf3, .ref qf4, .int 0, .int 0])), (qa, .inl (y 3, 60, .inr (.inr (.inr (.inr fa)))))] ++ GW (L ++ u2.2) y ad3 gStart) := by rw [← heq]; exact hD
    clear heq
    have hcad3 : gClL (L ++ u2.2) := gClL_app hcl hqu2.2.1
    have hMad3 : ∀ k, k ∈ (L ++ u2.2) ↔ (((3 ≤ k ∧ k < 5) ∨ 5 ≤ k ∧ k < 5 + i) ∨ ((5 + i) ≤ k ∧ k < (5 + i) + 1)) := fun k => List.mem_append.trans (by have b1 := hqu2.2.2 k; have b2 := hmem k; constructor <;> intro h <;> (first | omega | (rcases h with h | h <;> first | (have := b1.mp h; omega) | (have := b2.mp h; omega)) | (rw [b1, b2]; omega)))
    have hf7 : ad3 3 = qf3 := (hs4 3 ((hmem 3).mpr (by omega))).trans hf3
    have hf8 : ad3 4 = qf4 := (hs4 4 ((hmem 4).mpr (by omega))).trans hf4
    have hf9 : ad3 (5 + i) = q1 := (hm5 (5 + i) ((hqu2.2.2 (5 + i)).mpr (by omega))).trans hqu2.1
    generalize hL0 : (L ++ u2.2) = Lad3 at hP hD hcad3 hMad3
    clear hL0
    obtain ⟨qk, hqk⟩ := GW_at (y := y) (ad := ad3) (σ := gStart) ((hMad3 (5 + i)).mpr (by omega))
    rw [gce_obj (gc_23k (by omega)) (by decide), hf9] at hqk
    refine va_astq hx hb hK.1 hP hD hS 1 3 (qk + 2) 1 (v := q1) rfl rfl hqk rfl (fun h9 => h9.elim (g_in0 (n := i) (by omega)) (fun h9 => by rw [g_iN (n := i) (by omega)] at h9; omega)) dX2_init_61 ?_
    clear hP hD hS
    refine fun H locs (hP : va_P D vwCl (([(h0, .inr (2, [.ref qa, .ref qf3, .ref qf4, .int 0, .int 0])), (qa, .inl (y 3, 60, .inr (.inr (.inr (.inr (va_up fa (Int32.ofNat i).toNatClampNeg (some q1)))))))] ++ GW Lad3 y ad3 gStart)) H) (hD : va_D A (([(h0, .inr (2, [.ref qa, .ref qf3, .ref qf4, .int 0, .int 0])), (qa, .inl (y 3, 60, .inr (.inr (.inr (.inr (va_up fa (Int32.ofNat i).toNatClampNeg (some q1)))))))] ++ GW Lad3 y ad3 gStart))) hS => ?_
    refine lv_iinc (v := Int32.ofNat (i + 1)) (lv' := [(1, .int (Int32.ofNat (i + 1))), (0, .ref h0)]) hx hb dX2_init_62 hl (k := 0) rfl (g_isu i) (by decide) rfl ?_
    clear hl
    intro ls hl
    refine lv_goto (tgt := 39) hx hb dX2_init_65 (by decide) ?_
    exact ih (i + 1) (by omega) Lad3 ad3 (va_up fa (Int32.ofNat i).toNatClampNeg (some q1)) _ _ _ _ _ (by omega) (by omega) hcad3 (fun k => (hMad3 k).trans (by omega)) (fun j hj => by
      rw [va_upE, g_iN (n := i) (by omega)]
      by_cases h9 : j = i
      · subst h9; rw [if_pos rfl, hf9]
      · rw [if_neg h9, hfa j (by omega), hs4 _ ((hmem _).mpr (by omega))]) (fun j hj => by
      rw [va_upE, g_iN (n := i) (by omega), if_neg (by omega)]; exact hfb j (by omega)) hf7 hf8 hP hD hS hl
set_option maxRecDepth 100000 in
set_option maxHeartbeats 400000 in
theorem kc_Changes (l : Launch) (D : va_G) (y : Nat → ClassId) (aS : Nat → Nat) (sz : Nat) (h0 : Nat) : Met l yX2_init (Cond.code yX2_init cX2_init 2 none :: wsL_law) ({ frames := 2, cells := 63, slots := 928, locals := 33 } : Room) (va_Pc [.ref h0] (gI D y aS [(h0, .inr (2, [.null, .null, .null, .int 0, .int 0]))] sz)) (va_Qv (fun (u : (Nat → Nat) × List Nat) => u.1 1 = h0 ∧ gClL u.2 ∧ ∀ k, k ∈ u.2 ↔ (1 ≤ k ∧ k < 65)) (fun u => gO D (va_A [(h0, .inr (2, [.null, .null, .null, .int 0, .int 0]))] sz) (GW u.2 y u.1 gStart)) (va_A [(h0, .inr (2, [.null, .null, .null, .int 0, .int 0]))] sz)) 63 928 (va_A [(h0, .inr (2, [.null, .null, .null, .int 0, .int 0]))] sz) := by
  refine g_of (by decide) (Nat.le_of_ble_eq_true rfl) ?_
  intro p e s m below meth c ls A hx hb hr hml hown hg hlocks hin hsz hK hP hD hS hA hAe hl
  rw [← hAe]
  replace hown : s.vm.findClass RX2 = some m.cls := hown
  replace hin : meth.name = "<init>" := hin
  replace hl : lv_has ls 2 [(0, .ref h0)] := hl
  refine lv_aload_n hx hb dX2_init_0 rfl (lv_at hl 0 rfl) ?_
  refine W.objInit hx hb hown (hg _ gw_59) (hg _ gw_11) (hg _ gw_12) rfl (by rw [hml]; exact hl.1) rfl dX2_init_1 (Nat.le_of_ble_eq_true rfl) (Nat.le_of_ble_eq_true rfl) ?_
  refine W.eq (g2 := F0 m 4 ls []) rfl ?_
  replace hP : va_P D vwCl ([(h0, .inr (2, [.null, .null, .null, .int 0, .int 0]))] ++ GW [] y (fun _ => 0) gStart) s.heap := hP
  replace hD : va_D A ([(h0, .inr (2, [.null, .null, .null, .int 0, .int 0]))] ++ GW [] y (fun _ => 0) gStart) := hD
  refine lv_aload_n hx hb dX2_init_4 rfl (lv_at hl 0 rfl) ?_
  refine lv_bipush (v := 60) hx hb dX2_init_5 (by decide +kernel) ?_
  refine g_newq (C := RX1) hx hb 3 rfl hown (hg _ gw_60) hK.2.2.1.1 hK hP hD hS hA (N' := 60) (by decide +kernel) (by decide +kernel) (by decide) (Nat.le_of_ble_eq_true rfl) (Nat.le_of_ble_eq_true rfl) dX2_init_7 ?_
  clear hP hD hS
  intro q1 H hP0 hD0 hS
  obtain ⟨hP, hD⟩ := g_permA (E := [(h0, .inr (2, [.null, .null, .null, .int 0, .int 0]))]) (X := GW [] y (fun _ => 0) gStart) hP0 hD0
  clear hP0 hD0
  replace hP : va_P D vwCl ([(h0, .inr (2, [.null, .null, .null, .int 0, .int 0])), (q1, .inl (y 3, 60, .inr (.inr (.inr (.inr (fun _ => none))))))] ++ GW [] y (fun _ => 0) gStart) H := hP
  replace hD : va_D A ([(h0, .inr (2, [.null, .null, .null, .int 0, .int 0])), (q1, .inl (y 3, 60, .inr (.inr (.inr (.inr (fun _ => none))))))] ++ GW [] y (fun _ => 0) gStart) := hD
  refine gm_putF (D := D) (ci := 2) (v := .ref q1) (ty := .array (.object "Greentrunk$Change")) (C := RX2) (T := TX2) (N := 5) hx hb hg inlX2 tyX2 tyX2_ok nmX2 hown hK.1 hP hD hS 0 rfl rfl 0 (by decide) tX2_0 (hg _ gw_61) hin rfl (by decide +kernel) rfl rfl (Nat.le_of_ble_eq_true rfl) dX2_init_10 ?_
  clear hP hD hS
  refine fun H locs (hP : va_P D vwCl (([(h0, .inr (2, [.ref q1, .null, .null, .int 0, .int 0])), (q1, .inl (y 3, 60, .inr (.inr (.inr (.inr (fun _ => none))))))] ++ GW [] y (fun _ => 0) gStart)) H) (hD : va_D A (([(h0, .inr (2, [.ref q1, .null, .null, .int 0, .int 0])), (q1, .inl (y 3, 60, .inr (.inr (.inr (.inr (fun _ => none))))))] ++ GW [] y (fun _ => 0) gStart))) hS => ?_
  refine lv_aload_n hx hb dX2_init_13 rfl (lv_at hl 0 rfl) ?_
  refine va_new (ci := 1) (fs := [.int 0, .int 0, .int 0, .int 0, .int 0, .int 0, .long 0, .long 0, .long 0, .int 0, .int 0, .int 0, .int 0, .int 0]) (C := RX1) (T := TX1) (N := 14) hx hb hg inlX1 tyX1 tyX1_ok hown (hg _ gw_60) (hg _ gw_62) (hg _ gw_63) hK.1 hP hD hS hA rfl dfX1 (Nat.le_of_ble_eq_true rfl) (Nat.le_of_ble_eq_true rfl) dX2_init_14 ?_
  clear hP hD hS
  intro q2 H hP hD hS
  refine lv_dup hx hb dX2_init_17 rfl ?_
  refine lv_iconst (v := (-1)) hx hb dX2_init_18 (by decide) ?_
  refine g_avI (va_runI (As := [.int (-1)]) (rest := [.ref q2, .ref h0]) ⟨hx, hb, hml, hown, hg⟩ (kc_Change l D y aS H.size q2 3 (-1) gk_3 (by decide +kernel)) (cwI 1 hg ggI_RX2_17_X1_init rfl rfl rfl (hg _ gw_63) (hg _ gw_66) (hg _ gw_67) rfl (by decide +kernel) ⟨Nat.le_of_ble_eq_true rfl, Nat.le_of_ble_eq_true rfl⟩) (g_preI hK hP hD) rfl rfl hl.1 rfl (lv_room (Nat.le_of_ble_eq_true rfl)) dX2_init_19 ⟨(Nat.le_of_ble_eq_true rfl), (Nat.le_of_ble_eq_true rfl)⟩) hP hD hS hA ?_
  clear hP hD hS
  intro u3 H locs hqu3 hP hD hS
  obtain ⟨ad4, hs5, hm6, heq⟩ := G_merge (y := y) (ad := (fun _ => 0)) (u := u3.1) (σ := gStart) gClL_nil hqu3.2.1 (fun k hk hn => by have b1 := (hqu3.2.2 k).mp hk; have b2 := ((fun k => (⟨fun h => (nomatch h), fun h => absurd h (by omega)⟩ : k ∈ [] ↔ k < 0)) k).mp hn; omega)
  replace hP : va_P D vwCl ([(h0, .inr (2, [.ref q1, .null, .null, .int 0, .int 0])), (q1, .inl (y 3, 60, .inr (.inr (.inr (.inr (fun _ => none))))))] ++ GW ([] ++ u3.2) y ad4 gStart) H := by rw [← heq]; exact hP
  replace hD : va_D A ([(h0, .inr (2, [.ref q1, .null, .null, .int 0, .int 0])), (q1, .inl (y 3, 60, .inr (.inr (.inr (.inr (fun _ => none))))))] ++ GW ([] ++ u3.2) y ad4 gStart) := by rw [← heq]; exact hD
  clear heq
  have hcad4 : gClL ([] ++ u3.2) := gClL_app gClL_nil hqu3.2.1
  have hMad4 : ∀ k, k ∈ ([] ++ u3.2) ↔ (3 ≤ k ∧ k < 3 + 1) := fun k => List.mem_append.trans (by have b1 := hqu3.2.2 k; have b2 := (fun k => (⟨fun h => (nomatch h), fun h => absurd h (by omega)⟩ : k ∈ [] ↔ k < 0)) k; constructor <;> intro h <;> (first | omega | (rcases h with h | h <;> first | (have := b1.mp h; omega) | (have := b2.mp h; omega)) | (rw [b1, b2]; omega)))
  have hf8 : ad4 3 = q2 := (hm6 3 ((hqu3.2.2 3).mpr (by omega))).trans hqu3.1
  generalize hL0 : ([] ++ u3.2) = Lad4 at hP hD hcad4 hMad4
  clear hL0
  refine gm_putF (D := D) (ci := 2) (v := .ref q2) (ty := .object "Greentrunk$Change") (C := RX2) (T := TX2) (N := 5) hx hb hg inlX2 tyX2 tyX2_ok nmX2 hown hK.1 hP hD hS 0 rfl rfl 1 (by decide) tX2_1 (hg _ gw_64) hin rfl (by decide +kernel) rfl rfl (Nat.le_of_ble_eq_true rfl) dX2_init_22 ?_
  clear hP hD hS
  refine fun H locs (hP : va_P D vwCl (([(h0, .inr (2, [.ref q1, .ref q2, .null, .int 0, .int 0])), (q1, .inl (y 3, 60, .inr (.inr (.inr (.inr (fun _ => none))))))] ++ GW Lad4 y ad4 gStart)) H) (hD : va_D A (([(h0, .inr (2, [.ref q1, .ref q2, .null, .int 0, .int 0])), (q1, .inl (y 3, 60, .inr (.inr (.inr (.inr (fun _ => none))))))] ++ GW Lad4 y ad4 gStart))) hS => ?_
  refine lv_aload_n hx hb dX2_init_25 rfl (lv_at hl 0 rfl) ?_
  refine va_new (ci := 1) (fs := [.int 0, .int 0, .int 0, .int 0, .int 0, .int 0, .long 0, .long 0, .long 0, .int 0, .int 0, .int 0, .int 0, .int 0]) (C := RX1) (T := TX1) (N := 14) hx hb hg inlX1 tyX1 tyX1_ok hown (hg _ gw_60) (hg _ gw_62) (hg _ gw_63) hK.1 hP hD hS hA rfl dfX1 (Nat.le_of_ble_eq_true rfl) (Nat.le_of_ble_eq_true rfl) dX2_init_26 ?_
  clear hP hD hS
  intro q9 H hP hD hS
  refine lv_dup hx hb dX2_init_29 rfl ?_
  refine lv_iconst (v := (-1)) hx hb dX2_init_30 (by decide) ?_
  refine g_avI (va_runI (As := [.int (-1)]) (rest := [.ref q9, .ref h0]) ⟨hx, hb, hml, hown, hg⟩ (kc_Change l D y aS H.size q9 4 (-1) gk_4 (by decide +kernel)) (cwI 1 hg ggI_RX2_17_X1_init rfl rfl rfl (hg _ gw_63) (hg _ gw_66) (hg _ gw_67) rfl (by decide +kernel) ⟨Nat.le_of_ble_eq_true rfl, Nat.le_of_ble_eq_true rfl⟩) (g_preI hK hP hD) rfl rfl hl.1 rfl (lv_room (Nat.le_of_ble_eq_true rfl)) dX2_init_31 ⟨(Nat.le_of_ble_eq_true rfl), (Nat.le_of_ble_eq_true rfl)⟩) hP hD hS hA ?_
  clear hP hD hS
  intro u10 H locs hqu10 hP hD hS
  obtain ⟨ad11, hs12, hm13, heq⟩ := G_merge (y := y) (ad := ad4) (u := u10.1) (σ := gStart) hcad4 hqu10.2.1 (fun k hk hn => by have b1 := (hqu10.2.2 k).mp hk; have b2 := (hMad4 k).mp hn; omega)
  replace hP : va_P D vwCl ([(h0, .inr (2, [.ref q1, .ref q2, .null, .int 0, .int 0])), (q1, .inl (y 3, 60, .inr (.inr (.inr (.inr (fun _ => none))))))] ++ GW (Lad4 ++ u10.2) y ad11 gStart) H := by rw [← heq]; exact hP
  replace hD : va_D A ([(h0, .inr (2, [.ref q1, .ref q2, .null, .int 0, .int 0])), (q1, .inl (y 3, 60, .inr (.inr (.inr (.inr (fun _ => none))))))] ++ GW (Lad4 ++ u10.2) y ad11 gStart) := by rw [← heq]; exact hD
  clear heq
  have hcad11 : gClL (Lad4 ++ u10.2) := gClL_app hcad4 hqu10.2.1
  have hMad11 : ∀ k, k ∈ (Lad4 ++ u10.2) ↔ ((3 ≤ k ∧ k < 3 + 1) ∨ (4 ≤ k ∧ k < 4 + 1)) := fun k => List.mem_append.trans (by have b1 := hqu10.2.2 k; have b2 := hMad4 k; constructor <;> intro h <;> (first | omega | (rcases h with h | h <;> first | (have := b1.mp h; omega) | (have := b2.mp h; omega)) | (rw [b1, b2]; omega)))
  have hf15 : ad11 3 = q2 := (hs12 3 ((hMad4 3).mpr (by omega))).trans hf8
  have hf16 : ad11 4 = q9 := (hm13 4 ((hqu10.2.2 4).mpr (by omega))).trans hqu10.1
  generalize hL0 : (Lad4 ++ u10.2) = Lad11 at hP hD hcad11 hMad11
  clear hL0
  refine gm_putF (D := D) (ci := 2) (v := .ref q9) (ty := .object "Greentrunk$Change") (C := RX2) (T := TX2) (N := 5) hx hb hg inlX2 tyX2 tyX2_ok nmX2 hown hK.1 hP hD hS 0 rfl rfl 2 (by decide) tX2_2 (hg _ gw_65) hin rfl (by decide +kernel) rfl rfl (Nat.le_of_ble_eq_true rfl) dX2_init_34 ?_
  clear hP hD hS
  refine fun H locs (hP : va_P D vwCl (([(h0, .inr (2, [.ref q1, .ref q2, .ref q9, .int 0, .int 0])), (q1, .inl (y 3, 60, .inr (.inr (.inr (.inr (fun _ => none))))))] ++ GW Lad11 y ad11 gStart)) H) (hD : va_D A (([(h0, .inr (2, [.ref q1, .ref q2, .ref q9, .int 0, .int 0])), (q1, .inl (y 3, 60, .inr (.inr (.inr (.inr (fun _ => none))))))] ++ GW Lad11 y ad11 gStart))) hS => ?_
  refine lv_iconst (v := 0) hx hb dX2_init_37 (by decide) ?_
  refine lv_istore_n (lv' := [(1, .int 0), (0, .ref h0)]) hx hb dX2_init_38 rfl hl (by decide) rfl ?_
  clear hl
  intro ls hl
  exact wc_Changes (aS := aS) hx hb hr hml hown hg hlocks hin hK hA 60 0 rfl Lad11 ad11 (fun _ => none) _ _ _ _ _ (by omega) (by omega) hcad11 (fun k => (hMad11 k).trans (by omega)) (fun j hj => absurd hj (by omega)) (fun j hj => rfl) hf15 hf16 hP hD hS hl
theorem ggI_RX7_17_X3_init : GoodIn wsL_law ([] ++ (Cond.code yX3_init cX3_init 2 none :: wsL_law)) := g_gi (fun _ h => h) gW_good (fun _ h => nomatch h) ⟨gw_89, rfl⟩
theorem ggI_RX7_26_X8_init : GoodIn wsL_law ([] ++ (Cond.code yX8_init cX8_init 2 none :: wsL_law)) := g_gi (fun _ h => h) gW_good (fun _ h => nomatch h) ⟨gw_96, rfl⟩
set_option maxRecDepth 100000 in
set_option maxHeartbeats 400000 in
theorem wc_Pipeline {p : Program} {l : Launch} {e : Env} {s : State} {m : MethodId} {args : Array Value} {below : List Frame} {meth : Method} {c : Code} {D : va_G} {y : Nat → ClassId} {aS : Nat → Nat} {A : Nat → Prop} {h0 qa : Nat} {qf67 : Nat} {qf70 : Nat} {qf72 : Nat} {qf74 : Nat} (hx : p.tables.exec = Jvm.exec) (hb : c.code = cX7_init) (hr : meth.sig.returnType = none) (hml : c.maxLocals = 2) (hown : s.vm.findClass RX7 = some m.cls) (hg : ∀ w ∈ wsL_law, w.before args s = true) (hlocks : meth.locks = false) (hin : meth.name = "<init>") (hK : gK D y aS s) (hA : ∀ q, s.heap.size ≤ q → A q) : ∀ (n i : Nat), i + n = 10 → ∀ (L : List Nat) (ad : Nat → Nat) (fa : Nat → Option Nat) (kc ns : Nat) (H : Heap) (locs : List Loc) (ls : Array Slot), kc + 3 * n ≤ 40 → ns + 36 * n ≤ 448 → gClL L → (∀ k, k ∈ L ↔ ((67 ≤ k ∧ k < 76) ∨ 76 ≤ k ∧ k < 76 + 3 * i)) → (∀ j, j < i → fa j = some (ad (76 + 3 * j))) → (∀ j, i ≤ j → fa j = none) → ad 67 = qf67 → ad 70 = qf70 → ad 72 = qf72 → ad 74 = qf74 → va_P D vwCl ([(h0, .inr (7, [.ref qa, .ref qf67, .ref qf70, .ref qf72, .ref qf74, .int 0])), (qa, .inl (y 4, 10, .inr (.inr (.inr (.inr fa)))))] ++ GW L y ad gStart) H → va_D A ([(h0, .inr (7, [.ref qa, .ref qf67, .ref qf70, .ref qf72, .ref qf74, .int 0])), (qa, .inl (y 4, 10, .inr (.inr (.inr (.inr fa)))))] ++ GW L y ad gStart) → va_S A s.heap H locs → lv_has ls 2 [(1, .int (Int32.ofNat i)), (0, .ref h0)] → W p l e ({ frames := 3, cells := 40, slots := 448, locals := 54 } : Room) s m args below meth c H locs kc ns (MQ below (va_Qv (fun (u : (Nat → Nat) × List Nat) => u.1 65 = h0 ∧ gClL u.2 ∧ ∀ k, k ∈ u.2 ↔ (65 ≤ k ∧ k < 106)) (fun u => gO D A (GW u.2 y u.1 gStart)) A) args s 40 448 A) (F0 m 66 ls []) := by
  intro n
  induction n with
  | zero =>
    intro i hin2 L ad fa kc ns H locs ls hkc hns hcl hmem hfa hfb hf67 hf70 hf72 hf74 hP hD hS hl
    obtain rfl : i = 10 := by omega
    refine lv_iload_n hx hb dX7_init_66 rfl (lv_at hl 0 rfl) ?_
    refine lv_aload_n hx hb dX7_init_67 rfl (lv_at hl 1 rfl) ?_
    refine gm_get (D := D) (ci := 7) (v := .ref qa) (C := RX7) (T := TX7) (N := 6) hx hb hg inlX7 hown hK.1 hP 0 rfl rfl 0 (by decide) tX7_0 (hg _ gw_79) rfl dX7_init_68 ?_
    refine va_alen hx hb hK.1 hP 1 4 rfl rfl (v := 10) rfl dX7_init_71 ?_
    refine lv_icmp_ge (tgt := 95) hx hb dX7_init_72 (by decide) (fun _ => ?_) (fun c9 => absurd (g_ige (n := 10)) c9)
    have hn2 : 66 ∉ L := fun h => by have := (hmem 66).mp h; omega
    have hx1 := G_abs (y := y) (ad := ad) (σ := gStart) (addr := qa) (en := .inl (y 4, 10, .inr (.inr (.inr (.inr fa))))) hcl hn2 (by
    rw [gW_a24 gk_66]
    refine Prod.ext (by simp) ?_
    show Sum.inl (_, _, Sum.inr (Sum.inr (Sum.inr (Sum.inr (fun j => if j < 10 then some ((fun k => if k = 66 then qa else ad k) (76 + 3 * j)) else none))))) = _
    rw [show (fun j => if j < 10 then some ((fun k => if k = 66 then qa else ad k) (76 + 3 * j)) else none) = fa from by
      funext j
      by_cases h9 : j < 10
      · rw [if_pos h9, hfa j (by omega)]; exact congrArg some (if_neg (by omega))
      · rw [if_neg h9, hfb j (by omega)]])
    have hc3 : gClL (66 :: L) := gClL_cons hcl (fun y ad ad' σ h h2 => by
    rw [gW_a24 gk_66, gW_a24 gk_66, h]
    rw [show (fun j => if j < 10 then some (ad (76 + 3 * j)) else none) = (fun j => if j < 10 then some (ad' (76 + 3 * j)) else none) from by
      funext j
      by_cases h9 : j < 10
      · rw [if_pos h9, if_pos h9, h2 _ ((hmem (76 + 3 * j)).mpr (by omega))]
      · rw [if_neg h9, if_neg h9]])
    have hM4 : ∀ k, k ∈ (66 :: L) ↔ (k = 66 ∨ ((67 ≤ k ∧ k < 76) ∨ 76 ≤ k ∧ k < 76 + 3 * 10)) := fun k => List.mem_cons.trans (by rw [hmem k])
    have hf5 : (fun k => if k = 66 then qa else ad k) 67 = qf67 := (if_neg (by omega)).trans hf67
    have hf6 : (fun k => if k = 66 then qa else ad k) 70 = qf70 := (if_neg (by omega)).trans hf70
    have hf7 : (fun k => if k = 66 then qa else ad k) 72 = qf72 := (if_neg (by omega)).trans hf72
    have hf8 : (fun k => if k = 66 then qa else ad k) 74 = qf74 := (if_neg (by omega)).trans hf74
    have hf9 : (fun k => if k = 66 then qa else ad k) 66 = qa := by simp
    replace hP : va_P D vwCl ([(h0, .inr (7, [.ref qa, .ref qf67, .ref qf70, .ref qf72, .ref qf74, .int 0]))] ++ ((qa, .inl (y 4, 10, .inr (.inr (.inr (.inr fa))))) :: GW L y ad gStart)) H := hP
    replace hD : va_D A ([(h0, .inr (7, [.ref qa, .ref qf67, .ref qf70, .ref qf72, .ref qf74, .int 0]))] ++ ((qa, .inl (y 4, 10, .inr (.inr (.inr (.inr fa))))) :: GW L y ad gStart)) := hD
    rw [hx1] at hP hD
    clear hx1
    have hnK : 65 ∉ (66 :: L) := fun h => by have := (hM4 65).mp h; omega
    have hr0 : (fun k => if k = 65 then h0 else (fun k => if k = 66 then qa else ad k) k) 66 = qa := (if_neg (by omega)).trans hf9
    have hr1 : (fun k => if k = 65 then h0 else (fun k => if k = 66 then qa else ad k) k) 67 = qf67 := (if_neg (by omega)).trans hf5
    have hr2 : (fun k => if k = 65 then h0 else (fun k => if k = 66 then qa else ad k) k) 70 = qf70 := (if_neg (by omega)).trans hf6
    have hr3 : (fun k => if k = 65 then h0 else (fun k => if k = 66 then qa else ad k) k) 72 = qf72 := (if_neg (by omega)).trans hf7
    have hr4 : (fun k => if k = 65 then h0 else (fun k => if k = 66 then qa else ad k) k) 74 = qf74 := (if_neg (by omega)).trans hf8
    have hen : gW1 y (fun k => if k = 65 then h0 else (fun k => if k = 66 then qa else ad k) k) gStart 65 = (h0, .inr (7, [.ref qa, .ref qf67, .ref qf70, .ref qf72, .ref qf74, .int 0])) := by
      rw [gW_obj gk_65 (by decide)]
      show ((fun k => if k = 65 then h0 else (fun k => if k = 66 then qa else ad k) k) 65, Sum.inr (7, [Value.ref ((fun k => if k = 65 then h0 else (fun k => if k = 66 then qa else ad k) k) 66), Value.ref ((fun k => if k = 65 then h0 else (fun k => if k = 66 then qa else ad k) k) 67), Value.ref ((fun k => if k = 65 then h0 else (fun k => if k = 66 then qa else ad k) k) 70), Value.ref ((fun k => if k = 65 then h0 else (fun k => if k = 66 then qa else ad k) k) 72), Value.ref ((fun k => if k = 65 then h0 else (fun k => if k = 66 then qa else ad k) k) 74), Value.int ((gStart.1 65) 5)])) = _
      rw [show (fun k => if k = 65 then h0 else (fun k => if k = 66 then qa else ad k) k) 65 = h0 from by simp, hr0, hr1, hr2, hr3, hr4]
      all_goals rfl
    have hw := G_abs (y := y) (ad := (fun k => if k = 66 then qa else ad k)) (σ := gStart) (addr := h0) (en := .inr (7, [.ref qa, .ref qf67, .ref qf70, .ref qf72, .ref qf74, .int 0])) hc3 hnK hen
    have hcN : gClL (65 :: (66 :: L)) := gClL_cons hc3 (fun y ad ad' σ h h2 => by
      rw [gW_obj gk_65 (by decide), gW_obj gk_65 (by decide), h]
      show (_, Sum.inr (7, [Value.ref (ad 66), Value.ref (ad 67), Value.ref (ad 70), Value.ref (ad 72), Value.ref (ad 74), Value.int ((σ.1 65) 5)])) = (_, Sum.inr (7, [Value.ref (ad' 66), Value.ref (ad' 67), Value.ref (ad' 70), Value.ref (ad' 72), Value.ref (ad' 74), Value.int ((σ.1 65) 5)]))
      rw [h2 66 ((hM4 66).mpr (by omega)), h2 67 ((hM4 67).mpr (by omega)), h2 70 ((hM4 70).mpr (by omega)), h2 72 ((hM4 72).mpr (by omega)), h2 74 ((hM4 74).mpr (by omega))])
    replace hP : va_P D vwCl (GW (65 :: (66 :: L)) y (fun k => if k = 65 then h0 else (fun k => if k = 66 then qa else ad k) k) gStart) H := by rw [← hw]; exact hP
    replace hD : va_D A (GW (65 :: (66 :: L)) y (fun k => if k = 65 then h0 else (fun k => if k = 66 then qa else ad k) k) gStart) := by rw [← hw]; exact hD
    exact g_vret hx hb hr hlocks ((fun k => if k = 65 then h0 else (fun k => if k = 66 then qa else ad k) k), 65 :: (66 :: L)) hP hD hS ⟨by simp, hcN, fun k => List.mem_cons.trans (by rw [hM4 k]; omega)⟩ (by first | omega | (dsimp only; omega)) (by first | omega | (dsimp only; omega)) dX7_init_95
  | succ n ih =>
    intro i hin2 L ad fa kc ns H locs ls hkc hns hcl hmem hfa hfb hf67 hf70 hf72 hf74 hP hD hS hl
    refine lv_iload_n hx hb dX7_init_66 rfl (lv_at hl 0 rfl) ?_
    refine lv_aload_n hx hb dX7_init_67 rfl (lv_at hl 1 rfl) ?_
    refine gm_get (D := D) (ci := 7) (v := .ref qa) (C := RX7) (T := TX7) (N := 6) hx hb hg inlX7 hown hK.1 hP 0 rfl rfl 0 (by decide) tX7_0 (hg _ gw_79) rfl dX7_init_68 ?_
    refine va_alen hx hb hK.1 hP 1 4 rfl rfl (v := 10) rfl dX7_init_71 ?_
    refine lv_icmp_ge (tgt := 95) hx hb dX7_init_72 (by decide) (fun c9 => absurd c9 (g_ilt (n := i) (k := 10) (by decide) (by omega))) (fun _ => ?_)
    refine lv_aload_n hx hb dX7_init_75 rfl (lv_at hl 1 rfl) ?_
    refine gm_get (D := D) (ci := 7) (v := .ref qa) (C := RX7) (T := TX7) (N := 6) hx hb hg inlX7 hown hK.1 hP 0 rfl rfl 0 (by decide) tX7_0 (hg _ gw_79) rfl dX7_init_76 ?_
    refine lv_iload_n hx hb dX7_init_79 rfl (lv_at hl 0 rfl) ?_
    refine va_new (ci := 3) (fs := [.int 0, .null, .int 0, .long 0, .int 0, .int 0, .int 0, .int 0, .int 0, .int 0]) (C := RX3) (T := TX3) (N := 10) hx hb hg inlX3 tyX3 tyX3_ok hown (hg _ gw_78) (hg _ gw_80) (hg _ gw_81) hK.1 hP hD hS hA rfl dfX3 (by first | omega | (dsimp only; omega)) (by first | omega | (dsimp only; omega)) dX7_init_80 ?_
    clear hP hD hS
    intro q1 H hP hD hS
    refine lv_dup hx hb dX7_init_83 rfl ?_
    refine lv_iload_n hx hb dX7_init_84 rfl (lv_at hl 0 rfl) ?_
    refine g_avI (va_runI (As := [.int (Int32.ofNat i)]) (rest := [.ref q1, .int (Int32.ofNat i), .ref qa]) ⟨hx, hb, hml, hown, hg⟩ (kc_Check l D y aS H.size q1 (76 + 3 * i) (Int32.ofNat i) (gc_24k (by omega)) (g_numK (by omega)) (g_leK (by omega))) (cwI 1 hg ggI_RX7_17_X3_init rfl rfl rfl (hg _ gw_81) (hg _ gw_87) (hg _ gw_88) rfl (by decide +kernel) ⟨Nat.le_of_ble_eq_true rfl, Nat.le_of_ble_eq_true rfl⟩) (g_preI hK hP hD) rfl rfl hl.1 rfl (lv_room (Nat.le_of_ble_eq_true rfl)) dX7_init_85 ⟨(by first | omega | (dsimp only; omega)), (by first | omega | (dsimp only; omega))⟩) hP hD hS hA ?_
    clear hP hD hS
    intro u2 H locs hqu2 hP hD hS
    obtain ⟨ad3, hs4, hm5, heq⟩ := G_merge (y := y) (ad := ad) (u := u2.1) (σ := gStart) hcl hqu2.2.1 (fun k hk hn => by have b1 := (hqu2.2.2 k).mp hk; have b2 := (hmem k).mp hn; omega)
    replace hP : va_P D vwCl ([(h0, .inr (7, [.ref qa, .ref qf67, .ref qf70, .ref qf72, .ref qf74, .int 0])), (qa, .inl (y 4, 10, .inr (.inr (.inr (.inr fa)))))] ++ GW (L ++ u2.2) y ad3 gStart) H := by rw [← heq]; exact hP
    replace hD : va_D A ([(h0, .inr (7, [.ref qa, .ref qf67, .ref qf70, .ref qf72, .ref qf74, .int 0])), (qa, .inl (y 4, 10, .inr (.inr (.inr (.inr fa)))))] ++ GW (L ++ u2.2) y ad3 gStart) := by rw [← heq]; exact hD
    clear heq
    have hcad3 : gClL (L ++ u2.2) := gClL_app hcl hqu2.2.1
    have hMad3 : ∀ k, k ∈ (L ++ u2.2) ↔ (((67 ≤ k ∧ k < 76) ∨ 76 ≤ k ∧ k < 76 + 3 * i) ∨ ((76 + 3 * i) ≤ k ∧ k < (76 + 3 * i) + 3)) := fun k => List.mem_append.trans (by have b1 := hqu2.2.2 k; have b2 := hmem k; constructor <;> intro h <;> (first | omega | (rcases h with h | h <;> first | (have := b1.mp h; omega) | (have := b2.mp h; omega)) | (rw [b1, b2]; omega)))
    have hf7 : ad3 67 = qf67 := (hs4 67 ((hmem 67).mpr (by omega))).trans hf67
    have hf8 : ad3 70 = qf70 := (hs4 70 ((hmem 70).mpr (by omega))).trans hf70
    have hf9 : ad3 72 = qf72 := (hs4 72 ((hmem 72).mpr (by omega))).trans hf72
    have hf10 : ad3 74 = qf74 := (hs4 74 ((hmem 74).mpr (by omega))).trans hf74
    have hf11 : ad3 (76 + 3 * i) = q1 := (hm5 (76 + 3 * i) ((hqu2.2.2 (76 + 3 * i)).mpr (by omega))).trans hqu2.1
    generalize hL0 : (L ++ u2.2) = Lad3 at hP hD hcad3 hMad3
    clear hL0
    obtain ⟨qk, hqk⟩ := GW_at (y := y) (ad := ad3) (σ := gStart) ((hMad3 (76 + 3 * i)).mpr (by omega))
    rw [gce_obj (gc_24k (by omega)) (by decide), hf11] at hqk
    refine va_astq hx hb hK.1 hP hD hS 1 4 (qk + 2) 3 (v := q1) rfl rfl hqk rfl (fun h9 => h9.elim (g_in0 (n := i) (by omega)) (fun h9 => by rw [g_iN (n := i) (by omega)] at h9; omega)) dX7_init_88 ?_
    clear hP hD hS
    refine fun H locs (hP : va_P D vwCl (([(h0, .inr (7, [.ref qa, .ref qf67, .ref qf70, .ref qf72, .ref qf74, .int 0])), (qa, .inl (y 4, 10, .inr (.inr (.inr (.inr (va_up fa (Int32.ofNat i).toNatClampNeg (some q1)))))))] ++ GW Lad3 y ad3 gStart)) H) (hD : va_D A (([(h0, .inr (7, [.ref qa, .ref qf67, .ref qf70, .ref qf72, .ref qf74, .int 0])), (qa, .inl (y 4, 10, .inr (.inr (.inr (.inr (va_up fa (Int32.ofNat i).toNatClampNeg (some q1)))))))] ++ GW Lad3 y ad3 gStart))) hS => ?_
    refine lv_iinc (v := Int32.ofNat (i + 1)) (lv' := [(1, .int (Int32.ofNat (i + 1))), (0, .ref h0)]) hx hb dX7_init_89 hl (k := 0) rfl (g_isu i) (by decide) rfl ?_
    clear hl
    intro ls hl
    refine lv_goto (tgt := 66) hx hb dX7_init_92 (by decide) ?_
    exact ih (i + 1) (by omega) Lad3 ad3 (va_up fa (Int32.ofNat i).toNatClampNeg (some q1)) _ _ _ _ _ (by omega) (by omega) hcad3 (fun k => (hMad3 k).trans (by omega)) (fun j hj => by
      rw [va_upE, g_iN (n := i) (by omega)]
      by_cases h9 : j = i
      · subst h9; rw [if_pos rfl, hf11]
      · rw [if_neg h9, hfa j (by omega), hs4 _ ((hmem _).mpr (by omega))]) (fun j hj => by
      rw [va_upE, g_iN (n := i) (by omega), if_neg (by omega)]; exact hfb j (by omega)) hf7 hf8 hf9 hf10 hP hD hS hl
set_option maxRecDepth 100000 in
set_option maxHeartbeats 400000 in
theorem kc_Pipeline (l : Launch) (D : va_G) (y : Nat → ClassId) (aS : Nat → Nat) (sz : Nat) (h0 : Nat) : Met l yX7_init (Cond.code yX7_init cX7_init 2 none :: wsL_law) ({ frames := 3, cells := 40, slots := 448, locals := 54 } : Room) (va_Pc [.ref h0] (gI D y aS [(h0, .inr (7, [.null, .null, .null, .null, .null, .int 0]))] sz)) (va_Qv (fun (u : (Nat → Nat) × List Nat) => u.1 65 = h0 ∧ gClL u.2 ∧ ∀ k, k ∈ u.2 ↔ (65 ≤ k ∧ k < 106)) (fun u => gO D (va_A [(h0, .inr (7, [.null, .null, .null, .null, .null, .int 0]))] sz) (GW u.2 y u.1 gStart)) (va_A [(h0, .inr (7, [.null, .null, .null, .null, .null, .int 0]))] sz)) 40 448 (va_A [(h0, .inr (7, [.null, .null, .null, .null, .null, .int 0]))] sz) := by
  refine g_of (by decide) (Nat.le_of_ble_eq_true rfl) ?_
  intro p e s m below meth c ls A hx hb hr hml hown hg hlocks hin hsz hK hP hD hS hA hAe hl
  rw [← hAe]
  replace hown : s.vm.findClass RX7 = some m.cls := hown
  replace hin : meth.name = "<init>" := hin
  replace hl : lv_has ls 2 [(0, .ref h0)] := hl
  refine lv_aload_n hx hb dX7_init_0 rfl (lv_at hl 0 rfl) ?_
  refine W.objInit hx hb hown (hg _ gw_77) (hg _ gw_11) (hg _ gw_12) rfl (by rw [hml]; exact hl.1) rfl dX7_init_1 (Nat.le_of_ble_eq_true rfl) (Nat.le_of_ble_eq_true rfl) ?_
  refine W.eq (g2 := F0 m 4 ls []) rfl ?_
  replace hP : va_P D vwCl ([(h0, .inr (7, [.null, .null, .null, .null, .null, .int 0]))] ++ GW [] y (fun _ => 0) gStart) s.heap := hP
  replace hD : va_D A ([(h0, .inr (7, [.null, .null, .null, .null, .null, .int 0]))] ++ GW [] y (fun _ => 0) gStart) := hD
  refine lv_aload_n hx hb dX7_init_4 rfl (lv_at hl 0 rfl) ?_
  refine lv_bipush (v := 10) hx hb dX7_init_5 (by decide +kernel) ?_
  refine g_newq (C := RX3) hx hb 4 rfl hown (hg _ gw_78) hK.2.2.1.2.1 hK hP hD hS hA (N' := 10) (by decide +kernel) (by decide +kernel) (by decide) (Nat.le_of_ble_eq_true rfl) (Nat.le_of_ble_eq_true rfl) dX7_init_7 ?_
  clear hP hD hS
  intro q1 H hP0 hD0 hS
  obtain ⟨hP, hD⟩ := g_permA (E := [(h0, .inr (7, [.null, .null, .null, .null, .null, .int 0]))]) (X := GW [] y (fun _ => 0) gStart) hP0 hD0
  clear hP0 hD0
  replace hP : va_P D vwCl ([(h0, .inr (7, [.null, .null, .null, .null, .null, .int 0])), (q1, .inl (y 4, 10, .inr (.inr (.inr (.inr (fun _ => none))))))] ++ GW [] y (fun _ => 0) gStart) H := hP
  replace hD : va_D A ([(h0, .inr (7, [.null, .null, .null, .null, .null, .int 0])), (q1, .inl (y 4, 10, .inr (.inr (.inr (.inr (fun _ => none))))))] ++ GW [] y (fun _ => 0) gStart) := hD
  refine gm_putF (D := D) (ci := 7) (v := .ref q1) (ty := .array (.object "Greentrunk$Check")) (C := RX7) (T := TX7) (N := 6) hx hb hg inlX7 tyX7 tyX7_ok nmX7 hown hK.1 hP hD hS 0 rfl rfl 0 (by decide) tX7_0 (hg _ gw_79) hin rfl (by decide +kernel) rfl rfl (Nat.le_of_ble_eq_true rfl) dX7_init_10 ?_
  clear hP hD hS
  refine fun H locs (hP : va_P D vwCl (([(h0, .inr (7, [.ref q1, .null, .null, .null, .null, .int 0])), (q1, .inl (y 4, 10, .inr (.inr (.inr (.inr (fun _ => none))))))] ++ GW [] y (fun _ => 0) gStart)) H) (hD : va_D A (([(h0, .inr (7, [.ref q1, .null, .null, .null, .null, .int 0])), (q1, .inl (y 4, 10, .inr (.inr (.inr (.inr (fun _ => none))))))] ++ GW [] y (fun _ => 0) gStart))) hS => ?_
  refine lv_aload_n hx hb dX7_init_13 rfl (lv_at hl 0 rfl) ?_
  refine va_new (ci := 3) (fs := [.int 0, .null, .int 0, .long 0, .int 0, .int 0, .int 0, .int 0, .int 0, .int 0]) (C := RX3) (T := TX3) (N := 10) hx hb hg inlX3 tyX3 tyX3_ok hown (hg _ gw_78) (hg _ gw_80) (hg _ gw_81) hK.1 hP hD hS hA rfl dfX3 (Nat.le_of_ble_eq_true rfl) (Nat.le_of_ble_eq_true rfl) dX7_init_14 ?_
  clear hP hD hS
  intro q2 H hP hD hS
  refine lv_dup hx hb dX7_init_17 rfl ?_
  refine lv_iconst (v := (-1)) hx hb dX7_init_18 (by decide) ?_
  refine g_avI (va_runI (As := [.int (-1)]) (rest := [.ref q2, .ref h0]) ⟨hx, hb, hml, hown, hg⟩ (kc_Check l D y aS H.size q2 67 (-1) gk_67 (by decide +kernel) rfl) (cwI 1 hg ggI_RX7_17_X3_init rfl rfl rfl (hg _ gw_81) (hg _ gw_87) (hg _ gw_88) rfl (by decide +kernel) ⟨Nat.le_of_ble_eq_true rfl, Nat.le_of_ble_eq_true rfl⟩) (g_preI hK hP hD) rfl rfl hl.1 rfl (lv_room (Nat.le_of_ble_eq_true rfl)) dX7_init_19 ⟨(Nat.le_of_ble_eq_true rfl), (Nat.le_of_ble_eq_true rfl)⟩) hP hD hS hA ?_
  clear hP hD hS
  intro u3 H locs hqu3 hP hD hS
  obtain ⟨ad4, hs5, hm6, heq⟩ := G_merge (y := y) (ad := (fun _ => 0)) (u := u3.1) (σ := gStart) gClL_nil hqu3.2.1 (fun k hk hn => by have b1 := (hqu3.2.2 k).mp hk; have b2 := ((fun k => (⟨fun h => (nomatch h), fun h => absurd h (by omega)⟩ : k ∈ [] ↔ k < 0)) k).mp hn; omega)
  replace hP : va_P D vwCl ([(h0, .inr (7, [.ref q1, .null, .null, .null, .null, .int 0])), (q1, .inl (y 4, 10, .inr (.inr (.inr (.inr (fun _ => none))))))] ++ GW ([] ++ u3.2) y ad4 gStart) H := by rw [← heq]; exact hP
  replace hD : va_D A ([(h0, .inr (7, [.ref q1, .null, .null, .null, .null, .int 0])), (q1, .inl (y 4, 10, .inr (.inr (.inr (.inr (fun _ => none))))))] ++ GW ([] ++ u3.2) y ad4 gStart) := by rw [← heq]; exact hD
  clear heq
  have hcad4 : gClL ([] ++ u3.2) := gClL_app gClL_nil hqu3.2.1
  have hMad4 : ∀ k, k ∈ ([] ++ u3.2) ↔ (67 ≤ k ∧ k < 67 + 3) := fun k => List.mem_append.trans (by have b1 := hqu3.2.2 k; have b2 := (fun k => (⟨fun h => (nomatch h), fun h => absurd h (by omega)⟩ : k ∈ [] ↔ k < 0)) k; constructor <;> intro h <;> (first | omega | (rcases h with h | h <;> first | (have := b1.mp h; omega) | (have := b2.mp h; omega)) | (rw [b1, b2]; omega)))
  have hf8 : ad4 67 = q2 := (hm6 67 ((hqu3.2.2 67).mpr (by omega))).trans hqu3.1
  generalize hL0 : ([] ++ u3.2) = Lad4 at hP hD hcad4 hMad4
  clear hL0
  refine gm_putF (D := D) (ci := 7) (v := .ref q2) (ty := .object "Greentrunk$Check") (C := RX7) (T := TX7) (N := 6) hx hb hg inlX7 tyX7 tyX7_ok nmX7 hown hK.1 hP hD hS 0 rfl rfl 1 (by decide) tX7_1 (hg _ gw_82) hin rfl (by decide +kernel) rfl rfl (Nat.le_of_ble_eq_true rfl) dX7_init_22 ?_
  clear hP hD hS
  refine fun H locs (hP : va_P D vwCl (([(h0, .inr (7, [.ref q1, .ref q2, .null, .null, .null, .int 0])), (q1, .inl (y 4, 10, .inr (.inr (.inr (.inr (fun _ => none))))))] ++ GW Lad4 y ad4 gStart)) H) (hD : va_D A (([(h0, .inr (7, [.ref q1, .ref q2, .null, .null, .null, .int 0])), (q1, .inl (y 4, 10, .inr (.inr (.inr (.inr (fun _ => none))))))] ++ GW Lad4 y ad4 gStart))) hS => ?_
  refine lv_aload_n hx hb dX7_init_25 rfl (lv_at hl 0 rfl) ?_
  refine va_new (ci := 8) (fs := [.null, .int 0]) (C := RX8) (T := TX8) (N := 2) hx hb hg inlX8 tyX8 tyX8_ok hown (hg _ gw_83) (hg _ gw_47) (hg _ gw_48) hK.1 hP hD hS hA rfl dfX8 (Nat.le_of_ble_eq_true rfl) (Nat.le_of_ble_eq_true rfl) dX7_init_26 ?_
  clear hP hD hS
  intro q9 H hP hD hS
  refine lv_dup hx hb dX7_init_29 rfl ?_
  refine lv_bipush (v := 12) hx hb dX7_init_30 (by decide +kernel) ?_
  refine g_avI (va_runI (As := [.int 12]) (rest := [.ref q9, .ref h0]) ⟨hx, hb, hml, hown, hg⟩ (kc_Row l D y aS H.size q9 70 12 12 gk_70 rfl (by decide) (by decide +kernel) (by decide)) (cwI 1 hg ggI_RX7_26_X8_init rfl rfl rfl (hg _ gw_48) (hg _ gw_99) (hg _ gw_95) rfl (by decide +kernel) ⟨Nat.le_of_ble_eq_true rfl, Nat.le_of_ble_eq_true rfl⟩) (g_preI hK hP hD) rfl rfl hl.1 rfl (lv_room (Nat.le_of_ble_eq_true rfl)) dX7_init_32 ⟨(Nat.le_of_ble_eq_true rfl), (Nat.le_of_ble_eq_true rfl)⟩) hP hD hS hA ?_
  clear hP hD hS
  intro u10 H locs hqu10 hP hD hS
  obtain ⟨ad11, hs12, hm13, heq⟩ := G_merge (y := y) (ad := ad4) (u := u10.1) (σ := gStart) hcad4 hqu10.2.1 (fun k hk hn => by have b1 := (hqu10.2.2 k).mp hk; have b2 := (hMad4 k).mp hn; omega)
  replace hP : va_P D vwCl ([(h0, .inr (7, [.ref q1, .ref q2, .null, .null, .null, .int 0])), (q1, .inl (y 4, 10, .inr (.inr (.inr (.inr (fun _ => none))))))] ++ GW (Lad4 ++ u10.2) y ad11 gStart) H := by rw [← heq]; exact hP
  replace hD : va_D A ([(h0, .inr (7, [.ref q1, .ref q2, .null, .null, .null, .int 0])), (q1, .inl (y 4, 10, .inr (.inr (.inr (.inr (fun _ => none))))))] ++ GW (Lad4 ++ u10.2) y ad11 gStart) := by rw [← heq]; exact hD
  clear heq
  have hcad11 : gClL (Lad4 ++ u10.2) := gClL_app hcad4 hqu10.2.1
  have hMad11 : ∀ k, k ∈ (Lad4 ++ u10.2) ↔ ((67 ≤ k ∧ k < 67 + 3) ∨ (70 ≤ k ∧ k < 70 + 2)) := fun k => List.mem_append.trans (by have b1 := hqu10.2.2 k; have b2 := hMad4 k; constructor <;> intro h <;> (first | omega | (rcases h with h | h <;> first | (have := b1.mp h; omega) | (have := b2.mp h; omega)) | (rw [b1, b2]; omega)))
  have hf15 : ad11 67 = q2 := (hs12 67 ((hMad4 67).mpr (by omega))).trans hf8
  have hf16 : ad11 70 = q9 := (hm13 70 ((hqu10.2.2 70).mpr (by omega))).trans hqu10.1
  generalize hL0 : (Lad4 ++ u10.2) = Lad11 at hP hD hcad11 hMad11
  clear hL0
  refine gm_putF (D := D) (ci := 7) (v := .ref q9) (ty := .object "Greentrunk$Row") (C := RX7) (T := TX7) (N := 6) hx hb hg inlX7 tyX7 tyX7_ok nmX7 hown hK.1 hP hD hS 0 rfl rfl 2 (by decide) tX7_2 (hg _ gw_84) hin rfl (by decide +kernel) rfl rfl (Nat.le_of_ble_eq_true rfl) dX7_init_35 ?_
  clear hP hD hS
  refine fun H locs (hP : va_P D vwCl (([(h0, .inr (7, [.ref q1, .ref q2, .ref q9, .null, .null, .int 0])), (q1, .inl (y 4, 10, .inr (.inr (.inr (.inr (fun _ => none))))))] ++ GW Lad11 y ad11 gStart)) H) (hD : va_D A (([(h0, .inr (7, [.ref q1, .ref q2, .ref q9, .null, .null, .int 0])), (q1, .inl (y 4, 10, .inr (.inr (.inr (.inr (fun _ => none))))))] ++ GW Lad11 y ad11 gStart))) hS => ?_
  refine lv_aload_n hx hb dX7_init_38 rfl (lv_at hl 0 rfl) ?_
  refine va_new (ci := 8) (fs := [.null, .int 0]) (C := RX8) (T := TX8) (N := 2) hx hb hg inlX8 tyX8 tyX8_ok hown (hg _ gw_83) (hg _ gw_47) (hg _ gw_48) hK.1 hP hD hS hA rfl dfX8 (Nat.le_of_ble_eq_true rfl) (Nat.le_of_ble_eq_true rfl) dX7_init_39 ?_
  clear hP hD hS
  intro q17 H hP hD hS
  refine lv_dup hx hb dX7_init_42 rfl ?_
  refine lv_bipush (v := 12) hx hb dX7_init_43 (by decide +kernel) ?_
  refine g_avI (va_runI (As := [.int 12]) (rest := [.ref q17, .ref h0]) ⟨hx, hb, hml, hown, hg⟩ (kc_Row l D y aS H.size q17 72 12 12 gk_72 rfl (by decide) (by decide +kernel) (by decide)) (cwI 1 hg ggI_RX7_26_X8_init rfl rfl rfl (hg _ gw_48) (hg _ gw_99) (hg _ gw_95) rfl (by decide +kernel) ⟨Nat.le_of_ble_eq_true rfl, Nat.le_of_ble_eq_true rfl⟩) (g_preI hK hP hD) rfl rfl hl.1 rfl (lv_room (Nat.le_of_ble_eq_true rfl)) dX7_init_45 ⟨(Nat.le_of_ble_eq_true rfl), (Nat.le_of_ble_eq_true rfl)⟩) hP hD hS hA ?_
  clear hP hD hS
  intro u18 H locs hqu18 hP hD hS
  obtain ⟨ad19, hs20, hm21, heq⟩ := G_merge (y := y) (ad := ad11) (u := u18.1) (σ := gStart) hcad11 hqu18.2.1 (fun k hk hn => by have b1 := (hqu18.2.2 k).mp hk; have b2 := (hMad11 k).mp hn; omega)
  replace hP : va_P D vwCl ([(h0, .inr (7, [.ref q1, .ref q2, .ref q9, .null, .null, .int 0])), (q1, .inl (y 4, 10, .inr (.inr (.inr (.inr (fun _ => none))))))] ++ GW (Lad11 ++ u18.2) y ad19 gStart) H := by rw [← heq]; exact hP
  replace hD : va_D A ([(h0, .inr (7, [.ref q1, .ref q2, .ref q9, .null, .null, .int 0])), (q1, .inl (y 4, 10, .inr (.inr (.inr (.inr (fun _ => none))))))] ++ GW (Lad11 ++ u18.2) y ad19 gStart) := by rw [← heq]; exact hD
  clear heq
  have hcad19 : gClL (Lad11 ++ u18.2) := gClL_app hcad11 hqu18.2.1
  have hMad19 : ∀ k, k ∈ (Lad11 ++ u18.2) ↔ (((67 ≤ k ∧ k < 67 + 3) ∨ (70 ≤ k ∧ k < 70 + 2)) ∨ (72 ≤ k ∧ k < 72 + 2)) := fun k => List.mem_append.trans (by have b1 := hqu18.2.2 k; have b2 := hMad11 k; constructor <;> intro h <;> (first | omega | (rcases h with h | h <;> first | (have := b1.mp h; omega) | (have := b2.mp h; omega)) | (rw [b1, b2]; omega)))
  have hf23 : ad19 67 = q2 := (hs20 67 ((hMad11 67).mpr (by omega))).trans hf15
  have hf24 : ad19 70 = q9 := (hs20 70 ((hMad11 70).mpr (by omega))).trans hf16
  have hf25 : ad19 72 = q17 := (hm21 72 ((hqu18.2.2 72).mpr (by omega))).trans hqu18.1
  generalize hL0 : (Lad11 ++ u18.2) = Lad19 at hP hD hcad19 hMad19
  clear hL0
  refine gm_putF (D := D) (ci := 7) (v := .ref q17) (ty := .object "Greentrunk$Row") (C := RX7) (T := TX7) (N := 6) hx hb hg inlX7 tyX7 tyX7_ok nmX7 hown hK.1 hP hD hS 0 rfl rfl 3 (by decide) tX7_3 (hg _ gw_85) hin rfl (by decide +kernel) rfl rfl (Nat.le_of_ble_eq_true rfl) dX7_init_48 ?_
  clear hP hD hS
  refine fun H locs (hP : va_P D vwCl (([(h0, .inr (7, [.ref q1, .ref q2, .ref q9, .ref q17, .null, .int 0])), (q1, .inl (y 4, 10, .inr (.inr (.inr (.inr (fun _ => none))))))] ++ GW Lad19 y ad19 gStart)) H) (hD : va_D A (([(h0, .inr (7, [.ref q1, .ref q2, .ref q9, .ref q17, .null, .int 0])), (q1, .inl (y 4, 10, .inr (.inr (.inr (.inr (fun _ => none))))))] ++ GW Lad19 y ad19 gStart))) hS => ?_
  refine lv_aload_n hx hb dX7_init_51 rfl (lv_at hl 0 rfl) ?_
  refine va_new (ci := 8) (fs := [.null, .int 0]) (C := RX8) (T := TX8) (N := 2) hx hb hg inlX8 tyX8 tyX8_ok hown (hg _ gw_83) (hg _ gw_47) (hg _ gw_48) hK.1 hP hD hS hA rfl dfX8 (Nat.le_of_ble_eq_true rfl) (Nat.le_of_ble_eq_true rfl) dX7_init_52 ?_
  clear hP hD hS
  intro q26 H hP hD hS
  refine lv_dup hx hb dX7_init_55 rfl ?_
  refine lv_bipush (v := 12) hx hb dX7_init_56 (by decide +kernel) ?_
  refine g_avI (va_runI (As := [.int 12]) (rest := [.ref q26, .ref h0]) ⟨hx, hb, hml, hown, hg⟩ (kc_Row l D y aS H.size q26 74 12 12 gk_74 rfl (by decide) (by decide +kernel) (by decide)) (cwI 1 hg ggI_RX7_26_X8_init rfl rfl rfl (hg _ gw_48) (hg _ gw_99) (hg _ gw_95) rfl (by decide +kernel) ⟨Nat.le_of_ble_eq_true rfl, Nat.le_of_ble_eq_true rfl⟩) (g_preI hK hP hD) rfl rfl hl.1 rfl (lv_room (Nat.le_of_ble_eq_true rfl)) dX7_init_58 ⟨(Nat.le_of_ble_eq_true rfl), (Nat.le_of_ble_eq_true rfl)⟩) hP hD hS hA ?_
  clear hP hD hS
  intro u27 H locs hqu27 hP hD hS
  obtain ⟨ad28, hs29, hm30, heq⟩ := G_merge (y := y) (ad := ad19) (u := u27.1) (σ := gStart) hcad19 hqu27.2.1 (fun k hk hn => by have b1 := (hqu27.2.2 k).mp hk; have b2 := (hMad19 k).mp hn; omega)
  replace hP : va_P D vwCl ([(h0, .inr (7, [.ref q1, .ref q2, .ref q9, .ref q17, .null, .int 0])), (q1, .inl (y 4, 10, .inr (.inr (.inr (.inr (fun _ => none))))))] ++ GW (Lad19 ++ u27.2) y ad28 gStart) H := by rw [← heq]; exact hP
  replace hD : va_D A ([(h0, .inr (7, [.ref q1, .ref q2, .ref q9, .ref q17, .null, .int 0])), (q1, .inl (y 4, 10, .inr (.inr (.inr (.inr (fun _ => none))))))] ++ GW (Lad19 ++ u27.2) y ad28 gStart) := by rw [← heq]; exact hD
  clear heq
  have hcad28 : gClL (Lad19 ++ u27.2) := gClL_app hcad19 hqu27.2.1
  have hMad28 : ∀ k, k ∈ (Lad19 ++ u27.2) ↔ ((((67 ≤ k ∧ k < 67 + 3) ∨ (70 ≤ k ∧ k < 70 + 2)) ∨ (72 ≤ k ∧ k < 72 + 2)) ∨ (74 ≤ k ∧ k < 74 + 2)) := fun k => List.mem_append.trans (by have b1 := hqu27.2.2 k; have b2 := hMad19 k; constructor <;> intro h <;> (first | omega | (rcases h with h | h <;> first | (have := b1.mp h; omega) | (have := b2.mp h; omega)) | (rw [b1, b2]; omega)))
  have hf32 : ad28 67 = q2 := (hs29 67 ((hMad19 67).mpr (by omega))).trans hf23
  have hf33 : ad28 70 = q9 := (hs29 70 ((hMad19 70).mpr (by omega))).trans hf24
  have hf34 : ad28 72 = q17 := (hs29 72 ((hMad19 72).mpr (by omega))).trans hf25
  have hf35 : ad28 74 = q26 := (hm30 74 ((hqu27.2.2 74).mpr (by omega))).trans hqu27.1
  generalize hL0 : (Lad19 ++ u27.2) = Lad28 at hP hD hcad28 hMad28
  clear hL0
  refine gm_putF (D := D) (ci := 7) (v := .ref q26) (ty := .object "Greentrunk$Row") (C := RX7) (T := TX7) (N := 6) hx hb hg inlX7 tyX7 tyX7_ok nmX7 hown hK.1 hP hD hS 0 rfl rfl 4 (by decide) tX7_4 (hg _ gw_86) hin rfl (by decide +kernel) rfl rfl (Nat.le_of_ble_eq_true rfl) dX7_init_61 ?_
  clear hP hD hS
  refine fun H locs (hP : va_P D vwCl (([(h0, .inr (7, [.ref q1, .ref q2, .ref q9, .ref q17, .ref q26, .int 0])), (q1, .inl (y 4, 10, .inr (.inr (.inr (.inr (fun _ => none))))))] ++ GW Lad28 y ad28 gStart)) H) (hD : va_D A (([(h0, .inr (7, [.ref q1, .ref q2, .ref q9, .ref q17, .ref q26, .int 0])), (q1, .inl (y 4, 10, .inr (.inr (.inr (.inr (fun _ => none))))))] ++ GW Lad28 y ad28 gStart))) hS => ?_
  refine lv_iconst (v := 0) hx hb dX7_init_64 (by decide) ?_
  refine lv_istore_n (lv' := [(1, .int 0), (0, .ref h0)]) hx hb dX7_init_65 rfl hl (by decide) rfl ?_
  clear hl
  intro ls hl
  exact wc_Pipeline (aS := aS) hx hb hr hml hown hg hlocks hin hK hA 10 0 rfl Lad28 ad28 (fun _ => none) _ _ _ _ _ (by omega) (by omega) hcad28 (fun k => (hMad28 k).trans (by omega)) (fun j hj => absurd hj (by omega)) (fun j hj => rfl) hf32 hf33 hf34 hf35 hP hD hS hl
theorem ggI_RX11_9_X2_init : GoodIn wsL_law ([] ++ (Cond.code yX2_init cX2_init 2 none :: wsL_law)) := g_gi (fun _ h => h) gW_good (fun _ h => nomatch h) ⟨gw_58, rfl⟩
theorem ggI_RX11_18_X7_init : GoodIn wsL_law ([] ++ (Cond.code yX7_init cX7_init 2 none :: wsL_law)) := g_gi (fun _ h => h) gW_good (fun _ h => nomatch h) ⟨gw_76, rfl⟩
theorem ggI_RX11_25_X9_init : GoodIn wsL_law ([] ++ (Cond.code yX9_init cX9_init 1 none :: wsL_law)) := g_gi (fun _ h => h) gW_good (fun _ h => nomatch h) ⟨gw_101, rfl⟩
theorem ggI_RX11_32_X4_init : GoodIn wsL_law ([] ++ (Cond.code yX4_init cX4_init 1 none :: wsL_law)) := g_gi (fun _ h => h) gW_good (fun _ h => nomatch h) ⟨gw_106, rfl⟩
theorem ggI_RX11_39_X0_init : GoodIn wsL_law ([] ++ (Cond.code yX0_init cX0_init 1 none :: wsL_law)) := g_gi (fun _ h => h) gW_good (fun _ h => nomatch h) ⟨gw_117, rfl⟩
theorem ggI_RX11_46_X10_init : GoodIn wsL_law ([] ++ (Cond.code yX10_init cX10_init 1 none :: wsL_law)) := g_gi (fun _ h => h) gW_good (fun _ h => nomatch h) ⟨gw_125, rfl⟩
theorem ggI_RX11_53_X5_init : GoodIn wsL_law ([] ++ (Cond.code yX5_init cX5_init 1 none :: wsL_law)) := g_gi (fun _ h => h) gW_good (fun _ h => nomatch h) ⟨gw_134, rfl⟩
theorem ggI_RX11_64_X6_init : GoodIn wsL_law ([] ++ (Cond.code yX6_init cX6_init 2 none :: wsL_law)) := g_gi (fun _ h => h) gW_good (fun _ h => nomatch h) ⟨gw_144, rfl⟩
theorem ggI_RX11_73_X8_init : GoodIn wsL_law ([] ++ (Cond.code yX8_init cX8_init 2 none :: wsL_law)) := g_gi (fun _ h => h) gW_good (fun _ h => nomatch h) ⟨gw_96, rfl⟩
theorem ggV_RX11_89_X8_addMany : GoodIn wsL_law (wsV RX11 89 RX8 yX8_addMany (Cond.code yX8_addMany cX8_addMany 5 none :: wsL_law)) := g_gi (fun _ h => h) gW_good (List.forall_mem_cons.mpr ⟨⟨gw_155, rfl⟩, List.forall_mem_cons.mpr ⟨⟨gw_156, rfl⟩, List.forall_mem_cons.mpr ⟨⟨gw_157, rfl⟩, List.forall_mem_cons.mpr ⟨⟨gw_48, rfl⟩, fun _ h => nomatch h⟩⟩⟩⟩) ⟨gw_158, rfl⟩
set_option maxRecDepth 100000 in
set_option maxHeartbeats 400000 in
theorem wc_Green {p : Program} {l : Launch} {e : Env} {s : State} {m : MethodId} {args : Array Value} {below : List Frame} {meth : Method} {c : Code} {D : va_G} {y : Nat → ClassId} {aS : Nat → Nat} {A : Nat → Prop} {h0 qa : Nat} {qf1 : Nat} {qf65 : Nat} {qf106 : Nat} {qf109 : Nat} {qf118 : Nat} {qf125 : Nat} {qf134 : Nat} {N : Nat} {σ1 : gS} {σ2 : gS} {σ3 : gS} {σ4 : gS} {σ5 : gS} (hx : p.tables.exec = Jvm.exec) (hb : c.code = cX11_init) (hr : meth.sig.returnType = none) (hml : c.maxLocals = 2) (hown : s.vm.findClass RX11 = some m.cls) (hg : ∀ w ∈ wsL_law, w.before args s = true) (hlocks : meth.locks = false) (hin : meth.name = "<init>") (hK : gK D y aS s) (hA : ∀ q, s.heap.size ≤ q → A q) (e1 : fX8_add N gStart 151 0 = some σ1) (e2 : fX8_addMany N σ1 153 12 (-1) = some σ2) (e3 : fX8_addMany N σ2 155 3 1 = some σ3) (e4 : fX8_addMany N σ3 157 3 0 = some σ4) (e5 : fX8_addMany N σ4 159 8 0 = some σ5) (a1 : ∀ k, k < 151 ∨ 153 ≤ k → gStart.1 k = σ1.1 k ∧ gStart.2.1 k = σ1.2.1 k) (l1 : gStart.2.2 = σ1.2.2) (a2 : ∀ k, k < 151 ∨ 155 ≤ k → gStart.1 k = σ2.1 k ∧ gStart.2.1 k = σ2.2.1 k) (l2 : gStart.2.2 = σ2.2.2) (a3 : ∀ k, k < 151 ∨ 157 ≤ k → gStart.1 k = σ3.1 k ∧ gStart.2.1 k = σ3.2.1 k) (l3 : gStart.2.2 = σ3.2.2) (a4 : ∀ k, k < 151 ∨ 159 ≤ k → gStart.1 k = σ4.1 k ∧ gStart.2.1 k = σ4.2.1 k) (l4 : gStart.2.2 = σ4.2.2) (a5 : ∀ k, k < 151 ∨ 161 ≤ k → gStart.1 k = σ5.1 k ∧ gStart.2.1 k = σ5.2.1 k) (l5 : gStart.2.2 = σ5.2.2) : ∀ (n i : Nat), i + n = 6 → ∀ (L : List Nat) (ad : Nat → Nat) (fa : Nat → Option Nat) (kc ns : Nat) (H : Heap) (locs : List Loc) (ls : Array Slot), kc + 1 * n ≤ 149 → ns + 6 * n ≤ 2747 → gClL L → (∀ k, k ∈ L ↔ ((1 ≤ k ∧ k < 143) ∨ 144 ≤ k ∧ k < 144 + i)) → (∀ j, j < i → fa j = some (ad (144 + j))) → (∀ j, i ≤ j → fa j = none) → ad 1 = qf1 → ad 65 = qf65 → ad 106 = qf106 → ad 109 = qf109 → ad 118 = qf118 → ad 125 = qf125 → ad 134 = qf134 → va_P D vwCl ([(h0, .inr (11, [.ref qf1, .ref qf65, .ref qf106, .ref qf109, .ref qf118, .ref qf125, .ref qf134, .ref qa, .null, .null, .null, .null, .null, .null, .int 0, .int 0, .int 0, .int 0, .int 0])), (qa, .inl (y 5, 6, .inr (.inr (.inr (.inr fa)))))] ++ GW L y ad gStart) H → va_D A ([(h0, .inr (11, [.ref qf1, .ref qf65, .ref qf106, .ref qf109, .ref qf118, .ref qf125, .ref qf134, .ref qa, .null, .null, .null, .null, .null, .null, .int 0, .int 0, .int 0, .int 0, .int 0])), (qa, .inl (y 5, 6, .inr (.inr (.inr (.inr fa)))))] ++ GW L y ad gStart) → va_S A s.heap H locs → lv_has ls 2 [(1, .int (Int32.ofNat i)), (0, .ref h0)] → W p l e ({ frames := 4, cells := 160, slots := 2850, locals := 75 } : Room) s m args below meth c H locs kc ns (MQ below (va_Qv (fun (u : (Nat → Nat) × List Nat) => u.1 0 = h0 ∧ gClL u.2 ∧ ∀ k, k ∈ u.2 ↔ (k < 161)) (fun u => gO D A (GW u.2 y u.1 σ5)) A) args s 160 2850 A) (F0 m 92 ls []) := by
  intro n
  induction n with
  | zero =>
    intro i hin2 L ad fa kc ns H locs ls hkc hns hcl hmem hfa hfb hf1 hf65 hf106 hf109 hf118 hf125 hf134 hP hD hS hl
    obtain rfl : i = 6 := by omega
    refine lv_iload_n hx hb dX11_init_92 rfl (lv_at hl 0 rfl) ?_
    refine lv_aload_n hx hb dX11_init_93 rfl (lv_at hl 1 rfl) ?_
    refine gm_get (D := D) (ci := 11) (v := .ref qa) (C := RX11) (T := TX11) (N := 19) hx hb hg inlX11 hown hK.1 hP 0 rfl rfl 7 (by decide) tX11_7 (hg _ gw_42) rfl dX11_init_94 ?_
    refine va_alen hx hb hK.1 hP 1 5 rfl rfl (v := 6) rfl dX11_init_97 ?_
    refine lv_icmp_ge (tgt := 129) hx hb dX11_init_98 (by decide) (fun _ => ?_) (fun c9 => absurd (g_ige (n := 6)) c9)
    have hn2 : 143 ∉ L := fun h => by have := (hmem 143).mp h; omega
    have hx1 := G_abs (y := y) (ad := ad) (σ := gStart) (addr := qa) (en := .inl (y 5, 6, .inr (.inr (.inr (.inr fa))))) hcl hn2 (by
    rw [gW_a25 gk_143]
    refine Prod.ext (by simp) ?_
    show Sum.inl (_, _, Sum.inr (Sum.inr (Sum.inr (Sum.inr (fun j => if j < 6 then some ((fun k => if k = 143 then qa else ad k) (144 + j)) else none))))) = _
    rw [show (fun j => if j < 6 then some ((fun k => if k = 143 then qa else ad k) (144 + j)) else none) = fa from by
      funext j
      by_cases h9 : j < 6
      · rw [if_pos h9, hfa j (by omega)]; exact congrArg some (if_neg (by omega))
      · rw [if_neg h9, hfb j (by omega)]])
    have hc3 : gClL (143 :: L) := gClL_cons hcl (fun y ad ad' σ h h2 => by
    rw [gW_a25 gk_143, gW_a25 gk_143, h]
    rw [show (fun j => if j < 6 then some (ad (144 + j)) else none) = (fun j => if j < 6 then some (ad' (144 + j)) else none) from by
      funext j
      by_cases h9 : j < 6
      · rw [if_pos h9, if_pos h9, h2 _ ((hmem (144 + j)).mpr (by omega))]
      · rw [if_neg h9, if_neg h9]])
    have hM4 : ∀ k, k ∈ (143 :: L) ↔ (k = 143 ∨ ((1 ≤ k ∧ k < 143) ∨ 144 ≤ k ∧ k < 144 + 6)) := fun k => List.mem_cons.trans (by rw [hmem k])
    have hf5 : (fun k => if k = 143 then qa else ad k) 1 = qf1 := (if_neg (by omega)).trans hf1
    have hf6 : (fun k => if k = 143 then qa else ad k) 65 = qf65 := (if_neg (by omega)).trans hf65
    have hf7 : (fun k => if k = 143 then qa else ad k) 106 = qf106 := (if_neg (by omega)).trans hf106
    have hf8 : (fun k => if k = 143 then qa else ad k) 109 = qf109 := (if_neg (by omega)).trans hf109
    have hf9 : (fun k => if k = 143 then qa else ad k) 118 = qf118 := (if_neg (by omega)).trans hf118
    have hf10 : (fun k => if k = 143 then qa else ad k) 125 = qf125 := (if_neg (by omega)).trans hf125
    have hf11 : (fun k => if k = 143 then qa else ad k) 134 = qf134 := (if_neg (by omega)).trans hf134
    have hf12 : (fun k => if k = 143 then qa else ad k) 143 = qa := by simp
    replace hP : va_P D vwCl ([(h0, .inr (11, [.ref qf1, .ref qf65, .ref qf106, .ref qf109, .ref qf118, .ref qf125, .ref qf134, .ref qa, .null, .null, .null, .null, .null, .null, .int 0, .int 0, .int 0, .int 0, .int 0]))] ++ ((qa, .inl (y 5, 6, .inr (.inr (.inr (.inr fa))))) :: GW L y ad gStart)) H := hP
    replace hD : va_D A ([(h0, .inr (11, [.ref qf1, .ref qf65, .ref qf106, .ref qf109, .ref qf118, .ref qf125, .ref qf134, .ref qa, .null, .null, .null, .null, .null, .null, .int 0, .int 0, .int 0, .int 0, .int 0]))] ++ ((qa, .inl (y 5, 6, .inr (.inr (.inr (.inr fa))))) :: GW L y ad gStart)) := hD
    rw [hx1] at hP hD
    clear hx1
    refine lv_aload_n hx hb dX11_init_129 rfl (lv_at hl 1 rfl) ?_
    refine va_new (ci := 6) (fs := [.int 0, .int 0, .int 0, .long 0, .int 0, .int 0]) (C := RX6) (T := TX6) (N := 6) hx hb hg inlX6 tyX6 tyX6_ok hown (hg _ gw_41) (hg _ gw_43) (hg _ gw_44) hK.1 hP hD hS hA rfl dfX6 (by first | omega | (dsimp only; omega)) (by first | omega | (dsimp only; omega)) dX11_init_130 ?_
    clear hP hD hS
    intro q13 H hP hD hS
    refine lv_dup hx hb dX11_init_133 rfl ?_
    refine lv_iconst (v := 0) hx hb dX11_init_134 (by decide) ?_
    refine g_avI (va_runI (As := [.int 0]) (rest := [.ref q13, .ref h0]) ⟨hx, hb, hml, hown, hg⟩ (kc_Machine l D y aS H.size q13 150 0 gk_150 (by decide +kernel) (Or.inl rfl)) (cwI 1 hg ggI_RX11_64_X6_init rfl rfl rfl (hg _ gw_44) (hg _ gw_142) (hg _ gw_143) rfl (by decide +kernel) ⟨Nat.le_of_ble_eq_true rfl, Nat.le_of_ble_eq_true rfl⟩) (g_preI hK hP hD) rfl rfl hl.1 rfl (lv_room (Nat.le_of_ble_eq_true rfl)) dX11_init_135 ⟨(by first | omega | (dsimp only; omega)), (by first | omega | (dsimp only; omega))⟩) hP hD hS hA ?_
    clear hP hD hS
    intro u14 H locs hqu14 hP hD hS
    obtain ⟨ad15, hs16, hm17, heq⟩ := G_merge (y := y) (ad := (fun k => if k = 143 then qa else ad k)) (u := u14.1) (σ := gStart) hc3 hqu14.2.1 (fun k hk hn => by have b1 := (hqu14.2.2 k).mp hk; have b2 := (hM4 k).mp hn; omega)
    replace hP : va_P D vwCl ([(h0, .inr (11, [.ref qf1, .ref qf65, .ref qf106, .ref qf109, .ref qf118, .ref qf125, .ref qf134, .ref qa, .null, .null, .null, .null, .null, .null, .int 0, .int 0, .int 0, .int 0, .int 0]))] ++ GW ((143 :: L) ++ u14.2) y ad15 gStart) H := by rw [← heq]; exact hP
    replace hD : va_D A ([(h0, .inr (11, [.ref qf1, .ref qf65, .ref qf106, .ref qf109, .ref qf118, .ref qf125, .ref qf134, .ref qa, .null, .null, .null, .null, .null, .null, .int 0, .int 0, .int 0, .int 0, .int 0]))] ++ GW ((143 :: L) ++ u14.2) y ad15 gStart) := by rw [← heq]; exact hD
    clear heq
    have hcad15 : gClL ((143 :: L) ++ u14.2) := gClL_app hc3 hqu14.2.1
    have hMad15 : ∀ k, k ∈ ((143 :: L) ++ u14.2) ↔ ((k = 143 ∨ ((1 ≤ k ∧ k < 143) ∨ 144 ≤ k ∧ k < 144 + 6)) ∨ (150 ≤ k ∧ k < 150 + 1)) := fun k => List.mem_append.trans (by have b1 := hqu14.2.2 k; have b2 := hM4 k; constructor <;> intro h <;> (first | omega | (rcases h with h | h <;> first | (have := b1.mp h; omega) | (have := b2.mp h; omega)) | (rw [b1, b2]; omega)))
    have hf19 : ad15 1 = qf1 := (hs16 1 ((hM4 1).mpr (by omega))).trans hf5
    have hf20 : ad15 65 = qf65 := (hs16 65 ((hM4 65).mpr (by omega))).trans hf6
    have hf21 : ad15 106 = qf106 := (hs16 106 ((hM4 106).mpr (by omega))).trans hf7
    have hf22 : ad15 109 = qf109 := (hs16 109 ((hM4 109).mpr (by omega))).trans hf8
    have hf23 : ad15 118 = qf118 := (hs16 118 ((hM4 118).mpr (by omega))).trans hf9
    have hf24 : ad15 125 = qf125 := (hs16 125 ((hM4 125).mpr (by omega))).trans hf10
    have hf25 : ad15 134 = qf134 := (hs16 134 ((hM4 134).mpr (by omega))).trans hf11
    have hf26 : ad15 143 = qa := (hs16 143 ((hM4 143).mpr (by omega))).trans hf12
    have hf27 : ad15 150 = q13 := (hm17 150 ((hqu14.2.2 150).mpr (by omega))).trans hqu14.1
    generalize hL0 : ((143 :: L) ++ u14.2) = Lad15 at hP hD hcad15 hMad15
    clear hL0
    refine gm_putF (D := D) (ci := 11) (v := .ref q13) (ty := .object "Greentrunk$Machine") (C := RX11) (T := TX11) (N := 19) hx hb hg inlX11 tyX11 tyX11_ok nmX11 hown hK.1 hP hD hS 0 rfl rfl 8 (by decide) tX11_8 (hg _ gw_45) hin rfl (by decide +kernel) rfl rfl (Nat.le_of_ble_eq_true rfl) dX11_init_138 ?_
    clear hP hD hS
    refine fun H locs (hP : va_P D vwCl (([(h0, .inr (11, [.ref qf1, .ref qf65, .ref qf106, .ref qf109, .ref qf118, .ref qf125, .ref qf134, .ref qa, .ref q13, .null, .null, .null, .null, .null, .int 0, .int 0, .int 0, .int 0, .int 0]))] ++ GW Lad15 y ad15 gStart)) H) (hD : va_D A (([(h0, .inr (11, [.ref qf1, .ref qf65, .ref qf106, .ref qf109, .ref qf118, .ref qf125, .ref qf134, .ref qa, .ref q13, .null, .null, .null, .null, .null, .int 0, .int 0, .int 0, .int 0, .int 0]))] ++ GW Lad15 y ad15 gStart))) hS => ?_
    refine lv_aload_n hx hb dX11_init_141 rfl (lv_at hl 1 rfl) ?_
    refine va_new (ci := 8) (fs := [.null, .int 0]) (C := RX8) (T := TX8) (N := 2) hx hb hg inlX8 tyX8 tyX8_ok hown (hg _ gw_46) (hg _ gw_47) (hg _ gw_48) hK.1 hP hD hS hA rfl dfX8 (by first | omega | (dsimp only; omega)) (by first | omega | (dsimp only; omega)) dX11_init_142 ?_
    clear hP hD hS
    intro q28 H hP hD hS
    refine lv_dup hx hb dX11_init_145 rfl ?_
    refine lv_bipush (v := 61) hx hb dX11_init_146 (by decide +kernel) ?_
    refine g_avI (va_runI (As := [.int 61]) (rest := [.ref q28, .ref h0]) ⟨hx, hb, hml, hown, hg⟩ (kc_Row l D y aS H.size q28 151 61 61 gk_151 rfl (by decide) (by decide +kernel) (by decide)) (cwI 1 hg ggI_RX11_73_X8_init rfl rfl rfl (hg _ gw_48) (hg _ gw_149) (hg _ gw_95) rfl (by decide +kernel) ⟨Nat.le_of_ble_eq_true rfl, Nat.le_of_ble_eq_true rfl⟩) (g_preI hK hP hD) rfl rfl hl.1 rfl (lv_room (Nat.le_of_ble_eq_true rfl)) dX11_init_148 ⟨(by first | omega | (dsimp only; omega)), (by first | omega | (dsimp only; omega))⟩) hP hD hS hA ?_
    clear hP hD hS
    intro u29 H locs hqu29 hP hD hS
    obtain ⟨ad30, hs31, hm32, heq⟩ := G_merge (y := y) (ad := ad15) (u := u29.1) (σ := gStart) hcad15 hqu29.2.1 (fun k hk hn => by have b1 := (hqu29.2.2 k).mp hk; have b2 := (hMad15 k).mp hn; omega)
    replace hP : va_P D vwCl ([(h0, .inr (11, [.ref qf1, .ref qf65, .ref qf106, .ref qf109, .ref qf118, .ref qf125, .ref qf134, .ref qa, .ref q13, .null, .null, .null, .null, .null, .int 0, .int 0, .int 0, .int 0, .int 0]))] ++ GW (Lad15 ++ u29.2) y ad30 gStart) H := by rw [← heq]; exact hP
    replace hD : va_D A ([(h0, .inr (11, [.ref qf1, .ref qf65, .ref qf106, .ref qf109, .ref qf118, .ref qf125, .ref qf134, .ref qa, .ref q13, .null, .null, .null, .null, .null, .int 0, .int 0, .int 0, .int 0, .int 0]))] ++ GW (Lad15 ++ u29.2) y ad30 gStart) := by rw [← heq]; exact hD
    clear heq
    have hcad30 : gClL (Lad15 ++ u29.2) := gClL_app hcad15 hqu29.2.1
    have hMad30 : ∀ k, k ∈ (Lad15 ++ u29.2) ↔ (((k = 143 ∨ ((1 ≤ k ∧ k < 143) ∨ 144 ≤ k ∧ k < 144 + 6)) ∨ (150 ≤ k ∧ k < 150 + 1)) ∨ (151 ≤ k ∧ k < 151 + 2)) := fun k => List.mem_append.trans (by have b1 := hqu29.2.2 k; have b2 := hMad15 k; constructor <;> intro h <;> (first | omega | (rcases h with h | h <;> first | (have := b1.mp h; omega) | (have := b2.mp h; omega)) | (rw [b1, b2]; omega)))
    have hf34 : ad30 1 = qf1 := (hs31 1 ((hMad15 1).mpr (by omega))).trans hf19
    have hf35 : ad30 65 = qf65 := (hs31 65 ((hMad15 65).mpr (by omega))).trans hf20
    have hf36 : ad30 106 = qf106 := (hs31 106 ((hMad15 106).mpr (by omega))).trans hf21
    have hf37 : ad30 109 = qf109 := (hs31 109 ((hMad15 109).mpr (by omega))).trans hf22
    have hf38 : ad30 118 = qf118 := (hs31 118 ((hMad15 118).mpr (by omega))).trans hf23
    have hf39 : ad30 125 = qf125 := (hs31 125 ((hMad15 125).mpr (by omega))).trans hf24
    have hf40 : ad30 134 = qf134 := (hs31 134 ((hMad15 134).mpr (by omega))).trans hf25
    have hf41 : ad30 143 = qa := (hs31 143 ((hMad15 143).mpr (by omega))).trans hf26
    have hf42 : ad30 150 = q13 := (hs31 150 ((hMad15 150).mpr (by omega))).trans hf27
    have hf43 : ad30 151 = q28 := (hm32 151 ((hqu29.2.2 151).mpr (by omega))).trans hqu29.1
    generalize hL0 : (Lad15 ++ u29.2) = Lad30 at hP hD hcad30 hMad30
    clear hL0
    refine gm_putF (D := D) (ci := 11) (v := .ref q28) (ty := .object "Greentrunk$Row") (C := RX11) (T := TX11) (N := 19) hx hb hg inlX11 tyX11 tyX11_ok nmX11 hown hK.1 hP hD hS 0 rfl rfl 9 (by decide) tX11_9 (hg _ gw_49) hin rfl (by decide +kernel) rfl rfl (Nat.le_of_ble_eq_true rfl) dX11_init_151 ?_
    clear hP hD hS
    refine fun H locs (hP : va_P D vwCl (([(h0, .inr (11, [.ref qf1, .ref qf65, .ref qf106, .ref qf109, .ref qf118, .ref qf125, .ref qf134, .ref qa, .ref q13, .ref q28, .null, .null, .null, .null, .int 0, .int 0, .int 0, .int 0, .int 0]))] ++ GW Lad30 y ad30 gStart)) H) (hD : va_D A (([(h0, .inr (11, [.ref qf1, .ref qf65, .ref qf106, .ref qf109, .ref qf118, .ref qf125, .ref qf134, .ref qa, .ref q13, .ref q28, .null, .null, .null, .null, .int 0, .int 0, .int 0, .int 0, .int 0]))] ++ GW Lad30 y ad30 gStart))) hS => ?_
    refine lv_aload_n hx hb dX11_init_154 rfl (lv_at hl 1 rfl) ?_
    refine gm_get (D := D) (ci := 11) (v := .ref q28) (C := RX11) (T := TX11) (N := 19) hx hb hg inlX11 hown hK.1 hP 0 rfl rfl 9 (by decide) tX11_9 (hg _ gw_49) rfl dX11_init_155 ?_
    refine g_fr (v := .ref (ad30 151)) (by rw [hf43]) ?_
    refine lv_lconst (v := 0) hx hb dX11_init_158 (by decide) ?_
    obtain ⟨qr, hqr⟩ := GW_at (y := y) (ad := ad30) (σ := gStart) ((hMad30 151).mpr (by omega))
    rw [gce_obj gk_151 (by decide)] at hqr
    refine g_avT (W0 := GW Lad30 y ad30 gStart) (va_runV (As := [.long 0]) (rest := []) ⟨hx, hb, hml, hown, hg⟩ (kCX8_add l D y aS H.size Lad30 151 ⟨(hMad30 151).mpr (by omega), (hMad30 152).mpr (by omega)⟩ ad30 N gStart (0) _ gk_151 e1) (cwV 1 hg ggV_RX11_80_X8_add rfl rfl rfl (by decide +kernel) ⟨Nat.le_of_ble_eq_true rfl, Nat.le_of_ble_eq_true rfl⟩) (g_preT (q := (RX8, TX8, 2)) hK hP hD rfl hqr) rfl rfl hl.1 rfl (lv_room (Nat.le_of_ble_eq_true rfl)) dX11_init_159 ⟨(by first | omega | (dsimp only; omega)), (by first | omega | (dsimp only; omega))⟩) hP hD hS hA ?_
    clear hP hD hS
    refine fun u9 H locs hq9 (hP : va_P D vwCl (([(h0, .inr (11, [.ref qf1, .ref qf65, .ref qf106, .ref qf109, .ref qf118, .ref qf125, .ref qf134, .ref qa, .ref q13, .ref q28, .null, .null, .null, .null, .int 0, .int 0, .int 0, .int 0, .int 0]))] ++ GW Lad30 y ad30 σ1)) H) (hD : va_D A (([(h0, .inr (11, [.ref qf1, .ref qf65, .ref qf106, .ref qf109, .ref qf118, .ref qf125, .ref qf134, .ref qa, .ref q13, .ref q28, .null, .null, .null, .null, .int 0, .int 0, .int 0, .int 0, .int 0]))] ++ GW Lad30 y ad30 σ1))) hS => ?_
    refine lv_aload_n hx hb dX11_init_162 rfl (lv_at hl 1 rfl) ?_
    refine va_new (ci := 8) (fs := [.null, .int 0]) (C := RX8) (T := TX8) (N := 2) hx hb hg inlX8 tyX8 tyX8_ok hown (hg _ gw_46) (hg _ gw_47) (hg _ gw_48) hK.1 hP hD hS hA rfl dfX8 (by first | omega | (dsimp only; omega)) (by first | omega | (dsimp only; omega)) dX11_init_163 ?_
    clear hP hD hS
    intro q44 H hP hD hS
    refine lv_dup hx hb dX11_init_166 rfl ?_
    refine lv_bipush (v := 12) hx hb dX11_init_167 (by decide +kernel) ?_
    refine g_avI (va_runI (As := [.int 12]) (rest := [.ref q44, .ref h0]) ⟨hx, hb, hml, hown, hg⟩ (kc_Row l D y aS H.size q44 153 12 12 gk_153 rfl (by decide) (by decide +kernel) (by decide)) (cwI 1 hg ggI_RX11_73_X8_init rfl rfl rfl (hg _ gw_48) (hg _ gw_149) (hg _ gw_95) rfl (by decide +kernel) ⟨Nat.le_of_ble_eq_true rfl, Nat.le_of_ble_eq_true rfl⟩) (g_preI hK hP hD) rfl rfl hl.1 rfl (lv_room (Nat.le_of_ble_eq_true rfl)) dX11_init_169 ⟨(by first | omega | (dsimp only; omega)), (by first | omega | (dsimp only; omega))⟩) hP hD hS hA ?_
    clear hP hD hS
    intro u45 H locs hqu45 hP hD hS
    rw [GW_sg (σ := gStart) (σ' := σ1) (fun k hk => by have b1 := (hqu45.2.2 k).mp hk; exact a1 k (by omega)) l1] at hP hD
    obtain ⟨ad46, hs47, hm48, heq⟩ := G_merge (y := y) (ad := ad30) (u := u45.1) (σ := σ1) hcad30 hqu45.2.1 (fun k hk hn => by have b1 := (hqu45.2.2 k).mp hk; have b2 := (hMad30 k).mp hn; omega)
    replace hP : va_P D vwCl ([(h0, .inr (11, [.ref qf1, .ref qf65, .ref qf106, .ref qf109, .ref qf118, .ref qf125, .ref qf134, .ref qa, .ref q13, .ref q28, .null, .null, .null, .null, .int 0, .int 0, .int 0, .int 0, .int 0]))] ++ GW (Lad30 ++ u45.2) y ad46 σ1) H := by rw [← heq]; exact hP
    replace hD : va_D A ([(h0, .inr (11, [.ref qf1, .ref qf65, .ref qf106, .ref qf109, .ref qf118, .ref qf125, .ref qf134, .ref qa, .ref q13, .ref q28, .null, .null, .null, .null, .int 0, .int 0, .int 0, .int 0, .int 0]))] ++ GW (Lad30 ++ u45.2) y ad46 σ1) := by rw [← heq]; exact hD
    clear heq
    have hcad46 : gClL (Lad30 ++ u45.2) := gClL_app hcad30 hqu45.2.1
    have hMad46 : ∀ k, k ∈ (Lad30 ++ u45.2) ↔ ((((k = 143 ∨ ((1 ≤ k ∧ k < 143) ∨ 144 ≤ k ∧ k < 144 + 6)) ∨ (150 ≤ k ∧ k < 150 + 1)) ∨ (151 ≤ k ∧ k < 151 + 2)) ∨ (153 ≤ k ∧ k < 153 + 2)) := fun k => List.mem_append.trans (by have b1 := hqu45.2.2 k; have b2 := hMad30 k; constructor <;> intro h <;> (first | omega | (rcases h with h | h <;> first | (have := b1.mp h; omega) | (have := b2.mp h; omega)) | (rw [b1, b2]; omega)))
    have hf50 : ad46 1 = qf1 := (hs47 1 ((hMad30 1).mpr (by omega))).trans hf34
    have hf51 : ad46 65 = qf65 := (hs47 65 ((hMad30 65).mpr (by omega))).trans hf35
    have hf52 : ad46 106 = qf106 := (hs47 106 ((hMad30 106).mpr (by omega))).trans hf36
    have hf53 : ad46 109 = qf109 := (hs47 109 ((hMad30 109).mpr (by omega))).trans hf37
    have hf54 : ad46 118 = qf118 := (hs47 118 ((hMad30 118).mpr (by omega))).trans hf38
    have hf55 : ad46 125 = qf125 := (hs47 125 ((hMad30 125).mpr (by omega))).trans hf39
    have hf56 : ad46 134 = qf134 := (hs47 134 ((hMad30 134).mpr (by omega))).trans hf40
    have hf57 : ad46 143 = qa := (hs47 143 ((hMad30 143).mpr (by omega))).trans hf41
    have hf58 : ad46 150 = q13 := (hs47 150 ((hMad30 150).mpr (by omega))).trans hf42
    have hf59 : ad46 151 = q28 := (hs47 151 ((hMad30 151).mpr (by omega))).trans hf43
    have hf60 : ad46 153 = q44 := (hm48 153 ((hqu45.2.2 153).mpr (by omega))).trans hqu45.1
    generalize hL0 : (Lad30 ++ u45.2) = Lad46 at hP hD hcad46 hMad46
    clear hL0
    refine gm_putF (D := D) (ci := 11) (v := .ref q44) (ty := .object "Greentrunk$Row") (C := RX11) (T := TX11) (N := 19) hx hb hg inlX11 tyX11 tyX11_ok nmX11 hown hK.1 hP hD hS 0 rfl rfl 10 (by decide) tX11_10 (hg _ gw_50) hin rfl (by decide +kernel) rfl rfl (Nat.le_of_ble_eq_true rfl) dX11_init_172 ?_
    clear hP hD hS
    refine fun H locs (hP : va_P D vwCl (([(h0, .inr (11, [.ref qf1, .ref qf65, .ref qf106, .ref qf109, .ref qf118, .ref qf125, .ref qf134, .ref qa, .ref q13, .ref q28, .ref q44, .null, .null, .null, .int 0, .int 0, .int 0, .int 0, .int 0]))] ++ GW Lad46 y ad46 σ1)) H) (hD : va_D A (([(h0, .inr (11, [.ref qf1, .ref qf65, .ref qf106, .ref qf109, .ref qf118, .ref qf125, .ref qf134, .ref qa, .ref q13, .ref q28, .ref q44, .null, .null, .null, .int 0, .int 0, .int 0, .int 0, .int 0]))] ++ GW Lad46 y ad46 σ1))) hS => ?_
    refine lv_aload_n hx hb dX11_init_175 rfl (lv_at hl 1 rfl) ?_
    refine gm_get (D := D) (ci := 11) (v := .ref q44) (C := RX11) (T := TX11) (N := 19) hx hb hg inlX11 hown hK.1 hP 0 rfl rfl 10 (by decide) tX11_10 (hg _ gw_50) rfl dX11_init_176 ?_
    refine g_fr (v := .ref (ad46 153)) (by rw [hf60]) ?_
    refine lv_bipush (v := 12) hx hb dX11_init_179 (by decide +kernel) ?_
    refine lv_ldc2 (v := (-1)) hx hb hown (hg _ gw_51) dX11_init_181 ?_
    obtain ⟨qr, hqr⟩ := GW_at (y := y) (ad := ad46) (σ := σ1) ((hMad46 153).mpr (by omega))
    rw [gce_obj gk_153 (by decide)] at hqr
    refine g_avT (W0 := GW Lad46 y ad46 σ1) (va_runV (As := [.int 12, .long (-1)]) (rest := []) ⟨hx, hb, hml, hown, hg⟩ (kCX8_addMany l D y aS H.size Lad46 153 ⟨(hMad46 153).mpr (by omega), (hMad46 154).mpr (by omega)⟩ ad46 N σ1 (12) ((-1)) _ gk_153 e2) (cwV 2 hg ggV_RX11_89_X8_addMany rfl rfl rfl (by decide +kernel) ⟨Nat.le_of_ble_eq_true rfl, Nat.le_of_ble_eq_true rfl⟩) (g_preT (q := (RX8, TX8, 2)) hK hP hD rfl hqr) rfl rfl hl.1 rfl (lv_room (Nat.le_of_ble_eq_true rfl)) dX11_init_184 ⟨(by first | omega | (dsimp only; omega)), (by first | omega | (dsimp only; omega))⟩) hP hD hS hA ?_
    clear hP hD hS
    refine fun u9 H locs hq9 (hP : va_P D vwCl (([(h0, .inr (11, [.ref qf1, .ref qf65, .ref qf106, .ref qf109, .ref qf118, .ref qf125, .ref qf134, .ref qa, .ref q13, .ref q28, .ref q44, .null, .null, .null, .int 0, .int 0, .int 0, .int 0, .int 0]))] ++ GW Lad46 y ad46 σ2)) H) (hD : va_D A (([(h0, .inr (11, [.ref qf1, .ref qf65, .ref qf106, .ref qf109, .ref qf118, .ref qf125, .ref qf134, .ref qa, .ref q13, .ref q28, .ref q44, .null, .null, .null, .int 0, .int 0, .int 0, .int 0, .int 0]))] ++ GW Lad46 y ad46 σ2))) hS => ?_
    refine lv_aload_n hx hb dX11_init_187 rfl (lv_at hl 1 rfl) ?_
    refine va_new (ci := 8) (fs := [.null, .int 0]) (C := RX8) (T := TX8) (N := 2) hx hb hg inlX8 tyX8 tyX8_ok hown (hg _ gw_46) (hg _ gw_47) (hg _ gw_48) hK.1 hP hD hS hA rfl dfX8 (by first | omega | (dsimp only; omega)) (by first | omega | (dsimp only; omega)) dX11_init_188 ?_
    clear hP hD hS
    intro q61 H hP hD hS
    refine lv_dup hx hb dX11_init_191 rfl ?_
    refine lv_iconst (v := 3) hx hb dX11_init_192 (by decide) ?_
    refine g_avI (va_runI (As := [.int 3]) (rest := [.ref q61, .ref h0]) ⟨hx, hb, hml, hown, hg⟩ (kc_Row l D y aS H.size q61 155 3 3 gk_155 rfl (by decide) (by decide +kernel) (by decide)) (cwI 1 hg ggI_RX11_73_X8_init rfl rfl rfl (hg _ gw_48) (hg _ gw_149) (hg _ gw_95) rfl (by decide +kernel) ⟨Nat.le_of_ble_eq_true rfl, Nat.le_of_ble_eq_true rfl⟩) (g_preI hK hP hD) rfl rfl hl.1 rfl (lv_room (Nat.le_of_ble_eq_true rfl)) dX11_init_193 ⟨(by first | omega | (dsimp only; omega)), (by first | omega | (dsimp only; omega))⟩) hP hD hS hA ?_
    clear hP hD hS
    intro u62 H locs hqu62 hP hD hS
    rw [GW_sg (σ := gStart) (σ' := σ2) (fun k hk => by have b1 := (hqu62.2.2 k).mp hk; exact a2 k (by omega)) l2] at hP hD
    obtain ⟨ad63, hs64, hm65, heq⟩ := G_merge (y := y) (ad := ad46) (u := u62.1) (σ := σ2) hcad46 hqu62.2.1 (fun k hk hn => by have b1 := (hqu62.2.2 k).mp hk; have b2 := (hMad46 k).mp hn; omega)
    replace hP : va_P D vwCl ([(h0, .inr (11, [.ref qf1, .ref qf65, .ref qf106, .ref qf109, .ref qf118, .ref qf125, .ref qf134, .ref qa, .ref q13, .ref q28, .ref q44, .null, .null, .null, .int 0, .int 0, .int 0, .int 0, .int 0]))] ++ GW (Lad46 ++ u62.2) y ad63 σ2) H := by rw [← heq]; exact hP
    replace hD : va_D A ([(h0, .inr (11, [.ref qf1, .ref qf65, .ref qf106, .ref qf109, .ref qf118, .ref qf125, .ref qf134, .ref qa, .ref q13, .ref q28, .ref q44, .null, .null, .null, .int 0, .int 0, .int 0, .int 0, .int 0]))] ++ GW (Lad46 ++ u62.2) y ad63 σ2) := by rw [← heq]; exact hD
    clear heq
    have hcad63 : gClL (Lad46 ++ u62.2) := gClL_app hcad46 hqu62.2.1
    have hMad63 : ∀ k, k ∈ (Lad46 ++ u62.2) ↔ (((((k = 143 ∨ ((1 ≤ k ∧ k < 143) ∨ 144 ≤ k ∧ k < 144 + 6)) ∨ (150 ≤ k ∧ k < 150 + 1)) ∨ (151 ≤ k ∧ k < 151 + 2)) ∨ (153 ≤ k ∧ k < 153 + 2)) ∨ (155 ≤ k ∧ k < 155 + 2)) := fun k => List.mem_append.trans (by have b1 := hqu62.2.2 k; have b2 := hMad46 k; constructor <;> intro h <;> (first | omega | (rcases h with h | h <;> first | (have := b1.mp h; omega) | (have := b2.mp h; omega)) | (rw [b1, b2]; omega)))
    have hf67 : ad63 1 = qf1 := (hs64 1 ((hMad46 1).mpr (by omega))).trans hf50
    have hf68 : ad63 65 = qf65 := (hs64 65 ((hMad46 65).mpr (by omega))).trans hf51
    have hf69 : ad63 106 = qf106 := (hs64 106 ((hMad46 106).mpr (by omega))).trans hf52
    have hf70 : ad63 109 = qf109 := (hs64 109 ((hMad46 109).mpr (by omega))).trans hf53
    have hf71 : ad63 118 = qf118 := (hs64 118 ((hMad46 118).mpr (by omega))).trans hf54
    have hf72 : ad63 125 = qf125 := (hs64 125 ((hMad46 125).mpr (by omega))).trans hf55
    have hf73 : ad63 134 = qf134 := (hs64 134 ((hMad46 134).mpr (by omega))).trans hf56
    have hf74 : ad63 143 = qa := (hs64 143 ((hMad46 143).mpr (by omega))).trans hf57
    have hf75 : ad63 150 = q13 := (hs64 150 ((hMad46 150).mpr (by omega))).trans hf58
    have hf76 : ad63 151 = q28 := (hs64 151 ((hMad46 151).mpr (by omega))).trans hf59
    have hf77 : ad63 153 = q44 := (hs64 153 ((hMad46 153).mpr (by omega))).trans hf60
    have hf78 : ad63 155 = q61 := (hm65 155 ((hqu62.2.2 155).mpr (by omega))).trans hqu62.1
    generalize hL0 : (Lad46 ++ u62.2) = Lad63 at hP hD hcad63 hMad63
    clear hL0
    refine gm_putF (D := D) (ci := 11) (v := .ref q61) (ty := .object "Greentrunk$Row") (C := RX11) (T := TX11) (N := 19) hx hb hg inlX11 tyX11 tyX11_ok nmX11 hown hK.1 hP hD hS 0 rfl rfl 11 (by decide) tX11_11 (hg _ gw_52) hin rfl (by decide +kernel) rfl rfl (Nat.le_of_ble_eq_true rfl) dX11_init_196 ?_
    clear hP hD hS
    refine fun H locs (hP : va_P D vwCl (([(h0, .inr (11, [.ref qf1, .ref qf65, .ref qf106, .ref qf109, .ref qf118, .ref qf125, .ref qf134, .ref qa, .ref q13, .ref q28, .ref q44, .ref q61, .null, .null, .int 0, .int 0, .int 0, .int 0, .int 0]))] ++ GW Lad63 y ad63 σ2)) H) (hD : va_D A (([(h0, .inr (11, [.ref qf1, .ref qf65, .ref qf106, .ref qf109, .ref qf118, .ref qf125, .ref qf134, .ref qa, .ref q13, .ref q28, .ref q44, .ref q61, .null, .null, .int 0, .int 0, .int 0, .int 0, .int 0]))] ++ GW Lad63 y ad63 σ2))) hS => ?_
    refine lv_aload_n hx hb dX11_init_199 rfl (lv_at hl 1 rfl) ?_
    refine gm_get (D := D) (ci := 11) (v := .ref q61) (C := RX11) (T := TX11) (N := 19) hx hb hg inlX11 hown hK.1 hP 0 rfl rfl 11 (by decide) tX11_11 (hg _ gw_52) rfl dX11_init_200 ?_
    refine g_fr (v := .ref (ad63 155)) (by rw [hf78]) ?_
    refine lv_iconst (v := 3) hx hb dX11_init_203 (by decide) ?_
    refine lv_lconst (v := 1) hx hb dX11_init_204 (by decide) ?_
    obtain ⟨qr, hqr⟩ := GW_at (y := y) (ad := ad63) (σ := σ2) ((hMad63 155).mpr (by omega))
    rw [gce_obj gk_155 (by decide)] at hqr
    refine g_avT (W0 := GW Lad63 y ad63 σ2) (va_runV (As := [.int 3, .long 1]) (rest := []) ⟨hx, hb, hml, hown, hg⟩ (kCX8_addMany l D y aS H.size Lad63 155 ⟨(hMad63 155).mpr (by omega), (hMad63 156).mpr (by omega)⟩ ad63 N σ2 (3) (1) _ gk_155 e3) (cwV 2 hg ggV_RX11_89_X8_addMany rfl rfl rfl (by decide +kernel) ⟨Nat.le_of_ble_eq_true rfl, Nat.le_of_ble_eq_true rfl⟩) (g_preT (q := (RX8, TX8, 2)) hK hP hD rfl hqr) rfl rfl hl.1 rfl (lv_room (Nat.le_of_ble_eq_true rfl)) dX11_init_205 ⟨(by first | omega | (dsimp only; omega)), (by first | omega | (dsimp only; omega))⟩) hP hD hS hA ?_
    clear hP hD hS
    refine fun u9 H locs hq9 (hP : va_P D vwCl (([(h0, .inr (11, [.ref qf1, .ref qf65, .ref qf106, .ref qf109, .ref qf118, .ref qf125, .ref qf134, .ref qa, .ref q13, .ref q28, .ref q44, .ref q61, .null, .null, .int 0, .int 0, .int 0, .int 0, .int 0]))] ++ GW Lad63 y ad63 σ3)) H) (hD : va_D A (([(h0, .inr (11, [.ref qf1, .ref qf65, .ref qf106, .ref qf109, .ref qf118, .ref qf125, .ref qf134, .ref qa, .ref q13, .ref q28, .ref q44, .ref q61, .null, .null, .int 0, .int 0, .int 0, .int 0, .int 0]))] ++ GW Lad63 y ad63 σ3))) hS => ?_
    refine lv_aload_n hx hb dX11_init_208 rfl (lv_at hl 1 rfl) ?_
    refine va_new (ci := 8) (fs := [.null, .int 0]) (C := RX8) (T := TX8) (N := 2) hx hb hg inlX8 tyX8 tyX8_ok hown (hg _ gw_46) (hg _ gw_47) (hg _ gw_48) hK.1 hP hD hS hA rfl dfX8 (by first | omega | (dsimp only; omega)) (by first | omega | (dsimp only; omega)) dX11_init_209 ?_
    clear hP hD hS
    intro q79 H hP hD hS
    refine lv_dup hx hb dX11_init_212 rfl ?_
    refine lv_iconst (v := 3) hx hb dX11_init_213 (by decide) ?_
    refine g_avI (va_runI (As := [.int 3]) (rest := [.ref q79, .ref h0]) ⟨hx, hb, hml, hown, hg⟩ (kc_Row l D y aS H.size q79 157 3 3 gk_157 rfl (by decide) (by decide +kernel) (by decide)) (cwI 1 hg ggI_RX11_73_X8_init rfl rfl rfl (hg _ gw_48) (hg _ gw_149) (hg _ gw_95) rfl (by decide +kernel) ⟨Nat.le_of_ble_eq_true rfl, Nat.le_of_ble_eq_true rfl⟩) (g_preI hK hP hD) rfl rfl hl.1 rfl (lv_room (Nat.le_of_ble_eq_true rfl)) dX11_init_214 ⟨(by first | omega | (dsimp only; omega)), (by first | omega | (dsimp only; omega))⟩) hP hD hS hA ?_
    clear hP hD hS
    intro u80 H locs hqu80 hP hD hS
    rw [GW_sg (σ := gStart) (σ' := σ3) (fun k hk => by have b1 := (hqu80.2.2 k).mp hk; exact a3 k (by omega)) l3] at hP hD
    obtain ⟨ad81, hs82, hm83, heq⟩ := G_merge (y := y) (ad := ad63) (u := u80.1) (σ := σ3) hcad63 hqu80.2.1 (fun k hk hn => by have b1 := (hqu80.2.2 k).mp hk; have b2 := (hMad63 k).mp hn; omega)
    replace hP : va_P D vwCl ([(h0, .inr (11, [.ref qf1, .ref qf65, .ref qf106, .ref qf109, .ref qf118, .ref qf125, .ref qf134, .ref qa, .ref q13, .ref q28, .ref q44, .ref q61, .null, .null, .int 0, .int 0, .int 0, .int 0, .int 0]))] ++ GW (Lad63 ++ u80.2) y ad81 σ3) H := by rw [← heq]; exact hP
    replace hD : va_D A ([(h0, .inr (11, [.ref qf1, .ref qf65, .ref qf106, .ref qf109, .ref qf118, .ref qf125, .ref qf134, .ref qa, .ref q13, .ref q28, .ref q44, .ref q61, .null, .null, .int 0, .int 0, .int 0, .int 0, .int 0]))] ++ GW (Lad63 ++ u80.2) y ad81 σ3) := by rw [← heq]; exact hD
    clear heq
    have hcad81 : gClL (Lad63 ++ u80.2) := gClL_app hcad63 hqu80.2.1
    have hMad81 : ∀ k, k ∈ (Lad63 ++ u80.2) ↔ ((((((k = 143 ∨ ((1 ≤ k ∧ k < 143) ∨ 144 ≤ k ∧ k < 144 + 6)) ∨ (150 ≤ k ∧ k < 150 + 1)) ∨ (151 ≤ k ∧ k < 151 + 2)) ∨ (153 ≤ k ∧ k < 153 + 2)) ∨ (155 ≤ k ∧ k < 155 + 2)) ∨ (157 ≤ k ∧ k < 157 + 2)) := fun k => List.mem_append.trans (by have b1 := hqu80.2.2 k; have b2 := hMad63 k; constructor <;> intro h <;> (first | omega | (rcases h with h | h <;> first | (have := b1.mp h; omega) | (have := b2.mp h; omega)) | (rw [b1, b2]; omega)))
    have hf85 : ad81 1 = qf1 := (hs82 1 ((hMad63 1).mpr (by omega))).trans hf67
    have hf86 : ad81 65 = qf65 := (hs82 65 ((hMad63 65).mpr (by omega))).trans hf68
    have hf87 : ad81 106 = qf106 := (hs82 106 ((hMad63 106).mpr (by omega))).trans hf69
    have hf88 : ad81 109 = qf109 := (hs82 109 ((hMad63 109).mpr (by omega))).trans hf70
    have hf89 : ad81 118 = qf118 := (hs82 118 ((hMad63 118).mpr (by omega))).trans hf71
    have hf90 : ad81 125 = qf125 := (hs82 125 ((hMad63 125).mpr (by omega))).trans hf72
    have hf91 : ad81 134 = qf134 := (hs82 134 ((hMad63 134).mpr (by omega))).trans hf73
    have hf92 : ad81 143 = qa := (hs82 143 ((hMad63 143).mpr (by omega))).trans hf74
    have hf93 : ad81 150 = q13 := (hs82 150 ((hMad63 150).mpr (by omega))).trans hf75
    have hf94 : ad81 151 = q28 := (hs82 151 ((hMad63 151).mpr (by omega))).trans hf76
    have hf95 : ad81 153 = q44 := (hs82 153 ((hMad63 153).mpr (by omega))).trans hf77
    have hf96 : ad81 155 = q61 := (hs82 155 ((hMad63 155).mpr (by omega))).trans hf78
    have hf97 : ad81 157 = q79 := (hm83 157 ((hqu80.2.2 157).mpr (by omega))).trans hqu80.1
    generalize hL0 : (Lad63 ++ u80.2) = Lad81 at hP hD hcad81 hMad81
    clear hL0
    refine gm_putF (D := D) (ci := 11) (v := .ref q79) (ty := .object "Greentrunk$Row") (C := RX11) (T := TX11) (N := 19) hx hb hg inlX11 tyX11 tyX11_ok nmX11 hown hK.1 hP hD hS 0 rfl rfl 12 (by decide) tX11_12 (hg _ gw_53) hin rfl (by decide +kernel) rfl rfl (Nat.le_of_ble_eq_true rfl) dX11_init_217 ?_
    clear hP hD hS
    refine fun H locs (hP : va_P D vwCl (([(h0, .inr (11, [.ref qf1, .ref qf65, .ref qf106, .ref qf109, .ref qf118, .ref qf125, .ref qf134, .ref qa, .ref q13, .ref q28, .ref q44, .ref q61, .ref q79, .null, .int 0, .int 0, .int 0, .int 0, .int 0]))] ++ GW Lad81 y ad81 σ3)) H) (hD : va_D A (([(h0, .inr (11, [.ref qf1, .ref qf65, .ref qf106, .ref qf109, .ref qf118, .ref qf125, .ref qf134, .ref qa, .ref q13, .ref q28, .ref q44, .ref q61, .ref q79, .null, .int 0, .int 0, .int 0, .int 0, .int 0]))] ++ GW Lad81 y ad81 σ3))) hS => ?_
    refine lv_aload_n hx hb dX11_init_220 rfl (lv_at hl 1 rfl) ?_
    refine gm_get (D := D) (ci := 11) (v := .ref q79) (C := RX11) (T := TX11) (N := 19) hx hb hg inlX11 hown hK.1 hP 0 rfl rfl 12 (by decide) tX11_12 (hg _ gw_53) rfl dX11_init_221 ?_
    refine g_fr (v := .ref (ad81 157)) (by rw [hf97]) ?_
    refine lv_iconst (v := 3) hx hb dX11_init_224 (by decide) ?_
    refine lv_lconst (v := 0) hx hb dX11_init_225 (by decide) ?_
    obtain ⟨qr, hqr⟩ := GW_at (y := y) (ad := ad81) (σ := σ3) ((hMad81 157).mpr (by omega))
    rw [gce_obj gk_157 (by decide)] at hqr
    refine g_avT (W0 := GW Lad81 y ad81 σ3) (va_runV (As := [.int 3, .long 0]) (rest := []) ⟨hx, hb, hml, hown, hg⟩ (kCX8_addMany l D y aS H.size Lad81 157 ⟨(hMad81 157).mpr (by omega), (hMad81 158).mpr (by omega)⟩ ad81 N σ3 (3) (0) _ gk_157 e4) (cwV 2 hg ggV_RX11_89_X8_addMany rfl rfl rfl (by decide +kernel) ⟨Nat.le_of_ble_eq_true rfl, Nat.le_of_ble_eq_true rfl⟩) (g_preT (q := (RX8, TX8, 2)) hK hP hD rfl hqr) rfl rfl hl.1 rfl (lv_room (Nat.le_of_ble_eq_true rfl)) dX11_init_226 ⟨(by first | omega | (dsimp only; omega)), (by first | omega | (dsimp only; omega))⟩) hP hD hS hA ?_
    clear hP hD hS
    refine fun u9 H locs hq9 (hP : va_P D vwCl (([(h0, .inr (11, [.ref qf1, .ref qf65, .ref qf106, .ref qf109, .ref qf118, .ref qf125, .ref qf134, .ref qa, .ref q13, .ref q28, .ref q44, .ref q61, .ref q79, .null, .int 0, .int 0, .int 0, .int 0, .int 0]))] ++ GW Lad81 y ad81 σ4)) H) (hD : va_D A (([(h0, .inr (11, [.ref qf1, .ref qf65, .ref qf106, .ref qf109, .ref qf118, .ref qf125, .ref qf134, .ref qa, .ref q13, .ref q28, .ref q44, .ref q61, .ref q79, .null, .int 0, .int 0, .int 0, .int 0, .int 0]))] ++ GW Lad81 y ad81 σ4))) hS => ?_
    refine lv_aload_n hx hb dX11_init_229 rfl (lv_at hl 1 rfl) ?_
    refine va_new (ci := 8) (fs := [.null, .int 0]) (C := RX8) (T := TX8) (N := 2) hx hb hg inlX8 tyX8 tyX8_ok hown (hg _ gw_46) (hg _ gw_47) (hg _ gw_48) hK.1 hP hD hS hA rfl dfX8 (by first | omega | (dsimp only; omega)) (by first | omega | (dsimp only; omega)) dX11_init_230 ?_
    clear hP hD hS
    intro q98 H hP hD hS
    refine lv_dup hx hb dX11_init_233 rfl ?_
    refine lv_bipush (v := 8) hx hb dX11_init_234 (by decide +kernel) ?_
    refine g_avI (va_runI (As := [.int 8]) (rest := [.ref q98, .ref h0]) ⟨hx, hb, hml, hown, hg⟩ (kc_Row l D y aS H.size q98 159 8 8 gk_159 rfl (by decide) (by decide +kernel) (by decide)) (cwI 1 hg ggI_RX11_73_X8_init rfl rfl rfl (hg _ gw_48) (hg _ gw_149) (hg _ gw_95) rfl (by decide +kernel) ⟨Nat.le_of_ble_eq_true rfl, Nat.le_of_ble_eq_true rfl⟩) (g_preI hK hP hD) rfl rfl hl.1 rfl (lv_room (Nat.le_of_ble_eq_true rfl)) dX11_init_236 ⟨(by first | omega | (dsimp only; omega)), (by first | omega | (dsimp only; omega))⟩) hP hD hS hA ?_
    clear hP hD hS
    intro u99 H locs hqu99 hP hD hS
    rw [GW_sg (σ := gStart) (σ' := σ4) (fun k hk => by have b1 := (hqu99.2.2 k).mp hk; exact a4 k (by omega)) l4] at hP hD
    obtain ⟨ad100, hs101, hm102, heq⟩ := G_merge (y := y) (ad := ad81) (u := u99.1) (σ := σ4) hcad81 hqu99.2.1 (fun k hk hn => by have b1 := (hqu99.2.2 k).mp hk; have b2 := (hMad81 k).mp hn; omega)
    replace hP : va_P D vwCl ([(h0, .inr (11, [.ref qf1, .ref qf65, .ref qf106, .ref qf109, .ref qf118, .ref qf125, .ref qf134, .ref qa, .ref q13, .ref q28, .ref q44, .ref q61, .ref q79, .null, .int 0, .int 0, .int 0, .int 0, .int 0]))] ++ GW (Lad81 ++ u99.2) y ad100 σ4) H := by rw [← heq]; exact hP
    replace hD : va_D A ([(h0, .inr (11, [.ref qf1, .ref qf65, .ref qf106, .ref qf109, .ref qf118, .ref qf125, .ref qf134, .ref qa, .ref q13, .ref q28, .ref q44, .ref q61, .ref q79, .null, .int 0, .int 0, .int 0, .int 0, .int 0]))] ++ GW (Lad81 ++ u99.2) y ad100 σ4) := by rw [← heq]; exact hD
    clear heq
    have hcad100 : gClL (Lad81 ++ u99.2) := gClL_app hcad81 hqu99.2.1
    have hMad100 : ∀ k, k ∈ (Lad81 ++ u99.2) ↔ (((((((k = 143 ∨ ((1 ≤ k ∧ k < 143) ∨ 144 ≤ k ∧ k < 144 + 6)) ∨ (150 ≤ k ∧ k < 150 + 1)) ∨ (151 ≤ k ∧ k < 151 + 2)) ∨ (153 ≤ k ∧ k < 153 + 2)) ∨ (155 ≤ k ∧ k < 155 + 2)) ∨ (157 ≤ k ∧ k < 157 + 2)) ∨ (159 ≤ k ∧ k < 159 + 2)) := fun k => List.mem_append.trans (by have b1 := hqu99.2.2 k; have b2 := hMad81 k; constructor <;> intro h <;> (first | omega | (rcases h with h | h <;> first | (have := b1.mp h; omega) | (have := b2.mp h; omega)) | (rw [b1, b2]; omega)))
    have hf104 : ad100 1 = qf1 := (hs101 1 ((hMad81 1).mpr (by omega))).trans hf85
    have hf105 : ad100 65 = qf65 := (hs101 65 ((hMad81 65).mpr (by omega))).trans hf86
    have hf106 : ad100 106 = qf106 := (hs101 106 ((hMad81 106).mpr (by omega))).trans hf87
    have hf107 : ad100 109 = qf109 := (hs101 109 ((hMad81 109).mpr (by omega))).trans hf88
    have hf108 : ad100 118 = qf118 := (hs101 118 ((hMad81 118).mpr (by omega))).trans hf89
    have hf109 : ad100 125 = qf125 := (hs101 125 ((hMad81 125).mpr (by omega))).trans hf90
    have hf110 : ad100 134 = qf134 := (hs101 134 ((hMad81 134).mpr (by omega))).trans hf91
    have hf111 : ad100 143 = qa := (hs101 143 ((hMad81 143).mpr (by omega))).trans hf92
    have hf112 : ad100 150 = q13 := (hs101 150 ((hMad81 150).mpr (by omega))).trans hf93
    have hf113 : ad100 151 = q28 := (hs101 151 ((hMad81 151).mpr (by omega))).trans hf94
    have hf114 : ad100 153 = q44 := (hs101 153 ((hMad81 153).mpr (by omega))).trans hf95
    have hf115 : ad100 155 = q61 := (hs101 155 ((hMad81 155).mpr (by omega))).trans hf96
    have hf116 : ad100 157 = q79 := (hs101 157 ((hMad81 157).mpr (by omega))).trans hf97
    have hf117 : ad100 159 = q98 := (hm102 159 ((hqu99.2.2 159).mpr (by omega))).trans hqu99.1
    generalize hL0 : (Lad81 ++ u99.2) = Lad100 at hP hD hcad100 hMad100
    clear hL0
    refine gm_putF (D := D) (ci := 11) (v := .ref q98) (ty := .object "Greentrunk$Row") (C := RX11) (T := TX11) (N := 19) hx hb hg inlX11 tyX11 tyX11_ok nmX11 hown hK.1 hP hD hS 0 rfl rfl 13 (by decide) tX11_13 (hg _ gw_54) hin rfl (by decide +kernel) rfl rfl (Nat.le_of_ble_eq_true rfl) dX11_init_239 ?_
    clear hP hD hS
    refine fun H locs (hP : va_P D vwCl (([(h0, .inr (11, [.ref qf1, .ref qf65, .ref qf106, .ref qf109, .ref qf118, .ref qf125, .ref qf134, .ref qa, .ref q13, .ref q28, .ref q44, .ref q61, .ref q79, .ref q98, .int 0, .int 0, .int 0, .int 0, .int 0]))] ++ GW Lad100 y ad100 σ4)) H) (hD : va_D A (([(h0, .inr (11, [.ref qf1, .ref qf65, .ref qf106, .ref qf109, .ref qf118, .ref qf125, .ref qf134, .ref qa, .ref q13, .ref q28, .ref q44, .ref q61, .ref q79, .ref q98, .int 0, .int 0, .int 0, .int 0, .int 0]))] ++ GW Lad100 y ad100 σ4))) hS => ?_
    refine lv_aload_n hx hb dX11_init_242 rfl (lv_at hl 1 rfl) ?_
    refine gm_get (D := D) (ci := 11) (v := .ref q98) (C := RX11) (T := TX11) (N := 19) hx hb hg inlX11 hown hK.1 hP 0 rfl rfl 13 (by decide) tX11_13 (hg _ gw_54) rfl dX11_init_243 ?_
    refine g_fr (v := .ref (ad100 159)) (by rw [hf117]) ?_
    refine lv_bipush (v := 8) hx hb dX11_init_246 (by decide +kernel) ?_
    refine lv_lconst (v := 0) hx hb dX11_init_248 (by decide) ?_
    obtain ⟨qr, hqr⟩ := GW_at (y := y) (ad := ad100) (σ := σ4) ((hMad100 159).mpr (by omega))
    rw [gce_obj gk_159 (by decide)] at hqr
    refine g_avT (W0 := GW Lad100 y ad100 σ4) (va_runV (As := [.int 8, .long 0]) (rest := []) ⟨hx, hb, hml, hown, hg⟩ (kCX8_addMany l D y aS H.size Lad100 159 ⟨(hMad100 159).mpr (by omega), (hMad100 160).mpr (by omega)⟩ ad100 N σ4 (8) (0) _ gk_159 e5) (cwV 2 hg ggV_RX11_89_X8_addMany rfl rfl rfl (by decide +kernel) ⟨Nat.le_of_ble_eq_true rfl, Nat.le_of_ble_eq_true rfl⟩) (g_preT (q := (RX8, TX8, 2)) hK hP hD rfl hqr) rfl rfl hl.1 rfl (lv_room (Nat.le_of_ble_eq_true rfl)) dX11_init_249 ⟨(by first | omega | (dsimp only; omega)), (by first | omega | (dsimp only; omega))⟩) hP hD hS hA ?_
    clear hP hD hS
    refine fun u9 H locs hq9 (hP : va_P D vwCl (([(h0, .inr (11, [.ref qf1, .ref qf65, .ref qf106, .ref qf109, .ref qf118, .ref qf125, .ref qf134, .ref qa, .ref q13, .ref q28, .ref q44, .ref q61, .ref q79, .ref q98, .int 0, .int 0, .int 0, .int 0, .int 0]))] ++ GW Lad100 y ad100 σ5)) H) (hD : va_D A (([(h0, .inr (11, [.ref qf1, .ref qf65, .ref qf106, .ref qf109, .ref qf118, .ref qf125, .ref qf134, .ref qa, .ref q13, .ref q28, .ref q44, .ref q61, .ref q79, .ref q98, .int 0, .int 0, .int 0, .int 0, .int 0]))] ++ GW Lad100 y ad100 σ5))) hS => ?_
    refine lv_aload_n hx hb dX11_init_252 rfl (lv_at hl 1 rfl) ?_
    refine lv_iconst (v := (-1)) hx hb dX11_init_253 (by decide) ?_
    refine gm_put (D := D) (ci := 11) (v := .int (-1)) (ty := .int) (C := RX11) (T := TX11) (N := 19) hx hb hg inlX11 tyX11 tyX11_ok nmX11 hown hK.1 hP hD hS 0 rfl rfl 16 (by decide) tX11_16 (hg _ gw_55) (by decide +kernel) rfl rfl (Nat.le_of_ble_eq_true rfl) dX11_init_254 ?_
    clear hP hD hS
    refine fun H locs (hP : va_P D vwCl (([(h0, .inr (11, [.ref qf1, .ref qf65, .ref qf106, .ref qf109, .ref qf118, .ref qf125, .ref qf134, .ref qa, .ref q13, .ref q28, .ref q44, .ref q61, .ref q79, .ref q98, .int 0, .int 0, .int (-1), .int 0, .int 0]))] ++ GW Lad100 y ad100 σ5)) H) (hD : va_D A (([(h0, .inr (11, [.ref qf1, .ref qf65, .ref qf106, .ref qf109, .ref qf118, .ref qf125, .ref qf134, .ref qa, .ref q13, .ref q28, .ref q44, .ref q61, .ref q79, .ref q98, .int 0, .int 0, .int (-1), .int 0, .int 0]))] ++ GW Lad100 y ad100 σ5))) hS => ?_
    have hnK : 0 ∉ Lad100 := fun h => by have := (hMad100 0).mp h; omega
    have hr0 : (fun k => if k = 0 then h0 else ad100 k) 1 = qf1 := (if_neg (by omega)).trans hf104
    have hr1 : (fun k => if k = 0 then h0 else ad100 k) 65 = qf65 := (if_neg (by omega)).trans hf105
    have hr2 : (fun k => if k = 0 then h0 else ad100 k) 106 = qf106 := (if_neg (by omega)).trans hf106
    have hr3 : (fun k => if k = 0 then h0 else ad100 k) 109 = qf109 := (if_neg (by omega)).trans hf107
    have hr4 : (fun k => if k = 0 then h0 else ad100 k) 118 = qf118 := (if_neg (by omega)).trans hf108
    have hr5 : (fun k => if k = 0 then h0 else ad100 k) 125 = qf125 := (if_neg (by omega)).trans hf109
    have hr6 : (fun k => if k = 0 then h0 else ad100 k) 134 = qf134 := (if_neg (by omega)).trans hf110
    have hr7 : (fun k => if k = 0 then h0 else ad100 k) 143 = qa := (if_neg (by omega)).trans hf111
    have hr8 : (fun k => if k = 0 then h0 else ad100 k) 150 = q13 := (if_neg (by omega)).trans hf112
    have hr9 : (fun k => if k = 0 then h0 else ad100 k) 151 = q28 := (if_neg (by omega)).trans hf113
    have hr10 : (fun k => if k = 0 then h0 else ad100 k) 153 = q44 := (if_neg (by omega)).trans hf114
    have hr11 : (fun k => if k = 0 then h0 else ad100 k) 155 = q61 := (if_neg (by omega)).trans hf115
    have hr12 : (fun k => if k = 0 then h0 else ad100 k) 157 = q79 := (if_neg (by omega)).trans hf116
    have hr13 : (fun k => if k = 0 then h0 else ad100 k) 159 = q98 := (if_neg (by omega)).trans hf117
    have hen : gW1 y (fun k => if k = 0 then h0 else ad100 k) σ5 0 = (h0, .inr (11, [.ref qf1, .ref qf65, .ref qf106, .ref qf109, .ref qf118, .ref qf125, .ref qf134, .ref qa, .ref q13, .ref q28, .ref q44, .ref q61, .ref q79, .ref q98, .int 0, .int 0, .int (-1), .int 0, .int 0])) := by
      rw [gW_obj gk_0 (by decide)]
      show ((fun k => if k = 0 then h0 else ad100 k) 0, Sum.inr (11, [Value.ref ((fun k => if k = 0 then h0 else ad100 k) 1), Value.ref ((fun k => if k = 0 then h0 else ad100 k) 65), Value.ref ((fun k => if k = 0 then h0 else ad100 k) 106), Value.ref ((fun k => if k = 0 then h0 else ad100 k) 109), Value.ref ((fun k => if k = 0 then h0 else ad100 k) 118), Value.ref ((fun k => if k = 0 then h0 else ad100 k) 125), Value.ref ((fun k => if k = 0 then h0 else ad100 k) 134), Value.ref ((fun k => if k = 0 then h0 else ad100 k) 143), Value.ref ((fun k => if k = 0 then h0 else ad100 k) 150), Value.ref ((fun k => if k = 0 then h0 else ad100 k) 151), Value.ref ((fun k => if k = 0 then h0 else ad100 k) 153), Value.ref ((fun k => if k = 0 then h0 else ad100 k) 155), Value.ref ((fun k => if k = 0 then h0 else ad100 k) 157), Value.ref ((fun k => if k = 0 then h0 else ad100 k) 159), Value.int ((σ5.1 0) 14), Value.int ((σ5.1 0) 15), Value.int ((σ5.1 0) 16), Value.int ((σ5.1 0) 17), Value.int ((σ5.1 0) 18)])) = _
      rw [show (fun k => if k = 0 then h0 else ad100 k) 0 = h0 from by simp, hr0, hr1, hr2, hr3, hr4, hr5, hr6, hr7, hr8, hr9, hr10, hr11, hr12, hr13]
      rw [← (a5 0 (by omega)).1]; rfl
    have hw := G_abs (y := y) (ad := ad100) (σ := σ5) (addr := h0) (en := .inr (11, [.ref qf1, .ref qf65, .ref qf106, .ref qf109, .ref qf118, .ref qf125, .ref qf134, .ref qa, .ref q13, .ref q28, .ref q44, .ref q61, .ref q79, .ref q98, .int 0, .int 0, .int (-1), .int 0, .int 0])) hcad100 hnK hen
    have hcN : gClL (0 :: Lad100) := gClL_cons hcad100 (fun y ad ad' σ h h2 => by
      rw [gW_obj gk_0 (by decide), gW_obj gk_0 (by decide), h]
      show (_, Sum.inr (11, [Value.ref (ad 1), Value.ref (ad 65), Value.ref (ad 106), Value.ref (ad 109), Value.ref (ad 118), Value.ref (ad 125), Value.ref (ad 134), Value.ref (ad 143), Value.ref (ad 150), Value.ref (ad 151), Value.ref (ad 153), Value.ref (ad 155), Value.ref (ad 157), Value.ref (ad 159), Value.int ((σ.1 0) 14), Value.int ((σ.1 0) 15), Value.int ((σ.1 0) 16), Value.int ((σ.1 0) 17), Value.int ((σ.1 0) 18)])) = (_, Sum.inr (11, [Value.ref (ad' 1), Value.ref (ad' 65), Value.ref (ad' 106), Value.ref (ad' 109), Value.ref (ad' 118), Value.ref (ad' 125), Value.ref (ad' 134), Value.ref (ad' 143), Value.ref (ad' 150), Value.ref (ad' 151), Value.ref (ad' 153), Value.ref (ad' 155), Value.ref (ad' 157), Value.ref (ad' 159), Value.int ((σ.1 0) 14), Value.int ((σ.1 0) 15), Value.int ((σ.1 0) 16), Value.int ((σ.1 0) 17), Value.int ((σ.1 0) 18)]))
      rw [h2 1 ((hMad100 1).mpr (by omega)), h2 65 ((hMad100 65).mpr (by omega)), h2 106 ((hMad100 106).mpr (by omega)), h2 109 ((hMad100 109).mpr (by omega)), h2 118 ((hMad100 118).mpr (by omega)), h2 125 ((hMad100 125).mpr (by omega)), h2 134 ((hMad100 134).mpr (by omega)), h2 143 ((hMad100 143).mpr (by omega)), h2 150 ((hMad100 150).mpr (by omega)), h2 151 ((hMad100 151).mpr (by omega)), h2 153 ((hMad100 153).mpr (by omega)), h2 155 ((hMad100 155).mpr (by omega)), h2 157 ((hMad100 157).mpr (by omega)), h2 159 ((hMad100 159).mpr (by omega))])
    replace hP : va_P D vwCl (GW (0 :: Lad100) y (fun k => if k = 0 then h0 else ad100 k) σ5) H := by rw [← hw]; exact hP
    replace hD : va_D A (GW (0 :: Lad100) y (fun k => if k = 0 then h0 else ad100 k) σ5) := by rw [← hw]; exact hD
    exact g_vret hx hb hr hlocks ((fun k => if k = 0 then h0 else ad100 k), 0 :: Lad100) hP hD hS ⟨by simp, hcN, fun k => List.mem_cons.trans (by rw [hMad100 k]; omega)⟩ (by first | omega | (dsimp only; omega)) (by first | omega | (dsimp only; omega)) dX11_init_257
  | succ n ih =>
    intro i hin2 L ad fa kc ns H locs ls hkc hns hcl hmem hfa hfb hf1 hf65 hf106 hf109 hf118 hf125 hf134 hP hD hS hl
    refine lv_iload_n hx hb dX11_init_92 rfl (lv_at hl 0 rfl) ?_
    refine lv_aload_n hx hb dX11_init_93 rfl (lv_at hl 1 rfl) ?_
    refine gm_get (D := D) (ci := 11) (v := .ref qa) (C := RX11) (T := TX11) (N := 19) hx hb hg inlX11 hown hK.1 hP 0 rfl rfl 7 (by decide) tX11_7 (hg _ gw_42) rfl dX11_init_94 ?_
    refine va_alen hx hb hK.1 hP 1 5 rfl rfl (v := 6) rfl dX11_init_97 ?_
    refine lv_icmp_ge (tgt := 129) hx hb dX11_init_98 (by decide) (fun c9 => absurd c9 (g_ilt (n := i) (k := 6) (by decide) (by omega))) (fun _ => ?_)
    refine lv_aload_n hx hb dX11_init_101 rfl (lv_at hl 1 rfl) ?_
    refine gm_get (D := D) (ci := 11) (v := .ref qa) (C := RX11) (T := TX11) (N := 19) hx hb hg inlX11 hown hK.1 hP 0 rfl rfl 7 (by decide) tX11_7 (hg _ gw_42) rfl dX11_init_102 ?_
    refine lv_iload_n hx hb dX11_init_105 rfl (lv_at hl 0 rfl) ?_
    refine va_new (ci := 6) (fs := [.int 0, .int 0, .int 0, .long 0, .int 0, .int 0]) (C := RX6) (T := TX6) (N := 6) hx hb hg inlX6 tyX6 tyX6_ok hown (hg _ gw_41) (hg _ gw_43) (hg _ gw_44) hK.1 hP hD hS hA rfl dfX6 (by first | omega | (dsimp only; omega)) (by first | omega | (dsimp only; omega)) dX11_init_106 ?_
    clear hP hD hS
    intro q1 H hP hD hS
    refine lv_dup hx hb dX11_init_109 rfl ?_
    refine lv_iload_n hx hb dX11_init_110 rfl (lv_at hl 0 rfl) ?_
    refine g_pick (i := i) (by omega) hx hb dX11_init_111 dX11_init_114 dX11_init_115 dX11_init_118 ?_
    refine g_avI (va_runI (As := [.int (if i = 0 then 1 else 0)]) (rest := [.ref q1, .int (Int32.ofNat i), .ref qa]) ⟨hx, hb, hml, hown, hg⟩ (kc_Machine l D y aS H.size q1 (144 + i) (if i = 0 then 1 else 0) (gc_25k (by omega)) (g_numM (by omega)) (by by_cases q : i = 0 <;> simp [q])) (cwI 1 hg ggI_RX11_64_X6_init rfl rfl rfl (hg _ gw_44) (hg _ gw_142) (hg _ gw_143) rfl (by decide +kernel) ⟨Nat.le_of_ble_eq_true rfl, Nat.le_of_ble_eq_true rfl⟩) (g_preI hK hP hD) rfl rfl hl.1 rfl (lv_room (Nat.le_of_ble_eq_true rfl)) dX11_init_119 ⟨(by first | omega | (dsimp only; omega)), (by first | omega | (dsimp only; omega))⟩) hP hD hS hA ?_
    clear hP hD hS
    intro u2 H locs hqu2 hP hD hS
    obtain ⟨ad3, hs4, hm5, heq⟩ := G_merge (y := y) (ad := ad) (u := u2.1) (σ := gStart) hcl hqu2.2.1 (fun k hk hn => by have b1 := (hqu2.2.2 k).mp hk; have b2 := (hmem k).mp hn; omega)
    replace hP : va_P D vwCl ([(h0, .inr (11, [.ref qf1, .ref qf65, .ref qf106, .ref qf109, .ref qf118, .ref qf125, .ref qf134, .ref qa, .null, .null, .null, .null, .null, .null, .int 0, .int 0, .int 0, .int 0, .int 0])), (qa, .inl (y 5, 6, .inr (.inr (.inr (.inr fa)))))] ++ GW (L ++ u2.2) y ad3 gStart) H := by rw [← heq]; exact hP
    replace hD : va_D A ([(h0, .inr (11, [.ref qf1, .ref qf65, .ref qf106, .ref qf109, .ref qf118, .ref qf125, .ref qf134, .ref qa, .null, .null, .null, .null, .null, .null, .int 0, .int 0, .int 0, .int 0, .int 0])), (qa, .inl (y 5, 6, .inr (.inr (.inr (.inr fa)))))] ++ GW (L ++ u2.2) y ad3 gStart) := by rw [← heq]; exact hD
    clear heq
    have hcad3 : gClL (L ++ u2.2) := gClL_app hcl hqu2.2.1
    have hMad3 : ∀ k, k ∈ (L ++ u2.2) ↔ (((1 ≤ k ∧ k < 143) ∨ 144 ≤ k ∧ k < 144 + i) ∨ ((144 + i) ≤ k ∧ k < (144 + i) + 1)) := fun k => List.mem_append.trans (by have b1 := hqu2.2.2 k; have b2 := hmem k; constructor <;> intro h <;> (first | omega | (rcases h with h | h <;> first | (have := b1.mp h; omega) | (have := b2.mp h; omega)) | (rw [b1, b2]; omega)))
    have hf7 : ad3 1 = qf1 := (hs4 1 ((hmem 1).mpr (by omega))).trans hf1
    have hf8 : ad3 65 = qf65 := (hs4 65 ((hmem 65).mpr (by omega))).trans hf65
    have hf9 : ad3 106 = qf106 := (hs4 106 ((hmem 106).mpr (by omega))).trans hf106
    have hf10 : ad3 109 = qf109 := (hs4 109 ((hmem 109).mpr (by omega))).trans hf109
    have hf11 : ad3 118 = qf118 := (hs4 118 ((hmem 118).mpr (by omega))).trans hf118
    have hf12 : ad3 125 = qf125 := (hs4 125 ((hmem 125).mpr (by omega))).trans hf125
    have hf13 : ad3 134 = qf134 := (hs4 134 ((hmem 134).mpr (by omega))).trans hf134
    have hf14 : ad3 (144 + i) = q1 := (hm5 (144 + i) ((hqu2.2.2 (144 + i)).mpr (by omega))).trans hqu2.1
    generalize hL0 : (L ++ u2.2) = Lad3 at hP hD hcad3 hMad3
    clear hL0
    obtain ⟨qk, hqk⟩ := GW_at (y := y) (ad := ad3) (σ := gStart) ((hMad3 (144 + i)).mpr (by omega))
    rw [gce_obj (gc_25k (by omega)) (by decide), hf14] at hqk
    refine va_astq hx hb hK.1 hP hD hS 1 5 (qk + 2) 6 (v := q1) rfl rfl hqk rfl (fun h9 => h9.elim (g_in0 (n := i) (by omega)) (fun h9 => by rw [g_iN (n := i) (by omega)] at h9; omega)) dX11_init_122 ?_
    clear hP hD hS
    refine fun H locs (hP : va_P D vwCl (([(h0, .inr (11, [.ref qf1, .ref qf65, .ref qf106, .ref qf109, .ref qf118, .ref qf125, .ref qf134, .ref qa, .null, .null, .null, .null, .null, .null, .int 0, .int 0, .int 0, .int 0, .int 0])), (qa, .inl (y 5, 6, .inr (.inr (.inr (.inr (va_up fa (Int32.ofNat i).toNatClampNeg (some q1)))))))] ++ GW Lad3 y ad3 gStart)) H) (hD : va_D A (([(h0, .inr (11, [.ref qf1, .ref qf65, .ref qf106, .ref qf109, .ref qf118, .ref qf125, .ref qf134, .ref qa, .null, .null, .null, .null, .null, .null, .int 0, .int 0, .int 0, .int 0, .int 0])), (qa, .inl (y 5, 6, .inr (.inr (.inr (.inr (va_up fa (Int32.ofNat i).toNatClampNeg (some q1)))))))] ++ GW Lad3 y ad3 gStart))) hS => ?_
    refine lv_iinc (v := Int32.ofNat (i + 1)) (lv' := [(1, .int (Int32.ofNat (i + 1))), (0, .ref h0)]) hx hb dX11_init_123 hl (k := 0) rfl (g_isu i) (by decide) rfl ?_
    clear hl
    intro ls hl
    refine lv_goto (tgt := 92) hx hb dX11_init_126 (by decide) ?_
    exact ih (i + 1) (by omega) Lad3 ad3 (va_up fa (Int32.ofNat i).toNatClampNeg (some q1)) _ _ _ _ _ (by omega) (by omega) hcad3 (fun k => (hMad3 k).trans (by omega)) (fun j hj => by
      rw [va_upE, g_iN (n := i) (by omega)]
      by_cases h9 : j = i
      · subst h9; rw [if_pos rfl, hf14]
      · rw [if_neg h9, hfa j (by omega), hs4 _ ((hmem _).mpr (by omega))]) (fun j hj => by
      rw [va_upE, g_iN (n := i) (by omega), if_neg (by omega)]; exact hfb j (by omega)) hf7 hf8 hf9 hf10 hf11 hf12 hf13 hP hD hS hl
set_option maxRecDepth 100000 in
set_option maxHeartbeats 400000 in
theorem kc_Green (l : Launch) (D : va_G) (y : Nat → ClassId) (aS : Nat → Nat) (sz : Nat) (h0 : Nat) (N : Nat) (σ1 : gS) (σ2 : gS) (σ3 : gS) (σ4 : gS) (σ5 : gS) (e1 : fX8_add N gStart 151 0 = some σ1) (e2 : fX8_addMany N σ1 153 12 (-1) = some σ2) (e3 : fX8_addMany N σ2 155 3 1 = some σ3) (e4 : fX8_addMany N σ3 157 3 0 = some σ4) (e5 : fX8_addMany N σ4 159 8 0 = some σ5) (a1 : ∀ k, k < 151 ∨ 153 ≤ k → gStart.1 k = σ1.1 k ∧ gStart.2.1 k = σ1.2.1 k) (l1 : gStart.2.2 = σ1.2.2) (a2 : ∀ k, k < 151 ∨ 155 ≤ k → gStart.1 k = σ2.1 k ∧ gStart.2.1 k = σ2.2.1 k) (l2 : gStart.2.2 = σ2.2.2) (a3 : ∀ k, k < 151 ∨ 157 ≤ k → gStart.1 k = σ3.1 k ∧ gStart.2.1 k = σ3.2.1 k) (l3 : gStart.2.2 = σ3.2.2) (a4 : ∀ k, k < 151 ∨ 159 ≤ k → gStart.1 k = σ4.1 k ∧ gStart.2.1 k = σ4.2.1 k) (l4 : gStart.2.2 = σ4.2.2) (a5 : ∀ k, k < 151 ∨ 161 ≤ k → gStart.1 k = σ5.1 k ∧ gStart.2.1 k = σ5.2.1 k) (l5 : gStart.2.2 = σ5.2.2) : Met l yX11_init (Cond.code yX11_init cX11_init 2 none :: wsL_law) ({ frames := 4, cells := 160, slots := 2850, locals := 75 } : Room) (va_Pc [.ref h0] (gI D y aS [(h0, .inr (11, [.null, .null, .null, .null, .null, .null, .null, .null, .null, .null, .null, .null, .null, .null, .int 0, .int 0, .int 0, .int 0, .int 0]))] sz)) (va_Qv (fun (u : (Nat → Nat) × List Nat) => u.1 0 = h0 ∧ gClL u.2 ∧ ∀ k, k ∈ u.2 ↔ (k < 161)) (fun u => gO D (va_A [(h0, .inr (11, [.null, .null, .null, .null, .null, .null, .null, .null, .null, .null, .null, .null, .null, .null, .int 0, .int 0, .int 0, .int 0, .int 0]))] sz) (GW u.2 y u.1 σ5)) (va_A [(h0, .inr (11, [.null, .null, .null, .null, .null, .null, .null, .null, .null, .null, .null, .null, .null, .null, .int 0, .int 0, .int 0, .int 0, .int 0]))] sz)) 160 2850 (va_A [(h0, .inr (11, [.null, .null, .null, .null, .null, .null, .null, .null, .null, .null, .null, .null, .null, .null, .int 0, .int 0, .int 0, .int 0, .int 0]))] sz) := by
  refine g_of (by decide) (Nat.le_of_ble_eq_true rfl) ?_
  intro p e s m below meth c ls A hx hb hr hml hown hg hlocks hin hsz hK hP hD hS hA hAe hl
  rw [← hAe]
  replace hown : s.vm.findClass RX11 = some m.cls := hown
  replace hin : meth.name = "<init>" := hin
  replace hl : lv_has ls 2 [(0, .ref h0)] := hl
  refine lv_aload_n hx hb dX11_init_0 rfl (lv_at hl 0 rfl) ?_
  refine W.objInit hx hb hown (hg _ gw_10) (hg _ gw_11) (hg _ gw_12) rfl (by rw [hml]; exact hl.1) rfl dX11_init_1 (Nat.le_of_ble_eq_true rfl) (Nat.le_of_ble_eq_true rfl) ?_
  refine W.eq (g2 := F0 m 4 ls []) rfl ?_
  replace hP : va_P D vwCl ([(h0, .inr (11, [.null, .null, .null, .null, .null, .null, .null, .null, .null, .null, .null, .null, .null, .null, .int 0, .int 0, .int 0, .int 0, .int 0]))] ++ GW [] y (fun _ => 0) gStart) s.heap := hP
  replace hD : va_D A ([(h0, .inr (11, [.null, .null, .null, .null, .null, .null, .null, .null, .null, .null, .null, .null, .null, .null, .int 0, .int 0, .int 0, .int 0, .int 0]))] ++ GW [] y (fun _ => 0) gStart) := hD
  refine lv_aload_n hx hb dX11_init_4 rfl (lv_at hl 0 rfl) ?_
  refine va_new (ci := 2) (fs := [.null, .null, .null, .int 0, .int 0]) (C := RX2) (T := TX2) (N := 5) hx hb hg inlX2 tyX2 tyX2_ok hown (hg _ gw_13) (hg _ gw_14) (hg _ gw_15) hK.1 hP hD hS hA rfl dfX2 (Nat.le_of_ble_eq_true rfl) (Nat.le_of_ble_eq_true rfl) dX11_init_5 ?_
  clear hP hD hS
  intro q1 H hP hD hS
  refine lv_dup hx hb dX11_init_8 rfl ?_
  refine g_avI (va_runI (As := []) (rest := [.ref q1, .ref h0]) ⟨hx, hb, hml, hown, hg⟩ (kc_Changes l D y aS H.size q1) (cwI 0 hg ggI_RX11_9_X2_init rfl rfl rfl (hg _ gw_15) (hg _ gw_56) (hg _ gw_57) rfl (by decide +kernel) ⟨Nat.le_of_ble_eq_true rfl, Nat.le_of_ble_eq_true rfl⟩) (g_preI hK hP hD) rfl rfl hl.1 rfl (lv_room (Nat.le_of_ble_eq_true rfl)) dX11_init_9 ⟨(Nat.le_of_ble_eq_true rfl), (Nat.le_of_ble_eq_true rfl)⟩) hP hD hS hA ?_
  clear hP hD hS
  intro u2 H locs hqu2 hP hD hS
  obtain ⟨ad3, hs4, hm5, heq⟩ := G_merge (y := y) (ad := (fun _ => 0)) (u := u2.1) (σ := gStart) gClL_nil hqu2.2.1 (fun k hk hn => by have b1 := (hqu2.2.2 k).mp hk; have b2 := ((fun k => (⟨fun h => (nomatch h), fun h => absurd h (by omega)⟩ : k ∈ [] ↔ k < 0)) k).mp hn; omega)
  replace hP : va_P D vwCl ([(h0, .inr (11, [.null, .null, .null, .null, .null, .null, .null, .null, .null, .null, .null, .null, .null, .null, .int 0, .int 0, .int 0, .int 0, .int 0]))] ++ GW ([] ++ u2.2) y ad3 gStart) H := by rw [← heq]; exact hP
  replace hD : va_D A ([(h0, .inr (11, [.null, .null, .null, .null, .null, .null, .null, .null, .null, .null, .null, .null, .null, .null, .int 0, .int 0, .int 0, .int 0, .int 0]))] ++ GW ([] ++ u2.2) y ad3 gStart) := by rw [← heq]; exact hD
  clear heq
  have hcad3 : gClL ([] ++ u2.2) := gClL_app gClL_nil hqu2.2.1
  have hMad3 : ∀ k, k ∈ ([] ++ u2.2) ↔ (1 ≤ k ∧ k < 65) := fun k => List.mem_append.trans (by have b1 := hqu2.2.2 k; have b2 := (fun k => (⟨fun h => (nomatch h), fun h => absurd h (by omega)⟩ : k ∈ [] ↔ k < 0)) k; constructor <;> intro h <;> (first | omega | (rcases h with h | h <;> first | (have := b1.mp h; omega) | (have := b2.mp h; omega)) | (rw [b1, b2]; omega)))
  have hf7 : ad3 1 = q1 := (hm5 1 ((hqu2.2.2 1).mpr (by omega))).trans hqu2.1
  generalize hL0 : ([] ++ u2.2) = Lad3 at hP hD hcad3 hMad3
  clear hL0
  refine gm_putF (D := D) (ci := 11) (v := .ref q1) (ty := .object "Greentrunk$Changes") (C := RX11) (T := TX11) (N := 19) hx hb hg inlX11 tyX11 tyX11_ok nmX11 hown hK.1 hP hD hS 0 rfl rfl 0 (by decide) tX11_0 (hg _ gw_16) hin rfl (by decide +kernel) rfl rfl (Nat.le_of_ble_eq_true rfl) dX11_init_12 ?_
  clear hP hD hS
  refine fun H locs (hP : va_P D vwCl (([(h0, .inr (11, [.ref q1, .null, .null, .null, .null, .null, .null, .null, .null, .null, .null, .null, .null, .null, .int 0, .int 0, .int 0, .int 0, .int 0]))] ++ GW Lad3 y ad3 gStart)) H) (hD : va_D A (([(h0, .inr (11, [.ref q1, .null, .null, .null, .null, .null, .null, .null, .null, .null, .null, .null, .null, .null, .int 0, .int 0, .int 0, .int 0, .int 0]))] ++ GW Lad3 y ad3 gStart))) hS => ?_
  refine lv_aload_n hx hb dX11_init_15 rfl (lv_at hl 0 rfl) ?_
  refine va_new (ci := 7) (fs := [.null, .null, .null, .null, .null, .int 0]) (C := RX7) (T := TX7) (N := 6) hx hb hg inlX7 tyX7 tyX7_ok hown (hg _ gw_17) (hg _ gw_18) (hg _ gw_19) hK.1 hP hD hS hA rfl dfX7 (Nat.le_of_ble_eq_true rfl) (Nat.le_of_ble_eq_true rfl) dX11_init_16 ?_
  clear hP hD hS
  intro q8 H hP hD hS
  refine lv_dup hx hb dX11_init_19 rfl ?_
  refine g_avI (va_runI (As := []) (rest := [.ref q8, .ref h0]) ⟨hx, hb, hml, hown, hg⟩ (kc_Pipeline l D y aS H.size q8) (cwI 0 hg ggI_RX11_18_X7_init rfl rfl rfl (hg _ gw_19) (hg _ gw_74) (hg _ gw_75) rfl (by decide +kernel) ⟨Nat.le_of_ble_eq_true rfl, Nat.le_of_ble_eq_true rfl⟩) (g_preI hK hP hD) rfl rfl hl.1 rfl (lv_room (Nat.le_of_ble_eq_true rfl)) dX11_init_20 ⟨(Nat.le_of_ble_eq_true rfl), (Nat.le_of_ble_eq_true rfl)⟩) hP hD hS hA ?_
  clear hP hD hS
  intro u9 H locs hqu9 hP hD hS
  obtain ⟨ad10, hs11, hm12, heq⟩ := G_merge (y := y) (ad := ad3) (u := u9.1) (σ := gStart) hcad3 hqu9.2.1 (fun k hk hn => by have b1 := (hqu9.2.2 k).mp hk; have b2 := (hMad3 k).mp hn; omega)
  replace hP : va_P D vwCl ([(h0, .inr (11, [.ref q1, .null, .null, .null, .null, .null, .null, .null, .null, .null, .null, .null, .null, .null, .int 0, .int 0, .int 0, .int 0, .int 0]))] ++ GW (Lad3 ++ u9.2) y ad10 gStart) H := by rw [← heq]; exact hP
  replace hD : va_D A ([(h0, .inr (11, [.ref q1, .null, .null, .null, .null, .null, .null, .null, .null, .null, .null, .null, .null, .null, .int 0, .int 0, .int 0, .int 0, .int 0]))] ++ GW (Lad3 ++ u9.2) y ad10 gStart) := by rw [← heq]; exact hD
  clear heq
  have hcad10 : gClL (Lad3 ++ u9.2) := gClL_app hcad3 hqu9.2.1
  have hMad10 : ∀ k, k ∈ (Lad3 ++ u9.2) ↔ ((1 ≤ k ∧ k < 65) ∨ (65 ≤ k ∧ k < 106)) := fun k => List.mem_append.trans (by have b1 := hqu9.2.2 k; have b2 := hMad3 k; constructor <;> intro h <;> (first | omega | (rcases h with h | h <;> first | (have := b1.mp h; omega) | (have := b2.mp h; omega)) | (rw [b1, b2]; omega)))
  have hf14 : ad10 1 = q1 := (hs11 1 ((hMad3 1).mpr (by omega))).trans hf7
  have hf15 : ad10 65 = q8 := (hm12 65 ((hqu9.2.2 65).mpr (by omega))).trans hqu9.1
  generalize hL0 : (Lad3 ++ u9.2) = Lad10 at hP hD hcad10 hMad10
  clear hL0
  refine gm_putF (D := D) (ci := 11) (v := .ref q8) (ty := .object "Greentrunk$Pipeline") (C := RX11) (T := TX11) (N := 19) hx hb hg inlX11 tyX11 tyX11_ok nmX11 hown hK.1 hP hD hS 0 rfl rfl 1 (by decide) tX11_1 (hg _ gw_20) hin rfl (by decide +kernel) rfl rfl (Nat.le_of_ble_eq_true rfl) dX11_init_23 ?_
  clear hP hD hS
  refine fun H locs (hP : va_P D vwCl (([(h0, .inr (11, [.ref q1, .ref q8, .null, .null, .null, .null, .null, .null, .null, .null, .null, .null, .null, .null, .int 0, .int 0, .int 0, .int 0, .int 0]))] ++ GW Lad10 y ad10 gStart)) H) (hD : va_D A (([(h0, .inr (11, [.ref q1, .ref q8, .null, .null, .null, .null, .null, .null, .null, .null, .null, .null, .null, .null, .int 0, .int 0, .int 0, .int 0, .int 0]))] ++ GW Lad10 y ad10 gStart))) hS => ?_
  refine lv_aload_n hx hb dX11_init_26 rfl (lv_at hl 0 rfl) ?_
  refine va_new (ci := 9) (fs := [.null, .null, .int 0]) (C := RX9) (T := TX9) (N := 3) hx hb hg inlX9 tyX9 tyX9_ok hown (hg _ gw_21) (hg _ gw_22) (hg _ gw_23) hK.1 hP hD hS hA rfl dfX9 (Nat.le_of_ble_eq_true rfl) (Nat.le_of_ble_eq_true rfl) dX11_init_27 ?_
  clear hP hD hS
  intro q16 H hP hD hS
  refine lv_dup hx hb dX11_init_30 rfl ?_
  refine g_avI (va_runIN (As := []) (rest := [.ref q16, .ref h0]) ⟨hx, hb, hml, hown, hg⟩ (kc_Verdicts l D y aS H.size q16) ⟨va_cnB 0 hg ggI_RX11_25_X9_init rfl rfl rfl (hK.2.1 _ (List.mem_of_getElem? (i := 0) rfl)) (hg _ gw_23) (by decide +kernel) ⟨Nat.le_of_ble_eq_true rfl, Nat.le_of_ble_eq_true rfl⟩, rfl, (hg _ gw_100)⟩ (g_preI hK hP hD) rfl rfl hl.1 rfl (lv_room (Nat.le_of_ble_eq_true rfl)) dX11_init_31 ⟨(Nat.le_of_ble_eq_true rfl), (Nat.le_of_ble_eq_true rfl)⟩) hP hD hS hA ?_
  clear hP hD hS
  intro u17 H locs hqu17 hP hD hS
  obtain ⟨ad18, hs19, hm20, heq⟩ := G_merge (y := y) (ad := ad10) (u := u17.1) (σ := gStart) hcad10 hqu17.2.1 (fun k hk hn => by have b1 := (hqu17.2.2 k).mp hk; have b2 := (hMad10 k).mp hn; omega)
  replace hP : va_P D vwCl ([(h0, .inr (11, [.ref q1, .ref q8, .null, .null, .null, .null, .null, .null, .null, .null, .null, .null, .null, .null, .int 0, .int 0, .int 0, .int 0, .int 0]))] ++ GW (Lad10 ++ u17.2) y ad18 gStart) H := by rw [← heq]; exact hP
  replace hD : va_D A ([(h0, .inr (11, [.ref q1, .ref q8, .null, .null, .null, .null, .null, .null, .null, .null, .null, .null, .null, .null, .int 0, .int 0, .int 0, .int 0, .int 0]))] ++ GW (Lad10 ++ u17.2) y ad18 gStart) := by rw [← heq]; exact hD
  clear heq
  have hcad18 : gClL (Lad10 ++ u17.2) := gClL_app hcad10 hqu17.2.1
  have hMad18 : ∀ k, k ∈ (Lad10 ++ u17.2) ↔ (((1 ≤ k ∧ k < 65) ∨ (65 ≤ k ∧ k < 106)) ∨ (106 ≤ k ∧ k < 109)) := fun k => List.mem_append.trans (by have b1 := hqu17.2.2 k; have b2 := hMad10 k; constructor <;> intro h <;> (first | omega | (rcases h with h | h <;> first | (have := b1.mp h; omega) | (have := b2.mp h; omega)) | (rw [b1, b2]; omega)))
  have hf22 : ad18 1 = q1 := (hs19 1 ((hMad10 1).mpr (by omega))).trans hf14
  have hf23 : ad18 65 = q8 := (hs19 65 ((hMad10 65).mpr (by omega))).trans hf15
  have hf24 : ad18 106 = q16 := (hm20 106 ((hqu17.2.2 106).mpr (by omega))).trans hqu17.1
  generalize hL0 : (Lad10 ++ u17.2) = Lad18 at hP hD hcad18 hMad18
  clear hL0
  refine gm_putF (D := D) (ci := 11) (v := .ref q16) (ty := .object "Greentrunk$Verdicts") (C := RX11) (T := TX11) (N := 19) hx hb hg inlX11 tyX11 tyX11_ok nmX11 hown hK.1 hP hD hS 0 rfl rfl 2 (by decide) tX11_2 (hg _ gw_24) hin rfl (by decide +kernel) rfl rfl (Nat.le_of_ble_eq_true rfl) dX11_init_34 ?_
  clear hP hD hS
  refine fun H locs (hP : va_P D vwCl (([(h0, .inr (11, [.ref q1, .ref q8, .ref q16, .null, .null, .null, .null, .null, .null, .null, .null, .null, .null, .null, .int 0, .int 0, .int 0, .int 0, .int 0]))] ++ GW Lad18 y ad18 gStart)) H) (hD : va_D A (([(h0, .inr (11, [.ref q1, .ref q8, .ref q16, .null, .null, .null, .null, .null, .null, .null, .null, .null, .null, .null, .int 0, .int 0, .int 0, .int 0, .int 0]))] ++ GW Lad18 y ad18 gStart))) hS => ?_
  refine lv_aload_n hx hb dX11_init_37 rfl (lv_at hl 0 rfl) ?_
  refine va_new (ci := 4) (fs := [.int 0, .int 0, .int 0, .int 0, .null, .null, .null, .null, .long 0]) (C := RX4) (T := TX4) (N := 9) hx hb hg inlX4 tyX4 tyX4_ok hown (hg _ gw_25) (hg _ gw_26) (hg _ gw_27) hK.1 hP hD hS hA rfl dfX4 (Nat.le_of_ble_eq_true rfl) (Nat.le_of_ble_eq_true rfl) dX11_init_38 ?_
  clear hP hD hS
  intro q25 H hP hD hS
  refine lv_dup hx hb dX11_init_41 rfl ?_
  refine g_avI (va_runIN (As := []) (rest := [.ref q25, .ref h0]) ⟨hx, hb, hml, hown, hg⟩ (kc_Lane l D y aS H.size q25) ⟨va_cnB 0 hg ggI_RX11_32_X4_init rfl rfl rfl (hK.2.1 _ (List.mem_of_getElem? (i := 1) rfl)) (hg _ gw_27) (by decide +kernel) ⟨Nat.le_of_ble_eq_true rfl, Nat.le_of_ble_eq_true rfl⟩, rfl, (hg _ gw_105)⟩ (g_preI hK hP hD) rfl rfl hl.1 rfl (lv_room (Nat.le_of_ble_eq_true rfl)) dX11_init_42 ⟨(Nat.le_of_ble_eq_true rfl), (Nat.le_of_ble_eq_true rfl)⟩) hP hD hS hA ?_
  clear hP hD hS
  intro u26 H locs hqu26 hP hD hS
  obtain ⟨ad27, hs28, hm29, heq⟩ := G_merge (y := y) (ad := ad18) (u := u26.1) (σ := gStart) hcad18 hqu26.2.1 (fun k hk hn => by have b1 := (hqu26.2.2 k).mp hk; have b2 := (hMad18 k).mp hn; omega)
  replace hP : va_P D vwCl ([(h0, .inr (11, [.ref q1, .ref q8, .ref q16, .null, .null, .null, .null, .null, .null, .null, .null, .null, .null, .null, .int 0, .int 0, .int 0, .int 0, .int 0]))] ++ GW (Lad18 ++ u26.2) y ad27 gStart) H := by rw [← heq]; exact hP
  replace hD : va_D A ([(h0, .inr (11, [.ref q1, .ref q8, .ref q16, .null, .null, .null, .null, .null, .null, .null, .null, .null, .null, .null, .int 0, .int 0, .int 0, .int 0, .int 0]))] ++ GW (Lad18 ++ u26.2) y ad27 gStart) := by rw [← heq]; exact hD
  clear heq
  have hcad27 : gClL (Lad18 ++ u26.2) := gClL_app hcad18 hqu26.2.1
  have hMad27 : ∀ k, k ∈ (Lad18 ++ u26.2) ↔ ((((1 ≤ k ∧ k < 65) ∨ (65 ≤ k ∧ k < 106)) ∨ (106 ≤ k ∧ k < 109)) ∨ (109 ≤ k ∧ k < 118)) := fun k => List.mem_append.trans (by have b1 := hqu26.2.2 k; have b2 := hMad18 k; constructor <;> intro h <;> (first | omega | (rcases h with h | h <;> first | (have := b1.mp h; omega) | (have := b2.mp h; omega)) | (rw [b1, b2]; omega)))
  have hf31 : ad27 1 = q1 := (hs28 1 ((hMad18 1).mpr (by omega))).trans hf22
  have hf32 : ad27 65 = q8 := (hs28 65 ((hMad18 65).mpr (by omega))).trans hf23
  have hf33 : ad27 106 = q16 := (hs28 106 ((hMad18 106).mpr (by omega))).trans hf24
  have hf34 : ad27 109 = q25 := (hm29 109 ((hqu26.2.2 109).mpr (by omega))).trans hqu26.1
  generalize hL0 : (Lad18 ++ u26.2) = Lad27 at hP hD hcad27 hMad27
  clear hL0
  refine gm_putF (D := D) (ci := 11) (v := .ref q25) (ty := .object "Greentrunk$Lane") (C := RX11) (T := TX11) (N := 19) hx hb hg inlX11 tyX11 tyX11_ok nmX11 hown hK.1 hP hD hS 0 rfl rfl 3 (by decide) tX11_3 (hg _ gw_28) hin rfl (by decide +kernel) rfl rfl (Nat.le_of_ble_eq_true rfl) dX11_init_45 ?_
  clear hP hD hS
  refine fun H locs (hP : va_P D vwCl (([(h0, .inr (11, [.ref q1, .ref q8, .ref q16, .ref q25, .null, .null, .null, .null, .null, .null, .null, .null, .null, .null, .int 0, .int 0, .int 0, .int 0, .int 0]))] ++ GW Lad27 y ad27 gStart)) H) (hD : va_D A (([(h0, .inr (11, [.ref q1, .ref q8, .ref q16, .ref q25, .null, .null, .null, .null, .null, .null, .null, .null, .null, .null, .int 0, .int 0, .int 0, .int 0, .int 0]))] ++ GW Lad27 y ad27 gStart))) hS => ?_
  refine lv_aload_n hx hb dX11_init_48 rfl (lv_at hl 0 rfl) ?_
  refine va_new (ci := 0) (fs := [.null, .null, .null, .int 0, .int 0, .int 0, .int 0]) (C := RX0) (T := TX0) (N := 7) hx hb hg inlX0 tyX0 tyX0_ok hown (hg _ gw_29) (hg _ gw_30) (hg _ gw_31) hK.1 hP hD hS hA rfl dfX0 (Nat.le_of_ble_eq_true rfl) (Nat.le_of_ble_eq_true rfl) dX11_init_49 ?_
  clear hP hD hS
  intro q35 H hP hD hS
  refine lv_dup hx hb dX11_init_52 rfl ?_
  refine g_avI (va_runIN (As := []) (rest := [.ref q35, .ref h0]) ⟨hx, hb, hml, hown, hg⟩ (kc_Beginnings l D y aS H.size q35) ⟨va_cnB 0 hg ggI_RX11_39_X0_init rfl rfl rfl (hK.2.1 _ (List.mem_of_getElem? (i := 2) rfl)) (hg _ gw_31) (by decide +kernel) ⟨Nat.le_of_ble_eq_true rfl, Nat.le_of_ble_eq_true rfl⟩, rfl, (hg _ gw_116)⟩ (g_preI hK hP hD) rfl rfl hl.1 rfl (lv_room (Nat.le_of_ble_eq_true rfl)) dX11_init_53 ⟨(Nat.le_of_ble_eq_true rfl), (Nat.le_of_ble_eq_true rfl)⟩) hP hD hS hA ?_
  clear hP hD hS
  intro u36 H locs hqu36 hP hD hS
  obtain ⟨ad37, hs38, hm39, heq⟩ := G_merge (y := y) (ad := ad27) (u := u36.1) (σ := gStart) hcad27 hqu36.2.1 (fun k hk hn => by have b1 := (hqu36.2.2 k).mp hk; have b2 := (hMad27 k).mp hn; omega)
  replace hP : va_P D vwCl ([(h0, .inr (11, [.ref q1, .ref q8, .ref q16, .ref q25, .null, .null, .null, .null, .null, .null, .null, .null, .null, .null, .int 0, .int 0, .int 0, .int 0, .int 0]))] ++ GW (Lad27 ++ u36.2) y ad37 gStart) H := by rw [← heq]; exact hP
  replace hD : va_D A ([(h0, .inr (11, [.ref q1, .ref q8, .ref q16, .ref q25, .null, .null, .null, .null, .null, .null, .null, .null, .null, .null, .int 0, .int 0, .int 0, .int 0, .int 0]))] ++ GW (Lad27 ++ u36.2) y ad37 gStart) := by rw [← heq]; exact hD
  clear heq
  have hcad37 : gClL (Lad27 ++ u36.2) := gClL_app hcad27 hqu36.2.1
  have hMad37 : ∀ k, k ∈ (Lad27 ++ u36.2) ↔ (((((1 ≤ k ∧ k < 65) ∨ (65 ≤ k ∧ k < 106)) ∨ (106 ≤ k ∧ k < 109)) ∨ (109 ≤ k ∧ k < 118)) ∨ (118 ≤ k ∧ k < 125)) := fun k => List.mem_append.trans (by have b1 := hqu36.2.2 k; have b2 := hMad27 k; constructor <;> intro h <;> (first | omega | (rcases h with h | h <;> first | (have := b1.mp h; omega) | (have := b2.mp h; omega)) | (rw [b1, b2]; omega)))
  have hf41 : ad37 1 = q1 := (hs38 1 ((hMad27 1).mpr (by omega))).trans hf31
  have hf42 : ad37 65 = q8 := (hs38 65 ((hMad27 65).mpr (by omega))).trans hf32
  have hf43 : ad37 106 = q16 := (hs38 106 ((hMad27 106).mpr (by omega))).trans hf33
  have hf44 : ad37 109 = q25 := (hs38 109 ((hMad27 109).mpr (by omega))).trans hf34
  have hf45 : ad37 118 = q35 := (hm39 118 ((hqu36.2.2 118).mpr (by omega))).trans hqu36.1
  generalize hL0 : (Lad27 ++ u36.2) = Lad37 at hP hD hcad37 hMad37
  clear hL0
  refine gm_putF (D := D) (ci := 11) (v := .ref q35) (ty := .object "Greentrunk$Beginnings") (C := RX11) (T := TX11) (N := 19) hx hb hg inlX11 tyX11 tyX11_ok nmX11 hown hK.1 hP hD hS 0 rfl rfl 4 (by decide) tX11_4 (hg _ gw_32) hin rfl (by decide +kernel) rfl rfl (Nat.le_of_ble_eq_true rfl) dX11_init_56 ?_
  clear hP hD hS
  refine fun H locs (hP : va_P D vwCl (([(h0, .inr (11, [.ref q1, .ref q8, .ref q16, .ref q25, .ref q35, .null, .null, .null, .null, .null, .null, .null, .null, .null, .int 0, .int 0, .int 0, .int 0, .int 0]))] ++ GW Lad37 y ad37 gStart)) H) (hD : va_D A (([(h0, .inr (11, [.ref q1, .ref q8, .ref q16, .ref q25, .ref q35, .null, .null, .null, .null, .null, .null, .null, .null, .null, .int 0, .int 0, .int 0, .int 0, .int 0]))] ++ GW Lad37 y ad37 gStart))) hS => ?_
  refine lv_aload_n hx hb dX11_init_59 rfl (lv_at hl 0 rfl) ?_
  refine va_new (ci := 10) (fs := [.null, .null, .null, .null]) (C := RX10) (T := TX10) (N := 4) hx hb hg inlX10 tyX10 tyX10_ok hown (hg _ gw_33) (hg _ gw_34) (hg _ gw_35) hK.1 hP hD hS hA rfl dfX10 (Nat.le_of_ble_eq_true rfl) (Nat.le_of_ble_eq_true rfl) dX11_init_60 ?_
  clear hP hD hS
  intro q46 H hP hD hS
  refine lv_dup hx hb dX11_init_63 rfl ?_
  refine g_avI (va_runIN (As := []) (rest := [.ref q46, .ref h0]) ⟨hx, hb, hml, hown, hg⟩ (kc_Wanted l D y aS H.size q46) ⟨va_cnB 0 hg ggI_RX11_46_X10_init rfl rfl rfl (hK.2.1 _ (List.mem_of_getElem? (i := 3) rfl)) (hg _ gw_35) (by decide +kernel) ⟨Nat.le_of_ble_eq_true rfl, Nat.le_of_ble_eq_true rfl⟩, rfl, (hg _ gw_124)⟩ (g_preI hK hP hD) rfl rfl hl.1 rfl (lv_room (Nat.le_of_ble_eq_true rfl)) dX11_init_64 ⟨(Nat.le_of_ble_eq_true rfl), (Nat.le_of_ble_eq_true rfl)⟩) hP hD hS hA ?_
  clear hP hD hS
  intro u47 H locs hqu47 hP hD hS
  obtain ⟨ad48, hs49, hm50, heq⟩ := G_merge (y := y) (ad := ad37) (u := u47.1) (σ := gStart) hcad37 hqu47.2.1 (fun k hk hn => by have b1 := (hqu47.2.2 k).mp hk; have b2 := (hMad37 k).mp hn; omega)
  replace hP : va_P D vwCl ([(h0, .inr (11, [.ref q1, .ref q8, .ref q16, .ref q25, .ref q35, .null, .null, .null, .null, .null, .null, .null, .null, .null, .int 0, .int 0, .int 0, .int 0, .int 0]))] ++ GW (Lad37 ++ u47.2) y ad48 gStart) H := by rw [← heq]; exact hP
  replace hD : va_D A ([(h0, .inr (11, [.ref q1, .ref q8, .ref q16, .ref q25, .ref q35, .null, .null, .null, .null, .null, .null, .null, .null, .null, .int 0, .int 0, .int 0, .int 0, .int 0]))] ++ GW (Lad37 ++ u47.2) y ad48 gStart) := by rw [← heq]; exact hD
  clear heq
  have hcad48 : gClL (Lad37 ++ u47.2) := gClL_app hcad37 hqu47.2.1
  have hMad48 : ∀ k, k ∈ (Lad37 ++ u47.2) ↔ ((((((1 ≤ k ∧ k < 65) ∨ (65 ≤ k ∧ k < 106)) ∨ (106 ≤ k ∧ k < 109)) ∨ (109 ≤ k ∧ k < 118)) ∨ (118 ≤ k ∧ k < 125)) ∨ (125 ≤ k ∧ k < 134)) := fun k => List.mem_append.trans (by have b1 := hqu47.2.2 k; have b2 := hMad37 k; constructor <;> intro h <;> (first | omega | (rcases h with h | h <;> first | (have := b1.mp h; omega) | (have := b2.mp h; omega)) | (rw [b1, b2]; omega)))
  have hf52 : ad48 1 = q1 := (hs49 1 ((hMad37 1).mpr (by omega))).trans hf41
  have hf53 : ad48 65 = q8 := (hs49 65 ((hMad37 65).mpr (by omega))).trans hf42
  have hf54 : ad48 106 = q16 := (hs49 106 ((hMad37 106).mpr (by omega))).trans hf43
  have hf55 : ad48 109 = q25 := (hs49 109 ((hMad37 109).mpr (by omega))).trans hf44
  have hf56 : ad48 118 = q35 := (hs49 118 ((hMad37 118).mpr (by omega))).trans hf45
  have hf57 : ad48 125 = q46 := (hm50 125 ((hqu47.2.2 125).mpr (by omega))).trans hqu47.1
  generalize hL0 : (Lad37 ++ u47.2) = Lad48 at hP hD hcad48 hMad48
  clear hL0
  refine gm_putF (D := D) (ci := 11) (v := .ref q46) (ty := .object "Greentrunk$Wanted") (C := RX11) (T := TX11) (N := 19) hx hb hg inlX11 tyX11 tyX11_ok nmX11 hown hK.1 hP hD hS 0 rfl rfl 5 (by decide) tX11_5 (hg _ gw_36) hin rfl (by decide +kernel) rfl rfl (Nat.le_of_ble_eq_true rfl) dX11_init_67 ?_
  clear hP hD hS
  refine fun H locs (hP : va_P D vwCl (([(h0, .inr (11, [.ref q1, .ref q8, .ref q16, .ref q25, .ref q35, .ref q46, .null, .null, .null, .null, .null, .null, .null, .null, .int 0, .int 0, .int 0, .int 0, .int 0]))] ++ GW Lad48 y ad48 gStart)) H) (hD : va_D A (([(h0, .inr (11, [.ref q1, .ref q8, .ref q16, .ref q25, .ref q35, .ref q46, .null, .null, .null, .null, .null, .null, .null, .null, .int 0, .int 0, .int 0, .int 0, .int 0]))] ++ GW Lad48 y ad48 gStart))) hS => ?_
  refine lv_aload_n hx hb dX11_init_70 rfl (lv_at hl 0 rfl) ?_
  refine va_new (ci := 5) (fs := [.null, .null, .null, .null, .int 0]) (C := RX5) (T := TX5) (N := 5) hx hb hg inlX5 tyX5 tyX5_ok hown (hg _ gw_37) (hg _ gw_38) (hg _ gw_39) hK.1 hP hD hS hA rfl dfX5 (Nat.le_of_ble_eq_true rfl) (Nat.le_of_ble_eq_true rfl) dX11_init_71 ?_
  clear hP hD hS
  intro q58 H hP hD hS
  refine lv_dup hx hb dX11_init_74 rfl ?_
  refine g_avI (va_runIN (As := []) (rest := [.ref q58, .ref h0]) ⟨hx, hb, hml, hown, hg⟩ (kc_LogBook l D y aS H.size q58) ⟨va_cnB 0 hg ggI_RX11_53_X5_init rfl rfl rfl (hK.2.1 _ (List.mem_of_getElem? (i := 4) rfl)) (hg _ gw_39) (by decide +kernel) ⟨Nat.le_of_ble_eq_true rfl, Nat.le_of_ble_eq_true rfl⟩, rfl, (hg _ gw_133)⟩ (g_preI hK hP hD) rfl rfl hl.1 rfl (lv_room (Nat.le_of_ble_eq_true rfl)) dX11_init_75 ⟨(Nat.le_of_ble_eq_true rfl), (Nat.le_of_ble_eq_true rfl)⟩) hP hD hS hA ?_
  clear hP hD hS
  intro u59 H locs hqu59 hP hD hS
  obtain ⟨ad60, hs61, hm62, heq⟩ := G_merge (y := y) (ad := ad48) (u := u59.1) (σ := gStart) hcad48 hqu59.2.1 (fun k hk hn => by have b1 := (hqu59.2.2 k).mp hk; have b2 := (hMad48 k).mp hn; omega)
  replace hP : va_P D vwCl ([(h0, .inr (11, [.ref q1, .ref q8, .ref q16, .ref q25, .ref q35, .ref q46, .null, .null, .null, .null, .null, .null, .null, .null, .int 0, .int 0, .int 0, .int 0, .int 0]))] ++ GW (Lad48 ++ u59.2) y ad60 gStart) H := by rw [← heq]; exact hP
  replace hD : va_D A ([(h0, .inr (11, [.ref q1, .ref q8, .ref q16, .ref q25, .ref q35, .ref q46, .null, .null, .null, .null, .null, .null, .null, .null, .int 0, .int 0, .int 0, .int 0, .int 0]))] ++ GW (Lad48 ++ u59.2) y ad60 gStart) := by rw [← heq]; exact hD
  clear heq
  have hcad60 : gClL (Lad48 ++ u59.2) := gClL_app hcad48 hqu59.2.1
  have hMad60 : ∀ k, k ∈ (Lad48 ++ u59.2) ↔ (((((((1 ≤ k ∧ k < 65) ∨ (65 ≤ k ∧ k < 106)) ∨ (106 ≤ k ∧ k < 109)) ∨ (109 ≤ k ∧ k < 118)) ∨ (118 ≤ k ∧ k < 125)) ∨ (125 ≤ k ∧ k < 134)) ∨ (134 ≤ k ∧ k < 143)) := fun k => List.mem_append.trans (by have b1 := hqu59.2.2 k; have b2 := hMad48 k; constructor <;> intro h <;> (first | omega | (rcases h with h | h <;> first | (have := b1.mp h; omega) | (have := b2.mp h; omega)) | (rw [b1, b2]; omega)))
  have hf64 : ad60 1 = q1 := (hs61 1 ((hMad48 1).mpr (by omega))).trans hf52
  have hf65 : ad60 65 = q8 := (hs61 65 ((hMad48 65).mpr (by omega))).trans hf53
  have hf66 : ad60 106 = q16 := (hs61 106 ((hMad48 106).mpr (by omega))).trans hf54
  have hf67 : ad60 109 = q25 := (hs61 109 ((hMad48 109).mpr (by omega))).trans hf55
  have hf68 : ad60 118 = q35 := (hs61 118 ((hMad48 118).mpr (by omega))).trans hf56
  have hf69 : ad60 125 = q46 := (hs61 125 ((hMad48 125).mpr (by omega))).trans hf57
  have hf70 : ad60 134 = q58 := (hm62 134 ((hqu59.2.2 134).mpr (by omega))).trans hqu59.1
  generalize hL0 : (Lad48 ++ u59.2) = Lad60 at hP hD hcad60 hMad60
  clear hL0
  refine gm_putF (D := D) (ci := 11) (v := .ref q58) (ty := .object "Greentrunk$LogBook") (C := RX11) (T := TX11) (N := 19) hx hb hg inlX11 tyX11 tyX11_ok nmX11 hown hK.1 hP hD hS 0 rfl rfl 6 (by decide) tX11_6 (hg _ gw_40) hin rfl (by decide +kernel) rfl rfl (Nat.le_of_ble_eq_true rfl) dX11_init_78 ?_
  clear hP hD hS
  refine fun H locs (hP : va_P D vwCl (([(h0, .inr (11, [.ref q1, .ref q8, .ref q16, .ref q25, .ref q35, .ref q46, .ref q58, .null, .null, .null, .null, .null, .null, .null, .int 0, .int 0, .int 0, .int 0, .int 0]))] ++ GW Lad60 y ad60 gStart)) H) (hD : va_D A (([(h0, .inr (11, [.ref q1, .ref q8, .ref q16, .ref q25, .ref q35, .ref q46, .ref q58, .null, .null, .null, .null, .null, .null, .null, .int 0, .int 0, .int 0, .int 0, .int 0]))] ++ GW Lad60 y ad60 gStart))) hS => ?_
  refine lv_aload_n hx hb dX11_init_81 rfl (lv_at hl 0 rfl) ?_
  refine lv_bipush (v := 6) hx hb dX11_init_82 (by decide +kernel) ?_
  refine g_newq (C := RX6) hx hb 5 rfl hown (hg _ gw_41) hK.2.2.1.2.2 hK hP hD hS hA (N' := 6) (by decide +kernel) (by decide +kernel) (by decide) (Nat.le_of_ble_eq_true rfl) (Nat.le_of_ble_eq_true rfl) dX11_init_84 ?_
  clear hP hD hS
  intro q71 H hP0 hD0 hS
  obtain ⟨hP, hD⟩ := g_permA (E := [(h0, .inr (11, [.ref q1, .ref q8, .ref q16, .ref q25, .ref q35, .ref q46, .ref q58, .null, .null, .null, .null, .null, .null, .null, .int 0, .int 0, .int 0, .int 0, .int 0]))]) (X := GW Lad60 y ad60 gStart) hP0 hD0
  clear hP0 hD0
  replace hP : va_P D vwCl ([(h0, .inr (11, [.ref q1, .ref q8, .ref q16, .ref q25, .ref q35, .ref q46, .ref q58, .null, .null, .null, .null, .null, .null, .null, .int 0, .int 0, .int 0, .int 0, .int 0])), (q71, .inl (y 5, 6, .inr (.inr (.inr (.inr (fun _ => none))))))] ++ GW Lad60 y ad60 gStart) H := hP
  replace hD : va_D A ([(h0, .inr (11, [.ref q1, .ref q8, .ref q16, .ref q25, .ref q35, .ref q46, .ref q58, .null, .null, .null, .null, .null, .null, .null, .int 0, .int 0, .int 0, .int 0, .int 0])), (q71, .inl (y 5, 6, .inr (.inr (.inr (.inr (fun _ => none))))))] ++ GW Lad60 y ad60 gStart) := hD
  refine gm_putF (D := D) (ci := 11) (v := .ref q71) (ty := .array (.object "Greentrunk$Machine")) (C := RX11) (T := TX11) (N := 19) hx hb hg inlX11 tyX11 tyX11_ok nmX11 hown hK.1 hP hD hS 0 rfl rfl 7 (by decide) tX11_7 (hg _ gw_42) hin rfl (by decide +kernel) rfl rfl (Nat.le_of_ble_eq_true rfl) dX11_init_87 ?_
  clear hP hD hS
  refine fun H locs (hP : va_P D vwCl (([(h0, .inr (11, [.ref q1, .ref q8, .ref q16, .ref q25, .ref q35, .ref q46, .ref q58, .ref q71, .null, .null, .null, .null, .null, .null, .int 0, .int 0, .int 0, .int 0, .int 0])), (q71, .inl (y 5, 6, .inr (.inr (.inr (.inr (fun _ => none))))))] ++ GW Lad60 y ad60 gStart)) H) (hD : va_D A (([(h0, .inr (11, [.ref q1, .ref q8, .ref q16, .ref q25, .ref q35, .ref q46, .ref q58, .ref q71, .null, .null, .null, .null, .null, .null, .int 0, .int 0, .int 0, .int 0, .int 0])), (q71, .inl (y 5, 6, .inr (.inr (.inr (.inr (fun _ => none))))))] ++ GW Lad60 y ad60 gStart))) hS => ?_
  refine lv_iconst (v := 0) hx hb dX11_init_90 (by decide) ?_
  refine lv_istore_n (lv' := [(1, .int 0), (0, .ref h0)]) hx hb dX11_init_91 rfl hl (by decide) rfl ?_
  clear hl
  intro ls hl
  exact wc_Green (aS := aS) hx hb hr hml hown hg hlocks hin hK hA e1 e2 e3 e4 e5 a1 l1 a2 l2 a3 l3 a4 l4 a5 l5 6 0 rfl Lad60 ad60 (fun _ => none) _ _ _ _ _ (by omega) (by omega) hcad60 (fun k => (hMad60 k).trans (by omega)) (fun j hj => absurd hj (by omega)) (fun j hj => rfl) hf64 hf65 hf66 hf67 hf68 hf69 hf70 hP hD hS hl
