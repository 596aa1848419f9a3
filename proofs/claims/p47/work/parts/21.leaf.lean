def dt7_X11_needPlace : List (Nat × Instr × Nat) := [(0, (.iload_n 0, 1)), (1, (.ifCond .lt 8, 3)), (4, (.iload_n 0, 1)), (5, (.iload_n 1, 1)), (6, (.if_icmp .lt 14, 3)), (20, (.return_, 1))]
theorem dt7_X11_needPlace_ok : ∀ q ∈ dt7_X11_needPlace, decode cX11_needPlace q.1 = .ok q.2 := by decide +kernel
theorem dX11_needPlace_0 : decode cX11_needPlace 0 = .ok (.iload_n 0, 1) := g_dec dt7_X11_needPlace_ok (k := 0) rfl
theorem dX11_needPlace_1 : decode cX11_needPlace 1 = .ok (.ifCond .lt 8, 3) := g_dec dt7_X11_needPlace_ok (k := 1) rfl
theorem dX11_needPlace_4 : decode cX11_needPlace 4 = .ok (.iload_n 0, 1) := g_dec dt7_X11_needPlace_ok (k := 2) rfl
theorem dX11_needPlace_5 : decode cX11_needPlace 5 = .ok (.iload_n 1, 1) := g_dec dt7_X11_needPlace_ok (k := 3) rfl
theorem dX11_needPlace_6 : decode cX11_needPlace 6 = .ok (.if_icmp .lt 14, 3) := g_dec dt7_X11_needPlace_ok (k := 4) rfl
theorem dX11_needPlace_20 : decode cX11_needPlace 20 = .ok (.return_, 1) := g_dec dt7_X11_needPlace_ok (k := 5) rfl
def dt8_X11_needRange : List (Nat × Instr × Nat) := [(0, (.iload_n 0, 1)), (1, (.iload_n 1, 1)), (2, (.if_icmp .lt 8, 3)), (5, (.iload_n 0, 1)), (6, (.iload_n 2, 1)), (7, (.if_icmp .le 14, 3)), (21, (.return_, 1))]
theorem dt8_X11_needRange_ok : ∀ q ∈ dt8_X11_needRange, decode cX11_needRange q.1 = .ok q.2 := by decide +kernel
theorem dX11_needRange_0 : decode cX11_needRange 0 = .ok (.iload_n 0, 1) := g_dec dt8_X11_needRange_ok (k := 0) rfl
theorem dX11_needRange_1 : decode cX11_needRange 1 = .ok (.iload_n 1, 1) := g_dec dt8_X11_needRange_ok (k := 1) rfl
theorem dX11_needRange_2 : decode cX11_needRange 2 = .ok (.if_icmp .lt 8, 3) := g_dec dt8_X11_needRange_ok (k := 2) rfl
theorem dX11_needRange_5 : decode cX11_needRange 5 = .ok (.iload_n 0, 1) := g_dec dt8_X11_needRange_ok (k := 3) rfl
theorem dX11_needRange_6 : decode cX11_needRange 6 = .ok (.iload_n 2, 1) := g_dec dt8_X11_needRange_ok (k := 4) rfl
theorem dX11_needRange_7 : decode cX11_needRange 7 = .ok (.if_icmp .le 14, 3) := g_dec dt8_X11_needRange_ok (k := 5) rfl
theorem dX11_needRange_21 : decode cX11_needRange 21 = .ok (.return_, 1) := g_dec dt8_X11_needRange_ok (k := 6) rfl
def dt9_X11_needArgument : List (Nat × Instr × Nat) := [(0, (.iload_n 0, 1)), (1, (.ifCond .ne 14, 3)), (15, (.return_, 1))]
theorem dt9_X11_needArgument_ok : ∀ q ∈ dt9_X11_needArgument, decode cX11_needArgument q.1 = .ok q.2 := by decide +kernel
theorem dX11_needArgument_0 : decode cX11_needArgument 0 = .ok (.iload_n 0, 1) := g_dec dt9_X11_needArgument_ok (k := 0) rfl
theorem dX11_needArgument_1 : decode cX11_needArgument 1 = .ok (.ifCond .ne 14, 3) := g_dec dt9_X11_needArgument_ok (k := 1) rfl
theorem dX11_needArgument_15 : decode cX11_needArgument 15 = .ok (.return_, 1) := g_dec dt9_X11_needArgument_ok (k := 2) rfl
def dt10_X11_needState : List (Nat × Instr × Nat) := [(0, (.iload_n 0, 1)), (1, (.ifCond .ne 14, 3)), (15, (.return_, 1))]
theorem dt10_X11_needState_ok : ∀ q ∈ dt10_X11_needState, decode cX11_needState q.1 = .ok q.2 := by decide +kernel
theorem dX11_needState_0 : decode cX11_needState 0 = .ok (.iload_n 0, 1) := g_dec dt10_X11_needState_ok (k := 0) rfl
theorem dX11_needState_1 : decode cX11_needState 1 = .ok (.ifCond .ne 14, 3) := g_dec dt10_X11_needState_ok (k := 1) rfl
theorem dX11_needState_15 : decode cX11_needState 15 = .ok (.return_, 1) := g_dec dt10_X11_needState_ok (k := 2) rfl
def dt11_X11_hasBit : List (Nat × Instr × Nat) := [(13, (.ireturn, 1)), (0, (.iload_n 0, 1)), (1, (.iload_n 1, 1)), (2, (.iushr, 1)), (3, (.iconst 1, 1)), (4, (.iand, 1)), (5, (.ifCond .eq 7, 3)), (12, (.iconst 0, 1)), (8, (.iconst 1, 1)), (9, (.goto 4, 3))]
theorem dt11_X11_hasBit_ok : ∀ q ∈ dt11_X11_hasBit, decode cX11_hasBit q.1 = .ok q.2 := by decide +kernel
theorem dX11_hasBit_13 : decode cX11_hasBit 13 = .ok (.ireturn, 1) := g_dec dt11_X11_hasBit_ok (k := 0) rfl
theorem dX11_hasBit_0 : decode cX11_hasBit 0 = .ok (.iload_n 0, 1) := g_dec dt11_X11_hasBit_ok (k := 1) rfl
theorem dX11_hasBit_1 : decode cX11_hasBit 1 = .ok (.iload_n 1, 1) := g_dec dt11_X11_hasBit_ok (k := 2) rfl
theorem dX11_hasBit_2 : decode cX11_hasBit 2 = .ok (.iushr, 1) := g_dec dt11_X11_hasBit_ok (k := 3) rfl
theorem dX11_hasBit_3 : decode cX11_hasBit 3 = .ok (.iconst 1, 1) := g_dec dt11_X11_hasBit_ok (k := 4) rfl
theorem dX11_hasBit_4 : decode cX11_hasBit 4 = .ok (.iand, 1) := g_dec dt11_X11_hasBit_ok (k := 5) rfl
theorem dX11_hasBit_5 : decode cX11_hasBit 5 = .ok (.ifCond .eq 7, 3) := g_dec dt11_X11_hasBit_ok (k := 6) rfl
theorem dX11_hasBit_12 : decode cX11_hasBit 12 = .ok (.iconst 0, 1) := g_dec dt11_X11_hasBit_ok (k := 7) rfl
theorem dX11_hasBit_8 : decode cX11_hasBit 8 = .ok (.iconst 1, 1) := g_dec dt11_X11_hasBit_ok (k := 8) rfl
theorem dX11_hasBit_9 : decode cX11_hasBit 9 = .ok (.goto 4, 3) := g_dec dt11_X11_hasBit_ok (k := 9) rfl
def dt12_X11_contentIn : List (Nat × Instr × Nat) := [(0, (.lload_n 0, 1)), (1, (.iconst 4, 1)), (2, (.iload_n 2, 1)), (3, (.imul, 1)), (4, (.lushr, 1)), (5, (.ldc2_w 383, 3)), (8, (.land, 1)), (9, (.l2i, 1)), (10, (.ireturn, 1))]
theorem dt12_X11_contentIn_ok : ∀ q ∈ dt12_X11_contentIn, decode cX11_contentIn q.1 = .ok q.2 := by decide +kernel
theorem dX11_contentIn_0 : decode cX11_contentIn 0 = .ok (.lload_n 0, 1) := g_dec dt12_X11_contentIn_ok (k := 0) rfl
theorem dX11_contentIn_1 : decode cX11_contentIn 1 = .ok (.iconst 4, 1) := g_dec dt12_X11_contentIn_ok (k := 1) rfl
theorem dX11_contentIn_2 : decode cX11_contentIn 2 = .ok (.iload_n 2, 1) := g_dec dt12_X11_contentIn_ok (k := 2) rfl
theorem dX11_contentIn_3 : decode cX11_contentIn 3 = .ok (.imul, 1) := g_dec dt12_X11_contentIn_ok (k := 3) rfl
theorem dX11_contentIn_4 : decode cX11_contentIn 4 = .ok (.lushr, 1) := g_dec dt12_X11_contentIn_ok (k := 4) rfl
theorem dX11_contentIn_5 : decode cX11_contentIn 5 = .ok (.ldc2_w 383, 3) := g_dec dt12_X11_contentIn_ok (k := 5) rfl
theorem dX11_contentIn_8 : decode cX11_contentIn 8 = .ok (.land, 1) := g_dec dt12_X11_contentIn_ok (k := 6) rfl
theorem dX11_contentIn_9 : decode cX11_contentIn 9 = .ok (.l2i, 1) := g_dec dt12_X11_contentIn_ok (k := 7) rfl
theorem dX11_contentIn_10 : decode cX11_contentIn 10 = .ok (.ireturn, 1) := g_dec dt12_X11_contentIn_ok (k := 8) rfl
def dt13_X11_maskOf : List (Nat × Instr × Nat) := [(28, (.iinc 3 1, 3)), (31, (.goto (-27), 3)), (4, (.iload_n 3, 1)), (5, (.bipush 12, 2)), (7, (.if_icmp .ge 27, 3)), (34, (.lload_n 1, 1)), (35, (.lreturn, 1)), (10, (.iload_n 0, 1)), (11, (.iload_n 3, 1)), (12, (.invokestatic 175, 3)), (15, (.ifCond .eq 13, 3)), (18, (.lload_n 1, 1)), (19, (.ldc2_w 383, 3)), (22, (.iconst 4, 1)), (23, (.iload_n 3, 1)), (24, (.imul, 1)), (25, (.lshl, 1)), (26, (.lor, 1)), (27, (.lstore_n 1, 1)), (0, (.lconst 0, 1)), (1, (.lstore_n 1, 1)), (2, (.iconst 0, 1)), (3, (.istore_n 3, 1))]
theorem dt13_X11_maskOf_ok : ∀ q ∈ dt13_X11_maskOf, decode cX11_maskOf q.1 = .ok q.2 := by decide +kernel
theorem dX11_maskOf_28 : decode cX11_maskOf 28 = .ok (.iinc 3 1, 3) := g_dec dt13_X11_maskOf_ok (k := 0) rfl
theorem dX11_maskOf_31 : decode cX11_maskOf 31 = .ok (.goto (-27), 3) := g_dec dt13_X11_maskOf_ok (k := 1) rfl
theorem dX11_maskOf_4 : decode cX11_maskOf 4 = .ok (.iload_n 3, 1) := g_dec dt13_X11_maskOf_ok (k := 2) rfl
theorem dX11_maskOf_5 : decode cX11_maskOf 5 = .ok (.bipush 12, 2) := g_dec dt13_X11_maskOf_ok (k := 3) rfl
theorem dX11_maskOf_7 : decode cX11_maskOf 7 = .ok (.if_icmp .ge 27, 3) := g_dec dt13_X11_maskOf_ok (k := 4) rfl
theorem dX11_maskOf_34 : decode cX11_maskOf 34 = .ok (.lload_n 1, 1) := g_dec dt13_X11_maskOf_ok (k := 5) rfl
theorem dX11_maskOf_35 : decode cX11_maskOf 35 = .ok (.lreturn, 1) := g_dec dt13_X11_maskOf_ok (k := 6) rfl
theorem dX11_maskOf_10 : decode cX11_maskOf 10 = .ok (.iload_n 0, 1) := g_dec dt13_X11_maskOf_ok (k := 7) rfl
theorem dX11_maskOf_11 : decode cX11_maskOf 11 = .ok (.iload_n 3, 1) := g_dec dt13_X11_maskOf_ok (k := 8) rfl
theorem dX11_maskOf_12 : decode cX11_maskOf 12 = .ok (.invokestatic 175, 3) := g_dec dt13_X11_maskOf_ok (k := 9) rfl
theorem dX11_maskOf_15 : decode cX11_maskOf 15 = .ok (.ifCond .eq 13, 3) := g_dec dt13_X11_maskOf_ok (k := 10) rfl
theorem dX11_maskOf_18 : decode cX11_maskOf 18 = .ok (.lload_n 1, 1) := g_dec dt13_X11_maskOf_ok (k := 11) rfl
theorem dX11_maskOf_19 : decode cX11_maskOf 19 = .ok (.ldc2_w 383, 3) := g_dec dt13_X11_maskOf_ok (k := 12) rfl
theorem dX11_maskOf_22 : decode cX11_maskOf 22 = .ok (.iconst 4, 1) := g_dec dt13_X11_maskOf_ok (k := 13) rfl
theorem dX11_maskOf_23 : decode cX11_maskOf 23 = .ok (.iload_n 3, 1) := g_dec dt13_X11_maskOf_ok (k := 14) rfl
theorem dX11_maskOf_24 : decode cX11_maskOf 24 = .ok (.imul, 1) := g_dec dt13_X11_maskOf_ok (k := 15) rfl
theorem dX11_maskOf_25 : decode cX11_maskOf 25 = .ok (.lshl, 1) := g_dec dt13_X11_maskOf_ok (k := 16) rfl
theorem dX11_maskOf_26 : decode cX11_maskOf 26 = .ok (.lor, 1) := g_dec dt13_X11_maskOf_ok (k := 17) rfl
theorem dX11_maskOf_27 : decode cX11_maskOf 27 = .ok (.lstore_n 1, 1) := g_dec dt13_X11_maskOf_ok (k := 18) rfl
theorem dX11_maskOf_0 : decode cX11_maskOf 0 = .ok (.lconst 0, 1) := g_dec dt13_X11_maskOf_ok (k := 19) rfl
theorem dX11_maskOf_1 : decode cX11_maskOf 1 = .ok (.lstore_n 1, 1) := g_dec dt13_X11_maskOf_ok (k := 20) rfl
theorem dX11_maskOf_2 : decode cX11_maskOf 2 = .ok (.iconst 0, 1) := g_dec dt13_X11_maskOf_ok (k := 21) rfl
theorem dX11_maskOf_3 : decode cX11_maskOf 3 = .ok (.istore_n 3, 1) := g_dec dt13_X11_maskOf_ok (k := 22) rfl
def dt14_X1_isToCome : List (Nat × Instr × Nat) := [(20, (.ireturn, 1)), (15, (.iconst 1, 1)), (16, (.goto 4, 3)), (0, (.aload_n 0, 1)), (1, (.getfield 15, 3)), (4, (.ifCond .eq 11, 3)), (7, (.aload_n 0, 1)), (8, (.getfield 15, 3)), (11, (.iconst 1, 1)), (12, (.if_icmp .ne 7, 3)), (19, (.iconst 0, 1))]
theorem dt14_X1_isToCome_ok : ∀ q ∈ dt14_X1_isToCome, decode cX1_isToCome q.1 = .ok q.2 := by decide +kernel
theorem dX1_isToCome_20 : decode cX1_isToCome 20 = .ok (.ireturn, 1) := g_dec dt14_X1_isToCome_ok (k := 0) rfl
theorem dX1_isToCome_15 : decode cX1_isToCome 15 = .ok (.iconst 1, 1) := g_dec dt14_X1_isToCome_ok (k := 1) rfl
theorem dX1_isToCome_16 : decode cX1_isToCome 16 = .ok (.goto 4, 3) := g_dec dt14_X1_isToCome_ok (k := 2) rfl
theorem dX1_isToCome_0 : decode cX1_isToCome 0 = .ok (.aload_n 0, 1) := g_dec dt14_X1_isToCome_ok (k := 3) rfl
theorem dX1_isToCome_1 : decode cX1_isToCome 1 = .ok (.getfield 15, 3) := g_dec dt14_X1_isToCome_ok (k := 4) rfl
theorem dX1_isToCome_4 : decode cX1_isToCome 4 = .ok (.ifCond .eq 11, 3) := g_dec dt14_X1_isToCome_ok (k := 5) rfl
theorem dX1_isToCome_7 : decode cX1_isToCome 7 = .ok (.aload_n 0, 1) := g_dec dt14_X1_isToCome_ok (k := 6) rfl
theorem dX1_isToCome_8 : decode cX1_isToCome 8 = .ok (.getfield 15, 3) := g_dec dt14_X1_isToCome_ok (k := 7) rfl
theorem dX1_isToCome_11 : decode cX1_isToCome 11 = .ok (.iconst 1, 1) := g_dec dt14_X1_isToCome_ok (k := 8) rfl
theorem dX1_isToCome_12 : decode cX1_isToCome 12 = .ok (.if_icmp .ne 7, 3) := g_dec dt14_X1_isToCome_ok (k := 9) rfl
theorem dX1_isToCome_19 : decode cX1_isToCome 19 = .ok (.iconst 0, 1) := g_dec dt14_X1_isToCome_ok (k := 10) rfl
def dt15_X1_team : List (Nat × Instr × Nat) := [(0, (.aload_n 0, 1)), (1, (.getfield 24, 3)), (4, (.iconst 3, 1)), (5, (.irem, 1)), (6, (.ireturn, 1))]
theorem dt15_X1_team_ok : ∀ q ∈ dt15_X1_team, decode cX1_team q.1 = .ok q.2 := by decide +kernel
theorem dX1_team_0 : decode cX1_team 0 = .ok (.aload_n 0, 1) := g_dec dt15_X1_team_ok (k := 0) rfl
theorem dX1_team_1 : decode cX1_team 1 = .ok (.getfield 24, 3) := g_dec dt15_X1_team_ok (k := 1) rfl
theorem dX1_team_4 : decode cX1_team 4 = .ok (.iconst 3, 1) := g_dec dt15_X1_team_ok (k := 2) rfl
theorem dX1_team_5 : decode cX1_team 5 = .ok (.irem, 1) := g_dec dt15_X1_team_ok (k := 3) rfl
theorem dX1_team_6 : decode cX1_team 6 = .ok (.ireturn, 1) := g_dec dt15_X1_team_ok (k := 4) rfl
def dt16_X1_isApprovedBy : List (Nat × Instr × Nat) := [(24, (.ireturn, 1)), (19, (.iconst 1, 1)), (20, (.goto 4, 3)), (0, (.aload_n 0, 1)), (1, (.invokevirtual 27, 3)), (4, (.iload_n 1, 1)), (5, (.if_icmp .eq 14, 3)), (8, (.aload_n 0, 1)), (9, (.getfield 31, 3)), (12, (.iload_n 1, 1)), (13, (.invokestatic 34, 3)), (16, (.ifCond .eq 7, 3)), (23, (.iconst 0, 1))]
theorem dt16_X1_isApprovedBy_ok : ∀ q ∈ dt16_X1_isApprovedBy, decode cX1_isApprovedBy q.1 = .ok q.2 := by decide +kernel
theorem dX1_isApprovedBy_24 : decode cX1_isApprovedBy 24 = .ok (.ireturn, 1) := g_dec dt16_X1_isApprovedBy_ok (k := 0) rfl
theorem dX1_isApprovedBy_19 : decode cX1_isApprovedBy 19 = .ok (.iconst 1, 1) := g_dec dt16_X1_isApprovedBy_ok (k := 1) rfl
theorem dX1_isApprovedBy_20 : decode cX1_isApprovedBy 20 = .ok (.goto 4, 3) := g_dec dt16_X1_isApprovedBy_ok (k := 2) rfl
theorem dX1_isApprovedBy_0 : decode cX1_isApprovedBy 0 = .ok (.aload_n 0, 1) := g_dec dt16_X1_isApprovedBy_ok (k := 3) rfl
theorem dX1_isApprovedBy_1 : decode cX1_isApprovedBy 1 = .ok (.invokevirtual 27, 3) := g_dec dt16_X1_isApprovedBy_ok (k := 4) rfl
theorem dX1_isApprovedBy_4 : decode cX1_isApprovedBy 4 = .ok (.iload_n 1, 1) := g_dec dt16_X1_isApprovedBy_ok (k := 5) rfl
theorem dX1_isApprovedBy_5 : decode cX1_isApprovedBy 5 = .ok (.if_icmp .eq 14, 3) := g_dec dt16_X1_isApprovedBy_ok (k := 6) rfl
theorem dX1_isApprovedBy_8 : decode cX1_isApprovedBy 8 = .ok (.aload_n 0, 1) := g_dec dt16_X1_isApprovedBy_ok (k := 7) rfl
theorem dX1_isApprovedBy_9 : decode cX1_isApprovedBy 9 = .ok (.getfield 31, 3) := g_dec dt16_X1_isApprovedBy_ok (k := 8) rfl
theorem dX1_isApprovedBy_12 : decode cX1_isApprovedBy 12 = .ok (.iload_n 1, 1) := g_dec dt16_X1_isApprovedBy_ok (k := 9) rfl
theorem dX1_isApprovedBy_13 : decode cX1_isApprovedBy 13 = .ok (.invokestatic 34, 3) := g_dec dt16_X1_isApprovedBy_ok (k := 10) rfl
theorem dX1_isApprovedBy_16 : decode cX1_isApprovedBy 16 = .ok (.ifCond .eq 7, 3) := g_dec dt16_X1_isApprovedBy_ok (k := 11) rfl
theorem dX1_isApprovedBy_23 : decode cX1_isApprovedBy 23 = .ok (.iconst 0, 1) := g_dec dt16_X1_isApprovedBy_ok (k := 12) rfl
def dt17_X1_fits : List (Nat × Instr × Nat) := [(21, (.ireturn, 1)), (0, (.lload_n 1, 1)), (1, (.aload_n 0, 1)), (2, (.getfield 38, 3)), (5, (.lxor, 1)), (6, (.aload_n 0, 1)), (7, (.getfield 42, 3)), (10, (.land, 1)), (11, (.lconst 0, 1)), (12, (.lcmp, 1)), (13, (.ifCond .ne 7, 3)), (20, (.iconst 0, 1)), (16, (.iconst 1, 1)), (17, (.goto 4, 3))]
theorem dt17_X1_fits_ok : ∀ q ∈ dt17_X1_fits, decode cX1_fits q.1 = .ok q.2 := by decide +kernel
theorem dX1_fits_21 : decode cX1_fits 21 = .ok (.ireturn, 1) := g_dec dt17_X1_fits_ok (k := 0) rfl
theorem dX1_fits_0 : decode cX1_fits 0 = .ok (.lload_n 1, 1) := g_dec dt17_X1_fits_ok (k := 1) rfl
theorem dX1_fits_1 : decode cX1_fits 1 = .ok (.aload_n 0, 1) := g_dec dt17_X1_fits_ok (k := 2) rfl
theorem dX1_fits_2 : decode cX1_fits 2 = .ok (.getfield 38, 3) := g_dec dt17_X1_fits_ok (k := 3) rfl
theorem dX1_fits_5 : decode cX1_fits 5 = .ok (.lxor, 1) := g_dec dt17_X1_fits_ok (k := 4) rfl
theorem dX1_fits_6 : decode cX1_fits 6 = .ok (.aload_n 0, 1) := g_dec dt17_X1_fits_ok (k := 5) rfl
theorem dX1_fits_7 : decode cX1_fits 7 = .ok (.getfield 42, 3) := g_dec dt17_X1_fits_ok (k := 6) rfl
theorem dX1_fits_10 : decode cX1_fits 10 = .ok (.land, 1) := g_dec dt17_X1_fits_ok (k := 7) rfl
theorem dX1_fits_11 : decode cX1_fits 11 = .ok (.lconst 0, 1) := g_dec dt17_X1_fits_ok (k := 8) rfl
theorem dX1_fits_12 : decode cX1_fits 12 = .ok (.lcmp, 1) := g_dec dt17_X1_fits_ok (k := 9) rfl
theorem dX1_fits_13 : decode cX1_fits 13 = .ok (.ifCond .ne 7, 3) := g_dec dt17_X1_fits_ok (k := 10) rfl
theorem dX1_fits_20 : decode cX1_fits 20 = .ok (.iconst 0, 1) := g_dec dt17_X1_fits_ok (k := 11) rfl
theorem dX1_fits_16 : decode cX1_fits 16 = .ok (.iconst 1, 1) := g_dec dt17_X1_fits_ok (k := 12) rfl
theorem dX1_fits_17 : decode cX1_fits 17 = .ok (.goto 4, 3) := g_dec dt17_X1_fits_ok (k := 13) rfl
def dt18_X1_onto : List (Nat × Instr × Nat) := [(0, (.lload_n 1, 1)), (1, (.aload_n 0, 1)), (2, (.getfield 42, 3)), (5, (.ldc2_w 45, 3)), (8, (.lxor, 1)), (9, (.land, 1)), (10, (.aload_n 0, 1)), (11, (.getfield 47, 3)), (14, (.lor, 1)), (15, (.lreturn, 1))]
theorem dt18_X1_onto_ok : ∀ q ∈ dt18_X1_onto, decode cX1_onto q.1 = .ok q.2 := by decide +kernel
theorem dX1_onto_0 : decode cX1_onto 0 = .ok (.lload_n 1, 1) := g_dec dt18_X1_onto_ok (k := 0) rfl
theorem dX1_onto_1 : decode cX1_onto 1 = .ok (.aload_n 0, 1) := g_dec dt18_X1_onto_ok (k := 1) rfl
theorem dX1_onto_2 : decode cX1_onto 2 = .ok (.getfield 42, 3) := g_dec dt18_X1_onto_ok (k := 2) rfl
theorem dX1_onto_5 : decode cX1_onto 5 = .ok (.ldc2_w 45, 3) := g_dec dt18_X1_onto_ok (k := 3) rfl
theorem dX1_onto_8 : decode cX1_onto 8 = .ok (.lxor, 1) := g_dec dt18_X1_onto_ok (k := 4) rfl
theorem dX1_onto_9 : decode cX1_onto 9 = .ok (.land, 1) := g_dec dt18_X1_onto_ok (k := 5) rfl
theorem dX1_onto_10 : decode cX1_onto 10 = .ok (.aload_n 0, 1) := g_dec dt18_X1_onto_ok (k := 6) rfl
theorem dX1_onto_11 : decode cX1_onto 11 = .ok (.getfield 47, 3) := g_dec dt18_X1_onto_ok (k := 7) rfl
theorem dX1_onto_14 : decode cX1_onto 14 = .ok (.lor, 1) := g_dec dt18_X1_onto_ok (k := 8) rfl
theorem dX1_onto_15 : decode cX1_onto 15 = .ok (.lreturn, 1) := g_dec dt18_X1_onto_ok (k := 9) rfl
def dt19_X1_standsOn : List (Nat × Instr × Nat) := [(26, (.ireturn, 1)), (21, (.iconst 1, 1)), (22, (.goto 4, 3)), (0, (.aload_n 0, 1)), (1, (.getfield 9, 3)), (4, (.iconst (-1), 1)), (5, (.if_icmp .eq 16, 3)), (8, (.lload_n 1, 1)), (9, (.aload_n 0, 1)), (10, (.getfield 9, 3)), (13, (.lushr, 1)), (14, (.lconst 1, 1)), (15, (.land, 1)), (16, (.lconst 0, 1)), (17, (.lcmp, 1)), (18, (.ifCond .eq 7, 3)), (25, (.iconst 0, 1))]
theorem dt19_X1_standsOn_ok : ∀ q ∈ dt19_X1_standsOn, decode cX1_standsOn q.1 = .ok q.2 := by decide +kernel
theorem dX1_standsOn_26 : decode cX1_standsOn 26 = .ok (.ireturn, 1) := g_dec dt19_X1_standsOn_ok (k := 0) rfl
theorem dX1_standsOn_21 : decode cX1_standsOn 21 = .ok (.iconst 1, 1) := g_dec dt19_X1_standsOn_ok (k := 1) rfl
theorem dX1_standsOn_22 : decode cX1_standsOn 22 = .ok (.goto 4, 3) := g_dec dt19_X1_standsOn_ok (k := 2) rfl
theorem dX1_standsOn_0 : decode cX1_standsOn 0 = .ok (.aload_n 0, 1) := g_dec dt19_X1_standsOn_ok (k := 3) rfl
theorem dX1_standsOn_1 : decode cX1_standsOn 1 = .ok (.getfield 9, 3) := g_dec dt19_X1_standsOn_ok (k := 4) rfl
theorem dX1_standsOn_4 : decode cX1_standsOn 4 = .ok (.iconst (-1), 1) := g_dec dt19_X1_standsOn_ok (k := 5) rfl
theorem dX1_standsOn_5 : decode cX1_standsOn 5 = .ok (.if_icmp .eq 16, 3) := g_dec dt19_X1_standsOn_ok (k := 6) rfl
theorem dX1_standsOn_8 : decode cX1_standsOn 8 = .ok (.lload_n 1, 1) := g_dec dt19_X1_standsOn_ok (k := 7) rfl
theorem dX1_standsOn_9 : decode cX1_standsOn 9 = .ok (.aload_n 0, 1) := g_dec dt19_X1_standsOn_ok (k := 8) rfl
theorem dX1_standsOn_10 : decode cX1_standsOn 10 = .ok (.getfield 9, 3) := g_dec dt19_X1_standsOn_ok (k := 9) rfl
theorem dX1_standsOn_13 : decode cX1_standsOn 13 = .ok (.lushr, 1) := g_dec dt19_X1_standsOn_ok (k := 10) rfl
theorem dX1_standsOn_14 : decode cX1_standsOn 14 = .ok (.lconst 1, 1) := g_dec dt19_X1_standsOn_ok (k := 11) rfl
theorem dX1_standsOn_15 : decode cX1_standsOn 15 = .ok (.land, 1) := g_dec dt19_X1_standsOn_ok (k := 12) rfl
theorem dX1_standsOn_16 : decode cX1_standsOn 16 = .ok (.lconst 0, 1) := g_dec dt19_X1_standsOn_ok (k := 13) rfl
theorem dX1_standsOn_17 : decode cX1_standsOn 17 = .ok (.lcmp, 1) := g_dec dt19_X1_standsOn_ok (k := 14) rfl
theorem dX1_standsOn_18 : decode cX1_standsOn 18 = .ok (.ifCond .eq 7, 3) := g_dec dt19_X1_standsOn_ok (k := 15) rfl
theorem dX1_standsOn_25 : decode cX1_standsOn 25 = .ok (.iconst 0, 1) := g_dec dt19_X1_standsOn_ok (k := 16) rfl
def dt20_X1_setEdit : List (Nat × Instr × Nat) := [(0, (.ldc2_w 50, 3)), (3, (.iconst 4, 1)), (4, (.iload_n 1, 1)), (5, (.imul, 1)), (6, (.lshl, 1)), (7, (.lstore_n 3, 1)), (8, (.aload_n 0, 1)), (9, (.dup, 1)), (10, (.getfield 52, 3)), (13, (.iconst 1, 1)), (14, (.iload_n 1, 1)), (15, (.ishl, 1)), (16, (.ior, 1)), (17, (.putfield 52, 3)), (20, (.aload_n 0, 1)), (21, (.dup, 1)), (22, (.getfield 42, 3)), (25, (.lload_n 3, 1)), (26, (.lor, 1)), (27, (.putfield 42, 3)), (30, (.aload_n 0, 1)), (31, (.aload_n 0, 1)), (32, (.getfield 47, 3)), (35, (.lload_n 3, 1)), (36, (.ldc2_w 45, 3)), (39, (.lxor, 1)), (40, (.land, 1)), (41, (.iload_n 2, 1)), (42, (.i2l, 1)), (43, (.iconst 4, 1)), (44, (.iload_n 1, 1)), (45, (.imul, 1)), (46, (.lshl, 1)), (47, (.lor, 1)), (48, (.putfield 47, 3)), (51, (.return_, 1))]
theorem dt20_X1_setEdit_ok : ∀ q ∈ dt20_X1_setEdit, decode cX1_setEdit q.1 = .ok q.2 := by decide +kernel
theorem dX1_setEdit_0 : decode cX1_setEdit 0 = .ok (.ldc2_w 50, 3) := g_dec dt20_X1_setEdit_ok (k := 0) rfl
theorem dX1_setEdit_3 : decode cX1_setEdit 3 = .ok (.iconst 4, 1) := g_dec dt20_X1_setEdit_ok (k := 1) rfl
theorem dX1_setEdit_4 : decode cX1_setEdit 4 = .ok (.iload_n 1, 1) := g_dec dt20_X1_setEdit_ok (k := 2) rfl
theorem dX1_setEdit_5 : decode cX1_setEdit 5 = .ok (.imul, 1) := g_dec dt20_X1_setEdit_ok (k := 3) rfl
theorem dX1_setEdit_6 : decode cX1_setEdit 6 = .ok (.lshl, 1) := g_dec dt20_X1_setEdit_ok (k := 4) rfl
theorem dX1_setEdit_7 : decode cX1_setEdit 7 = .ok (.lstore_n 3, 1) := g_dec dt20_X1_setEdit_ok (k := 5) rfl
theorem dX1_setEdit_8 : decode cX1_setEdit 8 = .ok (.aload_n 0, 1) := g_dec dt20_X1_setEdit_ok (k := 6) rfl
theorem dX1_setEdit_9 : decode cX1_setEdit 9 = .ok (.dup, 1) := g_dec dt20_X1_setEdit_ok (k := 7) rfl
theorem dX1_setEdit_10 : decode cX1_setEdit 10 = .ok (.getfield 52, 3) := g_dec dt20_X1_setEdit_ok (k := 8) rfl
theorem dX1_setEdit_13 : decode cX1_setEdit 13 = .ok (.iconst 1, 1) := g_dec dt20_X1_setEdit_ok (k := 9) rfl
theorem dX1_setEdit_14 : decode cX1_setEdit 14 = .ok (.iload_n 1, 1) := g_dec dt20_X1_setEdit_ok (k := 10) rfl
theorem dX1_setEdit_15 : decode cX1_setEdit 15 = .ok (.ishl, 1) := g_dec dt20_X1_setEdit_ok (k := 11) rfl
theorem dX1_setEdit_16 : decode cX1_setEdit 16 = .ok (.ior, 1) := g_dec dt20_X1_setEdit_ok (k := 12) rfl
theorem dX1_setEdit_17 : decode cX1_setEdit 17 = .ok (.putfield 52, 3) := g_dec dt20_X1_setEdit_ok (k := 13) rfl
theorem dX1_setEdit_20 : decode cX1_setEdit 20 = .ok (.aload_n 0, 1) := g_dec dt20_X1_setEdit_ok (k := 14) rfl
theorem dX1_setEdit_21 : decode cX1_setEdit 21 = .ok (.dup, 1) := g_dec dt20_X1_setEdit_ok (k := 15) rfl
theorem dX1_setEdit_22 : decode cX1_setEdit 22 = .ok (.getfield 42, 3) := g_dec dt20_X1_setEdit_ok (k := 16) rfl
theorem dX1_setEdit_25 : decode cX1_setEdit 25 = .ok (.lload_n 3, 1) := g_dec dt20_X1_setEdit_ok (k := 17) rfl
theorem dX1_setEdit_26 : decode cX1_setEdit 26 = .ok (.lor, 1) := g_dec dt20_X1_setEdit_ok (k := 18) rfl
theorem dX1_setEdit_27 : decode cX1_setEdit 27 = .ok (.putfield 42, 3) := g_dec dt20_X1_setEdit_ok (k := 19) rfl
theorem dX1_setEdit_30 : decode cX1_setEdit 30 = .ok (.aload_n 0, 1) := g_dec dt20_X1_setEdit_ok (k := 20) rfl
theorem dX1_setEdit_31 : decode cX1_setEdit 31 = .ok (.aload_n 0, 1) := g_dec dt20_X1_setEdit_ok (k := 21) rfl
theorem dX1_setEdit_32 : decode cX1_setEdit 32 = .ok (.getfield 47, 3) := g_dec dt20_X1_setEdit_ok (k := 22) rfl
theorem dX1_setEdit_35 : decode cX1_setEdit 35 = .ok (.lload_n 3, 1) := g_dec dt20_X1_setEdit_ok (k := 23) rfl
theorem dX1_setEdit_36 : decode cX1_setEdit 36 = .ok (.ldc2_w 45, 3) := g_dec dt20_X1_setEdit_ok (k := 24) rfl
theorem dX1_setEdit_39 : decode cX1_setEdit 39 = .ok (.lxor, 1) := g_dec dt20_X1_setEdit_ok (k := 25) rfl
theorem dX1_setEdit_40 : decode cX1_setEdit 40 = .ok (.land, 1) := g_dec dt20_X1_setEdit_ok (k := 26) rfl
theorem dX1_setEdit_41 : decode cX1_setEdit 41 = .ok (.iload_n 2, 1) := g_dec dt20_X1_setEdit_ok (k := 27) rfl
theorem dX1_setEdit_42 : decode cX1_setEdit 42 = .ok (.i2l, 1) := g_dec dt20_X1_setEdit_ok (k := 28) rfl
theorem dX1_setEdit_43 : decode cX1_setEdit 43 = .ok (.iconst 4, 1) := g_dec dt20_X1_setEdit_ok (k := 29) rfl
theorem dX1_setEdit_44 : decode cX1_setEdit 44 = .ok (.iload_n 1, 1) := g_dec dt20_X1_setEdit_ok (k := 30) rfl
theorem dX1_setEdit_45 : decode cX1_setEdit 45 = .ok (.imul, 1) := g_dec dt20_X1_setEdit_ok (k := 31) rfl
theorem dX1_setEdit_46 : decode cX1_setEdit 46 = .ok (.lshl, 1) := g_dec dt20_X1_setEdit_ok (k := 32) rfl
theorem dX1_setEdit_47 : decode cX1_setEdit 47 = .ok (.lor, 1) := g_dec dt20_X1_setEdit_ok (k := 33) rfl
theorem dX1_setEdit_48 : decode cX1_setEdit 48 = .ok (.putfield 47, 3) := g_dec dt20_X1_setEdit_ok (k := 34) rfl
theorem dX1_setEdit_51 : decode cX1_setEdit 51 = .ok (.return_, 1) := g_dec dt20_X1_setEdit_ok (k := 35) rfl
def dt21_X1_hasIdleEditOn : List (Nat × Instr × Nat) := [(37, (.iinc 3 1, 3)), (40, (.goto (-38), 3)), (2, (.iload_n 3, 1)), (3, (.bipush 12, 2)), (5, (.if_icmp .ge 38, 3)), (43, (.iconst 0, 1)), (44, (.ireturn, 1)), (8, (.aload_n 0, 1)), (9, (.getfield 52, 3)), (12, (.iload_n 3, 1)), (13, (.invokestatic 34, 3)), (16, (.ifCond .eq 21, 3)), (19, (.lload_n 1, 1)), (20, (.iload_n 3, 1)), (21, (.invokestatic 55, 3)), (24, (.aload_n 0, 1)), (25, (.getfield 47, 3)), (28, (.iload_n 3, 1)), (29, (.invokestatic 55, 3)), (32, (.if_icmp .ne 5, 3)), (35, (.iconst 1, 1)), (36, (.ireturn, 1)), (0, (.iconst 0, 1)), (1, (.istore_n 3, 1))]
theorem dt21_X1_hasIdleEditOn_ok : ∀ q ∈ dt21_X1_hasIdleEditOn, decode cX1_hasIdleEditOn q.1 = .ok q.2 := by decide +kernel
theorem dX1_hasIdleEditOn_37 : decode cX1_hasIdleEditOn 37 = .ok (.iinc 3 1, 3) := g_dec dt21_X1_hasIdleEditOn_ok (k := 0) rfl
theorem dX1_hasIdleEditOn_40 : decode cX1_hasIdleEditOn 40 = .ok (.goto (-38), 3) := g_dec dt21_X1_hasIdleEditOn_ok (k := 1) rfl
theorem dX1_hasIdleEditOn_2 : decode cX1_hasIdleEditOn 2 = .ok (.iload_n 3, 1) := g_dec dt21_X1_hasIdleEditOn_ok (k := 2) rfl
theorem dX1_hasIdleEditOn_3 : decode cX1_hasIdleEditOn 3 = .ok (.bipush 12, 2) := g_dec dt21_X1_hasIdleEditOn_ok (k := 3) rfl
theorem dX1_hasIdleEditOn_5 : decode cX1_hasIdleEditOn 5 = .ok (.if_icmp .ge 38, 3) := g_dec dt21_X1_hasIdleEditOn_ok (k := 4) rfl
theorem dX1_hasIdleEditOn_43 : decode cX1_hasIdleEditOn 43 = .ok (.iconst 0, 1) := g_dec dt21_X1_hasIdleEditOn_ok (k := 5) rfl
theorem dX1_hasIdleEditOn_44 : decode cX1_hasIdleEditOn 44 = .ok (.ireturn, 1) := g_dec dt21_X1_hasIdleEditOn_ok (k := 6) rfl
theorem dX1_hasIdleEditOn_8 : decode cX1_hasIdleEditOn 8 = .ok (.aload_n 0, 1) := g_dec dt21_X1_hasIdleEditOn_ok (k := 7) rfl
theorem dX1_hasIdleEditOn_9 : decode cX1_hasIdleEditOn 9 = .ok (.getfield 52, 3) := g_dec dt21_X1_hasIdleEditOn_ok (k := 8) rfl
theorem dX1_hasIdleEditOn_12 : decode cX1_hasIdleEditOn 12 = .ok (.iload_n 3, 1) := g_dec dt21_X1_hasIdleEditOn_ok (k := 9) rfl
theorem dX1_hasIdleEditOn_13 : decode cX1_hasIdleEditOn 13 = .ok (.invokestatic 34, 3) := g_dec dt21_X1_hasIdleEditOn_ok (k := 10) rfl
theorem dX1_hasIdleEditOn_16 : decode cX1_hasIdleEditOn 16 = .ok (.ifCond .eq 21, 3) := g_dec dt21_X1_hasIdleEditOn_ok (k := 11) rfl
theorem dX1_hasIdleEditOn_19 : decode cX1_hasIdleEditOn 19 = .ok (.lload_n 1, 1) := g_dec dt21_X1_hasIdleEditOn_ok (k := 12) rfl
theorem dX1_hasIdleEditOn_20 : decode cX1_hasIdleEditOn 20 = .ok (.iload_n 3, 1) := g_dec dt21_X1_hasIdleEditOn_ok (k := 13) rfl
theorem dX1_hasIdleEditOn_21 : decode cX1_hasIdleEditOn 21 = .ok (.invokestatic 55, 3) := g_dec dt21_X1_hasIdleEditOn_ok (k := 14) rfl
theorem dX1_hasIdleEditOn_24 : decode cX1_hasIdleEditOn 24 = .ok (.aload_n 0, 1) := g_dec dt21_X1_hasIdleEditOn_ok (k := 15) rfl
theorem dX1_hasIdleEditOn_25 : decode cX1_hasIdleEditOn 25 = .ok (.getfield 47, 3) := g_dec dt21_X1_hasIdleEditOn_ok (k := 16) rfl
theorem dX1_hasIdleEditOn_28 : decode cX1_hasIdleEditOn 28 = .ok (.iload_n 3, 1) := g_dec dt21_X1_hasIdleEditOn_ok (k := 17) rfl
theorem dX1_hasIdleEditOn_29 : decode cX1_hasIdleEditOn 29 = .ok (.invokestatic 55, 3) := g_dec dt21_X1_hasIdleEditOn_ok (k := 18) rfl
theorem dX1_hasIdleEditOn_32 : decode cX1_hasIdleEditOn 32 = .ok (.if_icmp .ne 5, 3) := g_dec dt21_X1_hasIdleEditOn_ok (k := 19) rfl
theorem dX1_hasIdleEditOn_35 : decode cX1_hasIdleEditOn 35 = .ok (.iconst 1, 1) := g_dec dt21_X1_hasIdleEditOn_ok (k := 20) rfl
theorem dX1_hasIdleEditOn_36 : decode cX1_hasIdleEditOn 36 = .ok (.ireturn, 1) := g_dec dt21_X1_hasIdleEditOn_ok (k := 21) rfl
theorem dX1_hasIdleEditOn_0 : decode cX1_hasIdleEditOn 0 = .ok (.iconst 0, 1) := g_dec dt21_X1_hasIdleEditOn_ok (k := 22) rfl
theorem dX1_hasIdleEditOn_1 : decode cX1_hasIdleEditOn 1 = .ok (.istore_n 3, 1) := g_dec dt21_X1_hasIdleEditOn_ok (k := 23) rfl
def dt22_X1_isAheadOf : List (Nat × Instr × Nat) := [(62, (.ireturn, 1)), (0, (.aload_n 0, 1)), (1, (.getfield 59, 3)), (4, (.aload_n 1, 1)), (5, (.getfield 59, 3)), (8, (.if_icmp .eq 8, 3)), (16, (.aload_n 0, 1)), (17, (.getfield 63, 3)), (20, (.aload_n 1, 1)), (21, (.getfield 63, 3)), (24, (.if_icmp .eq 22, 3)), (46, (.aload_n 0, 1)), (47, (.getfield 66, 3)), (50, (.aload_n 1, 1)), (51, (.getfield 66, 3)), (54, (.if_icmp .ge 7, 3)), (61, (.iconst 0, 1)), (57, (.iconst 1, 1)), (58, (.goto 4, 3)), (27, (.aload_n 0, 1)), (28, (.getfield 63, 3)), (31, (.aload_n 1, 1)), (32, (.getfield 63, 3)), (35, (.if_icmp .le 7, 3)), (42, (.iconst 0, 1)), (43, (.goto 19, 3)), (38, (.iconst 1, 1)), (39, (.goto 23, 3)), (11, (.aload_n 0, 1)), (12, (.getfield 59, 3)), (15, (.ireturn, 1))]
theorem dt22_X1_isAheadOf_ok : ∀ q ∈ dt22_X1_isAheadOf, decode cX1_isAheadOf q.1 = .ok q.2 := by decide +kernel
theorem dX1_isAheadOf_62 : decode cX1_isAheadOf 62 = .ok (.ireturn, 1) := g_dec dt22_X1_isAheadOf_ok (k := 0) rfl
theorem dX1_isAheadOf_0 : decode cX1_isAheadOf 0 = .ok (.aload_n 0, 1) := g_dec dt22_X1_isAheadOf_ok (k := 1) rfl
theorem dX1_isAheadOf_1 : decode cX1_isAheadOf 1 = .ok (.getfield 59, 3) := g_dec dt22_X1_isAheadOf_ok (k := 2) rfl
theorem dX1_isAheadOf_4 : decode cX1_isAheadOf 4 = .ok (.aload_n 1, 1) := g_dec dt22_X1_isAheadOf_ok (k := 3) rfl
theorem dX1_isAheadOf_5 : decode cX1_isAheadOf 5 = .ok (.getfield 59, 3) := g_dec dt22_X1_isAheadOf_ok (k := 4) rfl
theorem dX1_isAheadOf_8 : decode cX1_isAheadOf 8 = .ok (.if_icmp .eq 8, 3) := g_dec dt22_X1_isAheadOf_ok (k := 5) rfl
theorem dX1_isAheadOf_16 : decode cX1_isAheadOf 16 = .ok (.aload_n 0, 1) := g_dec dt22_X1_isAheadOf_ok (k := 6) rfl
theorem dX1_isAheadOf_17 : decode cX1_isAheadOf 17 = .ok (.getfield 63, 3) := g_dec dt22_X1_isAheadOf_ok (k := 7) rfl
theorem dX1_isAheadOf_20 : decode cX1_isAheadOf 20 = .ok (.aload_n 1, 1) := g_dec dt22_X1_isAheadOf_ok (k := 8) rfl
theorem dX1_isAheadOf_21 : decode cX1_isAheadOf 21 = .ok (.getfield 63, 3) := g_dec dt22_X1_isAheadOf_ok (k := 9) rfl
theorem dX1_isAheadOf_24 : decode cX1_isAheadOf 24 = .ok (.if_icmp .eq 22, 3) := g_dec dt22_X1_isAheadOf_ok (k := 10) rfl
theorem dX1_isAheadOf_46 : decode cX1_isAheadOf 46 = .ok (.aload_n 0, 1) := g_dec dt22_X1_isAheadOf_ok (k := 11) rfl
theorem dX1_isAheadOf_47 : decode cX1_isAheadOf 47 = .ok (.getfield 66, 3) := g_dec dt22_X1_isAheadOf_ok (k := 12) rfl
theorem dX1_isAheadOf_50 : decode cX1_isAheadOf 50 = .ok (.aload_n 1, 1) := g_dec dt22_X1_isAheadOf_ok (k := 13) rfl
theorem dX1_isAheadOf_51 : decode cX1_isAheadOf 51 = .ok (.getfield 66, 3) := g_dec dt22_X1_isAheadOf_ok (k := 14) rfl
theorem dX1_isAheadOf_54 : decode cX1_isAheadOf 54 = .ok (.if_icmp .ge 7, 3) := g_dec dt22_X1_isAheadOf_ok (k := 15) rfl
theorem dX1_isAheadOf_61 : decode cX1_isAheadOf 61 = .ok (.iconst 0, 1) := g_dec dt22_X1_isAheadOf_ok (k := 16) rfl
theorem dX1_isAheadOf_57 : decode cX1_isAheadOf 57 = .ok (.iconst 1, 1) := g_dec dt22_X1_isAheadOf_ok (k := 17) rfl
theorem dX1_isAheadOf_58 : decode cX1_isAheadOf 58 = .ok (.goto 4, 3) := g_dec dt22_X1_isAheadOf_ok (k := 18) rfl
theorem dX1_isAheadOf_27 : decode cX1_isAheadOf 27 = .ok (.aload_n 0, 1) := g_dec dt22_X1_isAheadOf_ok (k := 19) rfl
theorem dX1_isAheadOf_28 : decode cX1_isAheadOf 28 = .ok (.getfield 63, 3) := g_dec dt22_X1_isAheadOf_ok (k := 20) rfl
theorem dX1_isAheadOf_31 : decode cX1_isAheadOf 31 = .ok (.aload_n 1, 1) := g_dec dt22_X1_isAheadOf_ok (k := 21) rfl
theorem dX1_isAheadOf_32 : decode cX1_isAheadOf 32 = .ok (.getfield 63, 3) := g_dec dt22_X1_isAheadOf_ok (k := 22) rfl
theorem dX1_isAheadOf_35 : decode cX1_isAheadOf 35 = .ok (.if_icmp .le 7, 3) := g_dec dt22_X1_isAheadOf_ok (k := 23) rfl
theorem dX1_isAheadOf_42 : decode cX1_isAheadOf 42 = .ok (.iconst 0, 1) := g_dec dt22_X1_isAheadOf_ok (k := 24) rfl
theorem dX1_isAheadOf_43 : decode cX1_isAheadOf 43 = .ok (.goto 19, 3) := g_dec dt22_X1_isAheadOf_ok (k := 25) rfl
theorem dX1_isAheadOf_38 : decode cX1_isAheadOf 38 = .ok (.iconst 1, 1) := g_dec dt22_X1_isAheadOf_ok (k := 26) rfl
theorem dX1_isAheadOf_39 : decode cX1_isAheadOf 39 = .ok (.goto 23, 3) := g_dec dt22_X1_isAheadOf_ok (k := 27) rfl
theorem dX1_isAheadOf_11 : decode cX1_isAheadOf 11 = .ok (.aload_n 0, 1) := g_dec dt22_X1_isAheadOf_ok (k := 28) rfl
theorem dX1_isAheadOf_12 : decode cX1_isAheadOf 12 = .ok (.getfield 59, 3) := g_dec dt22_X1_isAheadOf_ok (k := 29) rfl
theorem dX1_isAheadOf_15 : decode cX1_isAheadOf 15 = .ok (.ireturn, 1) := g_dec dt22_X1_isAheadOf_ok (k := 30) rfl
def dt23_X6_take : List (Nat × Instr × Nat) := [(32, (.istore 4, 2)), (34, (.aload_n 0, 1)), (35, (.aload_n 1, 1)), (36, (.getfield 22, 3)), (39, (.putfield 15, 3)), (42, (.aload_n 0, 1)), (43, (.lload_n 2, 1)), (44, (.putfield 30, 3)), (47, (.aload_n 0, 1)), (48, (.aload_n 1, 1)), (49, (.getfield 34, 3)), (52, (.putfield 37, 3)), (55, (.aload_n 0, 1)), (56, (.iload 4, 2)), (58, (.putfield 38, 3)), (61, (.iload 4, 2)), (63, (.ireturn, 1)), (28, (.aload_n 1, 1)), (29, (.getfield 27, 3)), (0, (.aload_n 0, 1)), (1, (.getfield 9, 3)), (4, (.aload_n 1, 1)), (5, (.getfield 22, 3)), (8, (.if_icmp .ne 20, 3)), (11, (.aload_n 1, 1)), (12, (.getfield 27, 3)), (15, (.iconst 1, 1)), (16, (.if_icmp .le 12, 3)), (19, (.aload_n 1, 1)), (20, (.getfield 27, 3)), (23, (.iconst 1, 1)), (24, (.isub, 1)), (25, (.goto 7, 3))]
theorem dt23_X6_take_ok : ∀ q ∈ dt23_X6_take, decode cX6_take q.1 = .ok q.2 := by decide +kernel
theorem dX6_take_32 : decode cX6_take 32 = .ok (.istore 4, 2) := g_dec dt23_X6_take_ok (k := 0) rfl
theorem dX6_take_34 : decode cX6_take 34 = .ok (.aload_n 0, 1) := g_dec dt23_X6_take_ok (k := 1) rfl
theorem dX6_take_35 : decode cX6_take 35 = .ok (.aload_n 1, 1) := g_dec dt23_X6_take_ok (k := 2) rfl
theorem dX6_take_36 : decode cX6_take 36 = .ok (.getfield 22, 3) := g_dec dt23_X6_take_ok (k := 3) rfl
theorem dX6_take_39 : decode cX6_take 39 = .ok (.putfield 15, 3) := g_dec dt23_X6_take_ok (k := 4) rfl
theorem dX6_take_42 : decode cX6_take 42 = .ok (.aload_n 0, 1) := g_dec dt23_X6_take_ok (k := 5) rfl
theorem dX6_take_43 : decode cX6_take 43 = .ok (.lload_n 2, 1) := g_dec dt23_X6_take_ok (k := 6) rfl
theorem dX6_take_44 : decode cX6_take 44 = .ok (.putfield 30, 3) := g_dec dt23_X6_take_ok (k := 7) rfl
theorem dX6_take_47 : decode cX6_take 47 = .ok (.aload_n 0, 1) := g_dec dt23_X6_take_ok (k := 8) rfl
theorem dX6_take_48 : decode cX6_take 48 = .ok (.aload_n 1, 1) := g_dec dt23_X6_take_ok (k := 9) rfl
theorem dX6_take_49 : decode cX6_take 49 = .ok (.getfield 34, 3) := g_dec dt23_X6_take_ok (k := 10) rfl
theorem dX6_take_52 : decode cX6_take 52 = .ok (.putfield 37, 3) := g_dec dt23_X6_take_ok (k := 11) rfl
theorem dX6_take_55 : decode cX6_take 55 = .ok (.aload_n 0, 1) := g_dec dt23_X6_take_ok (k := 12) rfl
theorem dX6_take_56 : decode cX6_take 56 = .ok (.iload 4, 2) := g_dec dt23_X6_take_ok (k := 13) rfl
theorem dX6_take_58 : decode cX6_take 58 = .ok (.putfield 38, 3) := g_dec dt23_X6_take_ok (k := 14) rfl
theorem dX6_take_61 : decode cX6_take 61 = .ok (.iload 4, 2) := g_dec dt23_X6_take_ok (k := 15) rfl
theorem dX6_take_63 : decode cX6_take 63 = .ok (.ireturn, 1) := g_dec dt23_X6_take_ok (k := 16) rfl
theorem dX6_take_28 : decode cX6_take 28 = .ok (.aload_n 1, 1) := g_dec dt23_X6_take_ok (k := 17) rfl
theorem dX6_take_29 : decode cX6_take 29 = .ok (.getfield 27, 3) := g_dec dt23_X6_take_ok (k := 18) rfl
theorem dX6_take_0 : decode cX6_take 0 = .ok (.aload_n 0, 1) := g_dec dt23_X6_take_ok (k := 19) rfl
theorem dX6_take_1 : decode cX6_take 1 = .ok (.getfield 9, 3) := g_dec dt23_X6_take_ok (k := 20) rfl
theorem dX6_take_4 : decode cX6_take 4 = .ok (.aload_n 1, 1) := g_dec dt23_X6_take_ok (k := 21) rfl
theorem dX6_take_5 : decode cX6_take 5 = .ok (.getfield 22, 3) := g_dec dt23_X6_take_ok (k := 22) rfl
theorem dX6_take_8 : decode cX6_take 8 = .ok (.if_icmp .ne 20, 3) := g_dec dt23_X6_take_ok (k := 23) rfl
theorem dX6_take_11 : decode cX6_take 11 = .ok (.aload_n 1, 1) := g_dec dt23_X6_take_ok (k := 24) rfl
theorem dX6_take_12 : decode cX6_take 12 = .ok (.getfield 27, 3) := g_dec dt23_X6_take_ok (k := 25) rfl
theorem dX6_take_15 : decode cX6_take 15 = .ok (.iconst 1, 1) := g_dec dt23_X6_take_ok (k := 26) rfl
theorem dX6_take_16 : decode cX6_take 16 = .ok (.if_icmp .le 12, 3) := g_dec dt23_X6_take_ok (k := 27) rfl
theorem dX6_take_19 : decode cX6_take 19 = .ok (.aload_n 1, 1) := g_dec dt23_X6_take_ok (k := 28) rfl
theorem dX6_take_20 : decode cX6_take 20 = .ok (.getfield 27, 3) := g_dec dt23_X6_take_ok (k := 29) rfl
theorem dX6_take_23 : decode cX6_take 23 = .ok (.iconst 1, 1) := g_dec dt23_X6_take_ok (k := 30) rfl
theorem dX6_take_24 : decode cX6_take 24 = .ok (.isub, 1) := g_dec dt23_X6_take_ok (k := 31) rfl
theorem dX6_take_25 : decode cX6_take 25 = .ok (.goto 7, 3) := g_dec dt23_X6_take_ok (k := 32) rfl
def dt24_X6_isDoneByTick : List (Nat × Instr × Nat) := [(32, (.ireturn, 1)), (0, (.aload_n 0, 1)), (1, (.getfield 15, 3)), (4, (.iconst (-1), 1)), (5, (.if_icmp .ne 5, 3)), (10, (.aload_n 0, 1)), (11, (.dup, 1)), (12, (.getfield 38, 3)), (15, (.iconst 1, 1)), (16, (.isub, 1)), (17, (.putfield 38, 3)), (20, (.aload_n 0, 1)), (21, (.getfield 38, 3)), (24, (.ifCond .gt 7, 3)), (31, (.iconst 0, 1)), (27, (.iconst 1, 1)), (28, (.goto 4, 3)), (8, (.iconst 0, 1)), (9, (.ireturn, 1))]
theorem dt24_X6_isDoneByTick_ok : ∀ q ∈ dt24_X6_isDoneByTick, decode cX6_isDoneByTick q.1 = .ok q.2 := by decide +kernel
theorem dX6_isDoneByTick_32 : decode cX6_isDoneByTick 32 = .ok (.ireturn, 1) := g_dec dt24_X6_isDoneByTick_ok (k := 0) rfl
theorem dX6_isDoneByTick_0 : decode cX6_isDoneByTick 0 = .ok (.aload_n 0, 1) := g_dec dt24_X6_isDoneByTick_ok (k := 1) rfl
theorem dX6_isDoneByTick_1 : decode cX6_isDoneByTick 1 = .ok (.getfield 15, 3) := g_dec dt24_X6_isDoneByTick_ok (k := 2) rfl
theorem dX6_isDoneByTick_4 : decode cX6_isDoneByTick 4 = .ok (.iconst (-1), 1) := g_dec dt24_X6_isDoneByTick_ok (k := 3) rfl
theorem dX6_isDoneByTick_5 : decode cX6_isDoneByTick 5 = .ok (.if_icmp .ne 5, 3) := g_dec dt24_X6_isDoneByTick_ok (k := 4) rfl
theorem dX6_isDoneByTick_10 : decode cX6_isDoneByTick 10 = .ok (.aload_n 0, 1) := g_dec dt24_X6_isDoneByTick_ok (k := 5) rfl
theorem dX6_isDoneByTick_11 : decode cX6_isDoneByTick 11 = .ok (.dup, 1) := g_dec dt24_X6_isDoneByTick_ok (k := 6) rfl
theorem dX6_isDoneByTick_12 : decode cX6_isDoneByTick 12 = .ok (.getfield 38, 3) := g_dec dt24_X6_isDoneByTick_ok (k := 7) rfl
theorem dX6_isDoneByTick_15 : decode cX6_isDoneByTick 15 = .ok (.iconst 1, 1) := g_dec dt24_X6_isDoneByTick_ok (k := 8) rfl
theorem dX6_isDoneByTick_16 : decode cX6_isDoneByTick 16 = .ok (.isub, 1) := g_dec dt24_X6_isDoneByTick_ok (k := 9) rfl
theorem dX6_isDoneByTick_17 : decode cX6_isDoneByTick 17 = .ok (.putfield 38, 3) := g_dec dt24_X6_isDoneByTick_ok (k := 10) rfl
theorem dX6_isDoneByTick_20 : decode cX6_isDoneByTick 20 = .ok (.aload_n 0, 1) := g_dec dt24_X6_isDoneByTick_ok (k := 11) rfl
theorem dX6_isDoneByTick_21 : decode cX6_isDoneByTick 21 = .ok (.getfield 38, 3) := g_dec dt24_X6_isDoneByTick_ok (k := 12) rfl
theorem dX6_isDoneByTick_24 : decode cX6_isDoneByTick 24 = .ok (.ifCond .gt 7, 3) := g_dec dt24_X6_isDoneByTick_ok (k := 13) rfl
theorem dX6_isDoneByTick_31 : decode cX6_isDoneByTick 31 = .ok (.iconst 0, 1) := g_dec dt24_X6_isDoneByTick_ok (k := 14) rfl
theorem dX6_isDoneByTick_27 : decode cX6_isDoneByTick 27 = .ok (.iconst 1, 1) := g_dec dt24_X6_isDoneByTick_ok (k := 15) rfl
theorem dX6_isDoneByTick_28 : decode cX6_isDoneByTick 28 = .ok (.goto 4, 3) := g_dec dt24_X6_isDoneByTick_ok (k := 16) rfl
theorem dX6_isDoneByTick_8 : decode cX6_isDoneByTick 8 = .ok (.iconst 0, 1) := g_dec dt24_X6_isDoneByTick_ok (k := 17) rfl
theorem dX6_isDoneByTick_9 : decode cX6_isDoneByTick 9 = .ok (.ireturn, 1) := g_dec dt24_X6_isDoneByTick_ok (k := 18) rfl
def dt25_X6_leave : List (Nat × Instr × Nat) := [(0, (.aload_n 0, 1)), (1, (.iconst 0, 1)), (2, (.putfield 18, 3)), (5, (.aload_n 0, 1)), (6, (.iconst (-1), 1)), (7, (.putfield 9, 3)), (10, (.aload_n 0, 1)), (11, (.iconst (-1), 1)), (12, (.putfield 15, 3)), (15, (.return_, 1))]
theorem dt25_X6_leave_ok : ∀ q ∈ dt25_X6_leave, decode cX6_leave q.1 = .ok q.2 := by decide +kernel
theorem dX6_leave_0 : decode cX6_leave 0 = .ok (.aload_n 0, 1) := g_dec dt25_X6_leave_ok (k := 0) rfl
theorem dX6_leave_1 : decode cX6_leave 1 = .ok (.iconst 0, 1) := g_dec dt25_X6_leave_ok (k := 1) rfl
theorem dX6_leave_2 : decode cX6_leave 2 = .ok (.putfield 18, 3) := g_dec dt25_X6_leave_ok (k := 2) rfl
theorem dX6_leave_5 : decode cX6_leave 5 = .ok (.aload_n 0, 1) := g_dec dt25_X6_leave_ok (k := 3) rfl
theorem dX6_leave_6 : decode cX6_leave 6 = .ok (.iconst (-1), 1) := g_dec dt25_X6_leave_ok (k := 4) rfl
theorem dX6_leave_7 : decode cX6_leave 7 = .ok (.putfield 9, 3) := g_dec dt25_X6_leave_ok (k := 5) rfl
theorem dX6_leave_10 : decode cX6_leave 10 = .ok (.aload_n 0, 1) := g_dec dt25_X6_leave_ok (k := 6) rfl
theorem dX6_leave_11 : decode cX6_leave 11 = .ok (.iconst (-1), 1) := g_dec dt25_X6_leave_ok (k := 7) rfl
theorem dX6_leave_12 : decode cX6_leave 12 = .ok (.putfield 15, 3) := g_dec dt25_X6_leave_ok (k := 8) rfl
theorem dX6_leave_15 : decode cX6_leave 15 = .ok (.return_, 1) := g_dec dt25_X6_leave_ok (k := 9) rfl
section
variable {p : Program} {l : Launch} {e : Env} {s : State} {m : MethodId} {args : Array Value} {below : List Frame} {meth : Method} {c : Code} {D : va_G} {y : Nat → ClassId} {aS : Nat → Nat} {A : Nat → Prop} {L : List Nat} {ad : Nat → Nat} {N : Nat} {res : Unit}
def fX11_needPlace_9 (N : Nat) (σ : gS) : Option Unit := none
set_option maxRecDepth 100000 in
set_option maxHeartbeats 4000000 in
theorem wX11_needPlace_9 {σ : gS} (hx : p.tables.exec = Jvm.exec) (hb : c.code = cX11_needPlace) (hr : meth.sig.returnType = none) (hml : c.maxLocals = 2) (hown : s.vm.findClass RX11 = some m.cls) (hg : ∀ w ∈ wsL_law, w.before args s = true) (hlocks : meth.locks = false) (hK : gK D y aS s) (hA : ∀ q, s.heap.size ≤ q → A q) (hL : ∀ k, k < 179 → k ∈ L) {H : Heap} {locs : List Loc} {ls : Array Slot} (hY : gY D y A s L ad σ H locs) (hl : lv_has ls 2 []) (h : fX11_needPlace_9 N σ = some res) : W p l e ({ frames := 0, cells := 0, slots := 0, locals := 0 } : Room) s m args below meth c H locs 0 0 (MQ below (va_Qv (fun (_ : Unit) => True) (fun _ => gO D A (GW L y ad σ)) A) args s 0 0 A) (F0 m 9 ls []) := by
  unfold fX11_needPlace_9 at h
  cases h
end
def fX11_needPlace (N : Nat) (σ : gS) (x0 : Int32) (x1 : Int32) : Option Unit := if x0 < 0 then (fX11_needPlace_9 N σ) else (if x0 < x1 then (some ()) else (fX11_needPlace_9 N σ))
set_option maxRecDepth 100000 in
set_option maxHeartbeats 4000000 in
theorem kX11_needPlace (l : Launch) (D : va_G) (y : Nat → ClassId) (aS : Nat → Nat) (sz : Nat) (L : List Nat) (hL : ∀ k, k < 179 → k ∈ L) (ad : Nat → Nat) (N : Nat) (σ : gS) (x0 : Int32) (x1 : Int32) (res : Unit) (h : fX11_needPlace N σ x0 x1 = some res) : Met l yX11_needPlace (Cond.code yX11_needPlace cX11_needPlace 2 none :: wsL_law) ({ frames := 0, cells := 0, slots := 0, locals := 0 } : Room) (va_Pc [.int x0, .int x1] (gI D y aS (GW L y ad σ) sz)) (va_Qv (fun (_ : Unit) => True) (fun _ => gO D (va_A (GW L y ad σ) sz) (GW L y ad σ)) (va_A (GW L y ad σ) sz)) 0 0 (va_A (GW L y ad σ) sz) := by
  refine g_of (by decide) (Nat.le_of_ble_eq_true rfl) ?_
  intro p e s m below meth c ls A hx hb hr hml hown hg hlocks hin hsz hK hP hD hS hA hAe hl
  rw [← hAe]
  replace hown : s.vm.findClass RX11 = some m.cls := hown
  have hY : gY D y A s L ad σ s.heap [] := ⟨hP, hD, hS⟩
  clear hP hD hS
  replace hl : lv_has ls 2 [(0, .int x0), (1, .int x1)] := hl
  unfold fX11_needPlace at h
  refine lv_iload_n hx hb dX11_needPlace_0 rfl (lv_at hl 0 rfl) ?_
  refine lv_if_lt (tgt := 9) hx hb dX11_needPlace_1 (by decide) (fun z_1 => ?_) (fun z_1 => ?_)
  ·
    rw [if_pos z_1] at h
    exact wX11_needPlace_9 hx hb hr hml hown hg hlocks hK hA hL hY (lv_sub hl [] rfl) h
  ·
    rw [if_neg z_1] at h
    refine lv_iload_n hx hb dX11_needPlace_4 rfl (lv_at hl 0 rfl) ?_
    refine lv_iload_n hx hb dX11_needPlace_5 rfl (lv_at hl 1 rfl) ?_
    refine lv_icmp_lt (tgt := 20) hx hb dX11_needPlace_6 (by decide) (fun z_2 => ?_) (fun z_2 => ?_)
    ·
      rw [if_pos z_2] at h
      cases h
      exact g_vret hx hb hr hlocks () hY.1 hY.2.1 hY.2.2 trivial (Nat.le_of_ble_eq_true rfl) (Nat.le_of_ble_eq_true rfl) dX11_needPlace_20
    ·
      rw [if_neg z_2] at h
      exact wX11_needPlace_9 hx hb hr hml hown hg hlocks hK hA hL hY (lv_sub hl [] rfl) h
section
variable {p : Program} {l : Launch} {e : Env} {s : State} {m : MethodId} {args : Array Value} {below : List Frame} {meth : Method} {c : Code} {D : va_G} {y : Nat → ClassId} {aS : Nat → Nat} {A : Nat → Prop} {L : List Nat} {ad : Nat → Nat} {N : Nat} {res : Unit}
def fX11_needRange_10 (N : Nat) (σ : gS) : Option Unit := none
set_option maxRecDepth 100000 in
set_option maxHeartbeats 4000000 in
theorem wX11_needRange_10 {σ : gS} (hx : p.tables.exec = Jvm.exec) (hb : c.code = cX11_needRange) (hr : meth.sig.returnType = none) (hml : c.maxLocals = 3) (hown : s.vm.findClass RX11 = some m.cls) (hg : ∀ w ∈ wsL_law, w.before args s = true) (hlocks : meth.locks = false) (hK : gK D y aS s) (hA : ∀ q, s.heap.size ≤ q → A q) (hL : ∀ k, k < 179 → k ∈ L) {H : Heap} {locs : List Loc} {ls : Array Slot} (hY : gY D y A s L ad σ H locs) (hl : lv_has ls 3 []) (h : fX11_needRange_10 N σ = some res) : W p l e ({ frames := 0, cells := 0, slots := 0, locals := 0 } : Room) s m args below meth c H locs 0 0 (MQ below (va_Qv (fun (_ : Unit) => True) (fun _ => gO D A (GW L y ad σ)) A) args s 0 0 A) (F0 m 10 ls []) := by
  unfold fX11_needRange_10 at h
  cases h
end
def fX11_needRange (N : Nat) (σ : gS) (x0 : Int32) (x1 : Int32) (x2 : Int32) : Option Unit := if x0 < x1 then (fX11_needRange_10 N σ) else (if x0 ≤ x2 then (some ()) else (fX11_needRange_10 N σ))
set_option maxRecDepth 100000 in
set_option maxHeartbeats 4000000 in
theorem kX11_needRange (l : Launch) (D : va_G) (y : Nat → ClassId) (aS : Nat → Nat) (sz : Nat) (L : List Nat) (hL : ∀ k, k < 179 → k ∈ L) (ad : Nat → Nat) (N : Nat) (σ : gS) (x0 : Int32) (x1 : Int32) (x2 : Int32) (res : Unit) (h : fX11_needRange N σ x0 x1 x2 = some res) : Met l yX11_needRange (Cond.code yX11_needRange cX11_needRange 3 none :: wsL_law) ({ frames := 0, cells := 0, slots := 0, locals := 0 } : Room) (va_Pc [.int x0, .int x1, .int x2] (gI D y aS (GW L y ad σ) sz)) (va_Qv (fun (_ : Unit) => True) (fun _ => gO D (va_A (GW L y ad σ) sz) (GW L y ad σ)) (va_A (GW L y ad σ) sz)) 0 0 (va_A (GW L y ad σ) sz) := by
  refine g_of (by decide) (Nat.le_of_ble_eq_true rfl) ?_
  intro p e s m below meth c ls A hx hb hr hml hown hg hlocks hin hsz hK hP hD hS hA hAe hl
  rw [← hAe]
  replace hown : s.vm.findClass RX11 = some m.cls := hown
  have hY : gY D y A s L ad σ s.heap [] := ⟨hP, hD, hS⟩
  clear hP hD hS
  replace hl : lv_has ls 3 [(0, .int x0), (1, .int x1), (2, .int x2)] := hl
  unfold fX11_needRange at h
  refine lv_iload_n hx hb dX11_needRange_0 rfl (lv_at hl 0 rfl) ?_
  refine lv_iload_n hx hb dX11_needRange_1 rfl (lv_at hl 1 rfl) ?_
  refine lv_icmp_lt (tgt := 10) hx hb dX11_needRange_2 (by decide) (fun z_1 => ?_) (fun z_1 => ?_)
  ·
    rw [if_pos z_1] at h
    exact wX11_needRange_10 hx hb hr hml hown hg hlocks hK hA hL hY (lv_sub hl [] rfl) h
  ·
    rw [if_neg z_1] at h
    refine lv_iload_n hx hb dX11_needRange_5 rfl (lv_at hl 0 rfl) ?_
    refine lv_iload_n hx hb dX11_needRange_6 rfl (lv_at hl 2 rfl) ?_
    refine lv_icmp_le (tgt := 21) hx hb dX11_needRange_7 (by decide) (fun z_2 => ?_) (fun z_2 => ?_)
    ·
      rw [if_pos z_2] at h
      cases h
      exact g_vret hx hb hr hlocks () hY.1 hY.2.1 hY.2.2 trivial (Nat.le_of_ble_eq_true rfl) (Nat.le_of_ble_eq_true rfl) dX11_needRange_21
    ·
      rw [if_neg z_2] at h
      exact wX11_needRange_10 hx hb hr hml hown hg hlocks hK hA hL hY (lv_sub hl [] rfl) h
section
variable {p : Program} {l : Launch} {e : Env} {s : State} {m : MethodId} {args : Array Value} {below : List Frame} {meth : Method} {c : Code} {D : va_G} {y : Nat → ClassId} {aS : Nat → Nat} {A : Nat → Prop} {L : List Nat} {ad : Nat → Nat} {N : Nat} {res : Unit}
end
def fX11_needArgument (N : Nat) (σ : gS) (x0 : Int32) : Option Unit := if x0 = 0 then none else (some ())
set_option maxRecDepth 100000 in
set_option maxHeartbeats 4000000 in
theorem kX11_needArgument (l : Launch) (D : va_G) (y : Nat → ClassId) (aS : Nat → Nat) (sz : Nat) (L : List Nat) (hL : ∀ k, k < 179 → k ∈ L) (ad : Nat → Nat) (N : Nat) (σ : gS) (x0 : Int32) (res : Unit) (h : fX11_needArgument N σ x0 = some res) : Met l yX11_needArgument (Cond.code yX11_needArgument cX11_needArgument 1 none :: wsL_law) ({ frames := 0, cells := 0, slots := 0, locals := 0 } : Room) (va_Pc [.int x0] (gI D y aS (GW L y ad σ) sz)) (va_Qv (fun (_ : Unit) => True) (fun _ => gO D (va_A (GW L y ad σ) sz) (GW L y ad σ)) (va_A (GW L y ad σ) sz)) 0 0 (va_A (GW L y ad σ) sz) := by
  refine g_of (by decide) (Nat.le_of_ble_eq_true rfl) ?_
  intro p e s m below meth c ls A hx hb hr hml hown hg hlocks hin hsz hK hP hD hS hA hAe hl
  rw [← hAe]
  replace hown : s.vm.findClass RX11 = some m.cls := hown
  have hY : gY D y A s L ad σ s.heap [] := ⟨hP, hD, hS⟩
  clear hP hD hS
  replace hl : lv_has ls 1 [(0, .int x0)] := hl
  unfold fX11_needArgument at h
  refine lv_iload_n hx hb dX11_needArgument_0 rfl (lv_at hl 0 rfl) ?_
  refine lv_if_ne (tgt := 15) hx hb dX11_needArgument_1 (by decide) (fun z_1 => ?_) (fun z_1 => ?_)
  ·
    rw [if_neg z_1] at h
    cases h
    exact g_vret hx hb hr hlocks () hY.1 hY.2.1 hY.2.2 trivial (Nat.le_of_ble_eq_true rfl) (Nat.le_of_ble_eq_true rfl) dX11_needArgument_15
  ·
    rw [if_pos z_1] at h
    cases h
section
variable {p : Program} {l : Launch} {e : Env} {s : State} {m : MethodId} {args : Array Value} {below : List Frame} {meth : Method} {c : Code} {D : va_G} {y : Nat → ClassId} {aS : Nat → Nat} {A : Nat → Prop} {L : List Nat} {ad : Nat → Nat} {N : Nat} {res : Unit}
end
def fX11_needState (N : Nat) (σ : gS) (x0 : Int32) : Option Unit := if x0 = 0 then none else (some ())
set_option maxRecDepth 100000 in
set_option maxHeartbeats 4000000 in
theorem kX11_needState (l : Launch) (D : va_G) (y : Nat → ClassId) (aS : Nat → Nat) (sz : Nat) (L : List Nat) (hL : ∀ k, k < 179 → k ∈ L) (ad : Nat → Nat) (N : Nat) (σ : gS) (x0 : Int32) (res : Unit) (h : fX11_needState N σ x0 = some res) : Met l yX11_needState (Cond.code yX11_needState cX11_needState 1 none :: wsL_law) ({ frames := 0, cells := 0, slots := 0, locals := 0 } : Room) (va_Pc [.int x0] (gI D y aS (GW L y ad σ) sz)) (va_Qv (fun (_ : Unit) => True) (fun _ => gO D (va_A (GW L y ad σ) sz) (GW L y ad σ)) (va_A (GW L y ad σ) sz)) 0 0 (va_A (GW L y ad σ) sz) := by
  refine g_of (by decide) (Nat.le_of_ble_eq_true rfl) ?_
  intro p e s m below meth c ls A hx hb hr hml hown hg hlocks hin hsz hK hP hD hS hA hAe hl
  rw [← hAe]
  replace hown : s.vm.findClass RX11 = some m.cls := hown
  have hY : gY D y A s L ad σ s.heap [] := ⟨hP, hD, hS⟩
  clear hP hD hS
  replace hl : lv_has ls 1 [(0, .int x0)] := hl
  unfold fX11_needState at h
  refine lv_iload_n hx hb dX11_needState_0 rfl (lv_at hl 0 rfl) ?_
  refine lv_if_ne (tgt := 15) hx hb dX11_needState_1 (by decide) (fun z_1 => ?_) (fun z_1 => ?_)
  ·
    rw [if_neg z_1] at h
    cases h
    exact g_vret hx hb hr hlocks () hY.1 hY.2.1 hY.2.2 trivial (Nat.le_of_ble_eq_true rfl) (Nat.le_of_ble_eq_true rfl) dX11_needState_15
  ·
    rw [if_pos z_1] at h
    cases h
section
variable {p : Program} {l : Launch} {e : Env} {s : State} {m : MethodId} {args : Array Value} {below : List Frame} {meth : Method} {c : Code} {D : va_G} {y : Nat → ClassId} {aS : Nat → Nat} {A : Nat → Prop} {L : List Nat} {ad : Nat → Nat} {N : Nat} {res : Int32}
def fX11_hasBit_13 (N : Nat) (σ : gS) (xs0 : Int32) : Option Int32 := if ¬ (xs0 = 0 ∨ xs0 = 1) then none else (some xs0)
set_option maxRecDepth 100000 in
set_option maxHeartbeats 4000000 in
theorem wX11_hasBit_13 {σ : gS} {xs0 : Int32} (hx : p.tables.exec = Jvm.exec) (hb : c.code = cX11_hasBit) (hr : meth.sig.returnType = (some .boolean)) (hml : c.maxLocals = 2) (hown : s.vm.findClass RX11 = some m.cls) (hg : ∀ w ∈ wsL_law, w.before args s = true) (hlocks : meth.locks = false) (hK : gK D y aS s) (hA : ∀ q, s.heap.size ≤ q → A q) (hL : ∀ k, k < 179 → k ∈ L) {H : Heap} {locs : List Loc} {ls : Array Slot} (hY : gY D y A s L ad σ H locs) (hl : lv_has ls 2 []) (h : fX11_hasBit_13 N σ xs0 = some res) : W p l e ({ frames := 0, cells := 0, slots := 0, locals := 0 } : Room) s m args below meth c H locs 0 0 (MQ below (va_Qi (fun (r : Int32) (_ : Unit) => r = res) (fun _ => gO D A (GW L y ad σ)) A) args s 0 0 A) (F0 m 13 ls [.int xs0]) := by
  unfold fX11_hasBit_13 at h
  obtain ⟨z_1, h⟩ := g_guard h
  cases h
  exact g_iret hx hb hr hlocks () hY.1 hY.2.1 hY.2.2 (g_nz (Classical.not_not.mp z_1)) rfl (Nat.le_of_ble_eq_true rfl) (Nat.le_of_ble_eq_true rfl) dX11_hasBit_13
end
def fX11_hasBit (N : Nat) (σ : gS) (x0 : Int32) (x1 : Int32) : Option Int32 := if (((x0.toUInt32 >>> (x1.toUInt32 &&& Int32.toUInt32 31)).toInt32) &&& 1) = 0 then (fX11_hasBit_13 N σ 0) else (fX11_hasBit_13 N σ 1)
set_option maxRecDepth 100000 in
set_option maxHeartbeats 4000000 in
theorem kX11_hasBit (l : Launch) (D : va_G) (y : Nat → ClassId) (aS : Nat → Nat) (sz : Nat) (L : List Nat) (hL : ∀ k, k < 179 → k ∈ L) (ad : Nat → Nat) (N : Nat) (σ : gS) (x0 : Int32) (x1 : Int32) (res : Int32) (h : fX11_hasBit N σ x0 x1 = some res) : Met l yX11_hasBit (Cond.code yX11_hasBit cX11_hasBit 2 (some .boolean) :: wsL_law) ({ frames := 0, cells := 0, slots := 0, locals := 0 } : Room) (va_Pc [.int x0, .int x1] (gI D y aS (GW L y ad σ) sz)) (va_Qi (fun (r : Int32) (_ : Unit) => r = res) (fun _ => gO D (va_A (GW L y ad σ) sz) (GW L y ad σ)) (va_A (GW L y ad σ) sz)) 0 0 (va_A (GW L y ad σ) sz) := by
  refine g_of (by decide) (Nat.le_of_ble_eq_true rfl) ?_
  intro p e s m below meth c ls A hx hb hr hml hown hg hlocks hin hsz hK hP hD hS hA hAe hl
  rw [← hAe]
  replace hown : s.vm.findClass RX11 = some m.cls := hown
  have hY : gY D y A s L ad σ s.heap [] := ⟨hP, hD, hS⟩
  clear hP hD hS
  replace hl : lv_has ls 2 [(0, .int x0), (1, .int x1)] := hl
  unfold fX11_hasBit at h
  refine lv_iload_n hx hb dX11_hasBit_0 rfl (lv_at hl 0 rfl) ?_
  refine lv_iload_n hx hb dX11_hasBit_1 rfl (lv_at hl 1 rfl) ?_
  refine lv_iushr (v := ((x0.toUInt32 >>> (x1.toUInt32 &&& Int32.toUInt32 31)).toInt32)) hx hb dX11_hasBit_2 rfl ?_
  refine lv_iconst (v := 1) hx hb dX11_hasBit_3 (by decide) ?_
  refine lv_iand hx hb dX11_hasBit_4 ?_
  refine lv_if_eq (tgt := 12) hx hb dX11_hasBit_5 (by decide) (fun z_1 => ?_) (fun z_1 => ?_)
  ·
    rw [if_pos z_1] at h
    refine lv_iconst (v := 0) hx hb dX11_hasBit_12 (by decide) ?_
    exact wX11_hasBit_13 hx hb hr hml hown hg hlocks hK hA hL hY (lv_sub hl [] rfl) h
  ·
    rw [if_neg z_1] at h
    refine lv_iconst (v := 1) hx hb dX11_hasBit_8 (by decide) ?_
    refine lv_goto (tgt := 13) hx hb dX11_hasBit_9 (by decide) ?_
    exact wX11_hasBit_13 hx hb hr hml hown hg hlocks hK hA hL hY (lv_sub hl [] rfl) h
section
variable {p : Program} {l : Launch} {e : Env} {s : State} {m : MethodId} {args : Array Value} {below : List Frame} {meth : Method} {c : Code} {D : va_G} {y : Nat → ClassId} {aS : Nat → Nat} {A : Nat → Prop} {L : List Nat} {ad : Nat → Nat} {N : Nat} {res : Int32}
end
def fX11_contentIn (N : Nat) (σ : gS) (x0 : Int64) (x2 : Int32) : Option Int32 := some ((((x0.toUInt64 >>> ((4 * x2).toInt64.toUInt64 &&& Int64.toUInt64 63)).toInt64) &&& 15).toInt32)
set_option maxRecDepth 100000 in
set_option maxHeartbeats 4000000 in
theorem kX11_contentIn (l : Launch) (D : va_G) (y : Nat → ClassId) (aS : Nat → Nat) (sz : Nat) (L : List Nat) (hL : ∀ k, k < 179 → k ∈ L) (ad : Nat → Nat) (N : Nat) (σ : gS) (x0 : Int64) (x2 : Int32) (res : Int32) (h : fX11_contentIn N σ x0 x2 = some res) : Met l yX11_contentIn (Cond.code yX11_contentIn cX11_contentIn 3 (some .int) :: wsL_law) ({ frames := 0, cells := 0, slots := 0, locals := 0 } : Room) (va_Pc [.long x0, .int x2] (gI D y aS (GW L y ad σ) sz)) (va_Qi (fun (r : Int32) (_ : Unit) => r = res) (fun _ => gO D (va_A (GW L y ad σ) sz) (GW L y ad σ)) (va_A (GW L y ad σ) sz)) 0 0 (va_A (GW L y ad σ) sz) := by
  refine g_of (by decide) (Nat.le_of_ble_eq_true rfl) ?_
  intro p e s m below meth c ls A hx hb hr hml hown hg hlocks hin hsz hK hP hD hS hA hAe hl
  rw [← hAe]
  replace hown : s.vm.findClass RX11 = some m.cls := hown
  have hY : gY D y A s L ad σ s.heap [] := ⟨hP, hD, hS⟩
  clear hP hD hS
  replace hl : lv_has ls 3 [(0, .long x0), (2, .int x2)] := hl
  unfold fX11_contentIn at h
  refine lv_lload_n hx hb dX11_contentIn_0 rfl (lv_at hl 0 rfl) ?_
  refine lv_iconst (v := 4) hx hb dX11_contentIn_1 (by decide) ?_
  refine lv_iload_n hx hb dX11_contentIn_2 rfl (lv_at hl 1 rfl) ?_
  refine lv_imul hx hb dX11_contentIn_3 ?_
  refine lv_lushr (v := ((x0.toUInt64 >>> ((4 * x2).toInt64.toUInt64 &&& Int64.toUInt64 63)).toInt64)) hx hb dX11_contentIn_4 rfl ?_
  refine lv_ldc2 (v := 15) hx hb hown (hg _ gw_370) dX11_contentIn_5 ?_
  refine lv_land hx hb dX11_contentIn_8 ?_
  refine lv_l2i (v := ((((x0.toUInt64 >>> ((4 * x2).toInt64.toUInt64 &&& Int64.toUInt64 63)).toInt64) &&& 15).toInt32)) hx hb dX11_contentIn_9 rfl ?_
  cases h
  exact g_iret hx hb hr hlocks () hY.1 hY.2.1 hY.2.2 rfl rfl (Nat.le_of_ble_eq_true rfl) (Nat.le_of_ble_eq_true rfl) dX11_contentIn_10
theorem ggS_RX11_175_X11_hasBit : GoodIn wsL_law (va_wsS RX11 175 yX11_hasBit (Cond.code yX11_hasBit cX11_hasBit 2 (some .boolean) :: wsL_law)) := g_gi (fun _ h => h) gW_good (List.forall_mem_cons.mpr ⟨⟨gw_381, rfl⟩, List.forall_mem_cons.mpr ⟨⟨gw_220, rfl⟩, List.forall_mem_cons.mpr ⟨⟨gw_2, rfl⟩, fun _ h => nomatch h⟩⟩⟩) ⟨gw_221, rfl⟩
section
variable {p : Program} {l : Launch} {e : Env} {s : State} {m : MethodId} {args : Array Value} {below : List Frame} {meth : Method} {c : Code} {D : va_G} {y : Nat → ClassId} {aS : Nat → Nat} {A : Nat → Prop} {L : List Nat} {ad : Nat → Nat} {N : Nat} {res : Int64}
def fX11_maskOf_28 (N : Nat) (rec4 : (Int64 × Int32) → Option Int64) (σ : gS) (x0 : Int32) (x1 : Int64) (x3 : Int32) : Option Int64 := rec4 (x1, (x3 + 1))
set_option maxRecDepth 100000 in
set_option maxHeartbeats 4000000 in
theorem wX11_maskOf_28 {rec4 : (Int64 × Int32) → Option Int64} {σ : gS} {x0 : Int32} {x1 : Int64} {x3 : Int32} (hx : p.tables.exec = Jvm.exec) (hb : c.code = cX11_maskOf) (hr : meth.sig.returnType = (some .long)) (hml : c.maxLocals = 4) (hown : s.vm.findClass RX11 = some m.cls) (hg : ∀ w ∈ wsL_law, w.before args s = true) (hlocks : meth.locks = false) (hK : gK D y aS s) (hA : ∀ q, s.heap.size ≤ q → A q) (hL : ∀ k, k < 179 → k ∈ L) (hrec4 : ∀ {x1n9 : Int64} {x3n9 : Int32} (H : Heap) (locs : List Loc) (ls : Array Slot), gY D y A s L ad σ H locs → lv_has ls 4 [(0, .int x0), (1, .long x1n9), (3, .int x3n9)] → rec4 (x1n9, x3n9) = some res → W p l e ({ frames := 1, cells := 0, slots := 0, locals := 21 } : Room) s m args below meth c H locs 0 0 (MQ below (va_Ql (fun (r : Int64) (_ : Unit) => r = res) (fun _ => gO D A (GW L y ad σ)) A) args s 0 0 A) (F0 m 4 ls [])) {H : Heap} {locs : List Loc} {ls : Array Slot} (hY : gY D y A s L ad σ H locs) (hl : lv_has ls 4 [(0, .int x0), (1, .long x1), (3, .int x3)]) (h : fX11_maskOf_28 N rec4 σ x0 x1 x3 = some res) : W p l e ({ frames := 1, cells := 0, slots := 0, locals := 21 } : Room) s m args below meth c H locs 0 0 (MQ below (va_Ql (fun (r : Int64) (_ : Unit) => r = res) (fun _ => gO D A (GW L y ad σ)) A) args s 0 0 A) (F0 m 28 ls []) := by
  unfold fX11_maskOf_28 at h
  refine lv_iinc (v := (x3 + 1)) (lv' := [(3, .int (x3 + 1)), (0, .int x0), (1, .long x1)]) hx hb dX11_maskOf_28 hl (k := 2) rfl rfl (by decide) rfl ?_
  clear hl
  intro ls hl
  refine lv_goto (tgt := 4) hx hb dX11_maskOf_31 (by decide) ?_
  exact hrec4 _ _ _ hY (lv_sub hl [1, 2, 0] rfl) h
def fX11_maskOf_4 (N : Nat) (σ : gS) (x0 : Int32) (rec4 : (Int64 × Int32) → Option Int64) (xx : Int64 × Int32) : Option Int64 := match xx with
  | (x1, x3) => if 12 ≤ x3 then (some x1) else ((fX11_hasBit N σ x0 x3).bind fun r_2 => if r_2 = 0 then (fX11_maskOf_28 N rec4 σ x0 x1 x3) else (fX11_maskOf_28 N rec4 σ x0 (x1 ||| (((15 : Int64) <<< ((4 * x3).toInt64 &&& 63)))) x3))
set_option maxRecDepth 100000 in
set_option maxHeartbeats 4000000 in
theorem wX11_maskOf_4 {σ : gS} {x0 : Int32} (hx : p.tables.exec = Jvm.exec) (hb : c.code = cX11_maskOf) (hr : meth.sig.returnType = (some .long)) (hml : c.maxLocals = 4) (hown : s.vm.findClass RX11 = some m.cls) (hg : ∀ w ∈ wsL_law, w.before args s = true) (hlocks : meth.locks = false) (hK : gK D y aS s) (hA : ∀ q, s.heap.size ≤ q → A q) (hL : ∀ k, k < 179 → k ∈ L) : ∀ (n : Nat) {x1 : Int64} {x3 : Int32} (H : Heap) (locs : List Loc) (ls : Array Slot), gY D y A s L ad σ H locs → lv_has ls 4 [(0, .int x0), (1, .long x1), (3, .int x3)] → lp (fX11_maskOf_4 N σ x0) n (x1, x3) = some res → W p l e ({ frames := 1, cells := 0, slots := 0, locals := 21 } : Room) s m args below meth c H locs 0 0 (MQ below (va_Ql (fun (r : Int64) (_ : Unit) => r = res) (fun _ => gO D A (GW L y ad σ)) A) args s 0 0 A) (F0 m 4 ls []) := by
  intro n
  induction n with
  | zero => intro x1 x3 H locs ls hY hl h; exact nomatch (show none = some res from h)
  | succ n hrec4 =>
    intro x1 x3 H locs ls hY hl h
    replace h : fX11_maskOf_4 N σ x0 (lp (fX11_maskOf_4 N σ x0) n) (x1, x3) = some res := h
    generalize lp (fX11_maskOf_4 N σ x0) n = rec4 at h hrec4
    unfold fX11_maskOf_4 at h
    try dsimp only at h
    refine lv_iload_n hx hb dX11_maskOf_4 rfl (lv_at hl 2 rfl) ?_
    refine lv_bipush (v := 12) hx hb dX11_maskOf_5 (by decide +kernel) ?_
    refine lv_icmp_ge (tgt := 34) hx hb dX11_maskOf_7 (by decide) (fun z_1 => ?_) (fun z_1 => ?_)
    ·
      rw [if_pos z_1] at h
      refine lv_lload_n hx hb dX11_maskOf_34 rfl (lv_at hl 1 rfl) ?_
      cases h
      exact g_lret hx hb hr hlocks () hY.1 hY.2.1 hY.2.2 rfl (Nat.le_of_ble_eq_true rfl) (Nat.le_of_ble_eq_true rfl) dX11_maskOf_35
    ·
      rw [if_neg z_1] at h
      refine lv_iload_n hx hb dX11_maskOf_10 rfl (lv_at hl 0 rfl) ?_
      refine lv_iload_n hx hb dX11_maskOf_11 rfl (lv_at hl 2 rfl) ?_
      obtain ⟨r_2, e_3, h⟩ := g_bind h
      refine G_ai hY hA (va_runS (As := [.int x0, .int x3]) (rest := []) ⟨hx, hb, hml, hown, hg⟩ (kX11_hasBit l D y aS H.size L hL ad N σ x0 x3 _ e_3) (va_cwS 2 hg ggS_RX11_175_X11_hasBit rfl rfl rfl (by decide +kernel) ⟨Nat.le_of_ble_eq_true rfl, Nat.le_of_ble_eq_true rfl⟩) (G_pS hK hY) rfl rfl hl.1 rfl (lv_room (Nat.le_of_ble_eq_true rfl)) dX11_maskOf_12 ⟨Nat.le_of_ble_eq_true rfl, Nat.le_of_ble_eq_true rfl⟩) ?_
      clear hY
      rintro _ H locs rfl hY
      refine lv_if_eq (tgt := 28) hx hb dX11_maskOf_15 (by decide) (fun z_4 => ?_) (fun z_4 => ?_)
      ·
        rw [if_pos z_4] at h
        exact wX11_maskOf_28 hx hb hr hml hown hg hlocks hK hA hL hrec4 hY (lv_sub hl [0, 1, 2] rfl) h
      ·
        rw [if_neg z_4] at h
        refine lv_lload_n hx hb dX11_maskOf_18 rfl (lv_at hl 1 rfl) ?_
        refine lv_ldc2 (v := 15) hx hb hown (hg _ gw_370) dX11_maskOf_19 ?_
        refine lv_iconst (v := 4) hx hb dX11_maskOf_22 (by decide) ?_
        refine lv_iload_n hx hb dX11_maskOf_23 rfl (lv_at hl 2 rfl) ?_
        refine lv_imul hx hb dX11_maskOf_24 ?_
        refine lv_lshl (v := (((15 : Int64) <<< ((4 * x3).toInt64 &&& 63)))) hx hb dX11_maskOf_25 rfl ?_
        refine lv_lor hx hb dX11_maskOf_26 ?_
        refine lv_lstore_n (lv' := [(1, .long (x1 ||| (((15 : Int64) <<< ((4 * x3).toInt64 &&& 63))))), (0, .int x0), (3, .int x3)]) hx hb dX11_maskOf_27 rfl hl (by decide) rfl ?_
        clear hl
        intro ls hl
        exact wX11_maskOf_28 hx hb hr hml hown hg hlocks hK hA hL hrec4 hY (lv_sub hl [1, 0, 2] rfl) h
end
def fX11_maskOf (N : Nat) (σ : gS) (x0 : Int32) : Option Int64 := lp (fX11_maskOf_4 N σ x0) N (0, 0)
set_option maxRecDepth 100000 in
set_option maxHeartbeats 4000000 in
theorem kX11_maskOf (l : Launch) (D : va_G) (y : Nat → ClassId) (aS : Nat → Nat) (sz : Nat) (L : List Nat) (hL : ∀ k, k < 179 → k ∈ L) (ad : Nat → Nat) (N : Nat) (σ : gS) (x0 : Int32) (res : Int64) (h : fX11_maskOf N σ x0 = some res) : Met l yX11_maskOf (Cond.code yX11_maskOf cX11_maskOf 4 (some .long) :: wsL_law) ({ frames := 1, cells := 0, slots := 0, locals := 21 } : Room) (va_Pc [.int x0] (gI D y aS (GW L y ad σ) sz)) (va_Ql (fun (r : Int64) (_ : Unit) => r = res) (fun _ => gO D (va_A (GW L y ad σ) sz) (GW L y ad σ)) (va_A (GW L y ad σ) sz)) 0 0 (va_A (GW L y ad σ) sz) := by
  refine g_of (by decide) (Nat.le_of_ble_eq_true rfl) ?_
  intro p e s m below meth c ls A hx hb hr hml hown hg hlocks hin hsz hK hP hD hS hA hAe hl
  rw [← hAe]
  replace hown : s.vm.findClass RX11 = some m.cls := hown
  have hY : gY D y A s L ad σ s.heap [] := ⟨hP, hD, hS⟩
  clear hP hD hS
  replace hl : lv_has ls 4 [(0, .int x0)] := hl
  unfold fX11_maskOf at h
  refine lv_lconst (v := 0) hx hb dX11_maskOf_0 (by decide) ?_
  refine lv_lstore_n (lv' := [(1, .long 0), (0, .int x0)]) hx hb dX11_maskOf_1 rfl hl (by decide) rfl ?_
  clear hl
  intro ls hl
  refine lv_iconst (v := 0) hx hb dX11_maskOf_2 (by decide) ?_
  refine lv_istore_n (lv' := [(3, .int 0), (1, .long 0), (0, .int x0)]) hx hb dX11_maskOf_3 rfl hl (by decide) rfl ?_
  clear hl
  intro ls hl
  exact wX11_maskOf_4 hx hb hr hml hown hg hlocks hK hA hL N _ _ _ hY (lv_sub hl [2, 1, 0] rfl) h
section
variable {p : Program} {l : Launch} {e : Env} {s : State} {m : MethodId} {args : Array Value} {below : List Frame} {meth : Method} {c : Code} {D : va_G} {y : Nat → ClassId} {aS : Nat → Nat} {A : Nat → Prop} {L : List Nat} {ad : Nat → Nat} {N : Nat} {res : Int32}
def fX1_isToCome_20 (N : Nat) (σ : gS) (xs0 : Int32) : Option Int32 := if ¬ (xs0 = 0 ∨ xs0 = 1) then none else (some xs0)
set_option maxRecDepth 100000 in
set_option maxHeartbeats 4000000 in
theorem wX1_isToCome_20 {σ : gS} {xs0 : Int32} (hx : p.tables.exec = Jvm.exec) (hb : c.code = cX1_isToCome) (hr : meth.sig.returnType = (some .boolean)) (hml : c.maxLocals = 1) (hown : s.vm.findClass RX1 = some m.cls) (hg : ∀ w ∈ wsL_law, w.before args s = true) (hlocks : meth.locks = false) (hK : gK D y aS s) (hA : ∀ q, s.heap.size ≤ q → A q) (hL : ∀ k, k < 179 → k ∈ L) {H : Heap} {locs : List Loc} {ls : Array Slot} (hY : gY D y A s L ad σ H locs) (hl : lv_has ls 1 []) (h : fX1_isToCome_20 N σ xs0 = some res) : W p l e ({ frames := 0, cells := 0, slots := 0, locals := 0 } : Room) s m args below meth c H locs 0 0 (MQ below (va_Qi (fun (r : Int32) (_ : Unit) => r = res) (fun _ => gO D A (GW L y ad σ)) A) args s 0 0 A) (F0 m 20 ls [.int xs0]) := by
  unfold fX1_isToCome_20 at h
  obtain ⟨z_1, h⟩ := g_guard h
  cases h
  exact g_iret hx hb hr hlocks () hY.1 hY.2.1 hY.2.2 (g_nz (Classical.not_not.mp z_1)) rfl (Nat.le_of_ble_eq_true rfl) (Nat.le_of_ble_eq_true rfl) dX1_isToCome_20
def fX1_isToCome_15 (N : Nat) (σ : gS) : Option Int32 := fX1_isToCome_20 N σ 1
set_option maxRecDepth 100000 in
set_option maxHeartbeats 4000000 in
theorem wX1_isToCome_15 {σ : gS} (hx : p.tables.exec = Jvm.exec) (hb : c.code = cX1_isToCome) (hr : meth.sig.returnType = (some .boolean)) (hml : c.maxLocals = 1) (hown : s.vm.findClass RX1 = some m.cls) (hg : ∀ w ∈ wsL_law, w.before args s = true) (hlocks : meth.locks = false) (hK : gK D y aS s) (hA : ∀ q, s.heap.size ≤ q → A q) (hL : ∀ k, k < 179 → k ∈ L) {H : Heap} {locs : List Loc} {ls : Array Slot} (hY : gY D y A s L ad σ H locs) (hl : lv_has ls 1 []) (h : fX1_isToCome_15 N σ = some res) : W p l e ({ frames := 0, cells := 0, slots := 0, locals := 0 } : Room) s m args below meth c H locs 0 0 (MQ below (va_Qi (fun (r : Int32) (_ : Unit) => r = res) (fun _ => gO D A (GW L y ad σ)) A) args s 0 0 A) (F0 m 15 ls []) := by
  unfold fX1_isToCome_15 at h
  refine lv_iconst (v := 1) hx hb dX1_isToCome_15 (by decide) ?_
  refine lv_goto (tgt := 20) hx hb dX1_isToCome_16 (by decide) ?_
  exact wX1_isToCome_20 hx hb hr hml hown hg hlocks hK hA hL hY (lv_sub hl [] rfl) h
end
def fX1_isToCome (N : Nat) (σ : gS) (r0 : Nat) : Option Int32 := if (σ.1 r0 3) = 0 then (fX1_isToCome_15 N σ) else (if (σ.1 r0 3) = 1 then (fX1_isToCome_15 N σ) else (fX1_isToCome_20 N σ 0))
set_option maxRecDepth 100000 in
set_option maxHeartbeats 4000000 in
theorem kX1_isToCome (l : Launch) (D : va_G) (y : Nat → ClassId) (aS : Nat → Nat) (sz : Nat) (L : List Nat) (hL : ∀ k, k < 179 → k ∈ L) (ad : Nat → Nat) (N : Nat) (σ : gS) (r0 : Nat) (res : Int32) (hr0 : gcl r0 = 1) (h : fX1_isToCome N σ r0 = some res) : Met l yX1_isToCome (Cond.code yX1_isToCome cX1_isToCome 1 (some .boolean) :: wsL_law) ({ frames := 0, cells := 0, slots := 0, locals := 0 } : Room) (va_Pc [.ref (ad r0)] (gI D y aS (GW L y ad σ) sz)) (va_Qi (fun (r : Int32) (_ : Unit) => r = res) (fun _ => gO D (va_A (GW L y ad σ) sz) (GW L y ad σ)) (va_A (GW L y ad σ) sz)) 0 0 (va_A (GW L y ad σ) sz) := by
  refine g_of (by decide) (Nat.le_of_ble_eq_true rfl) ?_
  intro p e s m below meth c ls A hx hb hr hml hown hg hlocks hin hsz hK hP hD hS hA hAe hl
  rw [← hAe]
  replace hown : s.vm.findClass RX1 = some m.cls := hown
  have hY : gY D y A s L ad σ s.heap [] := ⟨hP, hD, hS⟩
  clear hP hD hS
  replace hl : lv_has ls 1 [(0, .ref (ad r0))] := hl
  unfold fX1_isToCome at h
  refine lv_aload_n hx hb dX1_isToCome_0 rfl (lv_at hl 0 rfl) ?_
  refine G_get (ci := 1) (j := 3) (C := RX1) (T := TX1) (N := 14) (v := .int (σ.1 r0 3)) hx hb hg inlX1 hown hK hY (hL _ (gcl_lt hr0 (by decide))) hr0 (by decide) rfl (by decide) tX1_3 (hg _ gw_71) rfl dX1_isToCome_1 ?_
  refine lv_if_eq (tgt := 15) hx hb dX1_isToCome_4 (by decide) (fun z_1 => ?_) (fun z_1 => ?_)
  ·
    rw [if_pos z_1] at h
    exact wX1_isToCome_15 hx hb hr hml hown hg hlocks hK hA hL hY (lv_sub hl [] rfl) h
  ·
    rw [if_neg z_1] at h
    refine lv_aload_n hx hb dX1_isToCome_7 rfl (lv_at hl 0 rfl) ?_
    refine G_get (ci := 1) (j := 3) (C := RX1) (T := TX1) (N := 14) (v := .int (σ.1 r0 3)) hx hb hg inlX1 hown hK hY (hL _ (gcl_lt hr0 (by decide))) hr0 (by decide) rfl (by decide) tX1_3 (hg _ gw_71) rfl dX1_isToCome_8 ?_
    refine lv_iconst (v := 1) hx hb dX1_isToCome_11 (by decide) ?_
    refine lv_icmp_ne (tgt := 19) hx hb dX1_isToCome_12 (by decide) (fun z_2 => ?_) (fun z_2 => ?_)
    ·
      rw [if_neg z_2] at h
      refine lv_iconst (v := 0) hx hb dX1_isToCome_19 (by decide) ?_
      exact wX1_isToCome_20 hx hb hr hml hown hg hlocks hK hA hL hY (lv_sub hl [] rfl) h
    ·
      rw [if_pos z_2] at h
      exact wX1_isToCome_15 hx hb hr hml hown hg hlocks hK hA hL hY (lv_sub hl [] rfl) h
section
variable {p : Program} {l : Launch} {e : Env} {s : State} {m : MethodId} {args : Array Value} {below : List Frame} {meth : Method} {c : Code} {D : va_G} {y : Nat → ClassId} {aS : Nat → Nat} {A : Nat → Prop} {L : List Nat} {ad : Nat → Nat} {N : Nat} {res : Int32}
end
def fX1_team (N : Nat) (σ : gS) (r0 : Nat) : Option Int32 := some ((σ.1 r0 1) - (σ.1 r0 1) / 3 * 3)
set_option maxRecDepth 100000 in
set_option maxHeartbeats 4000000 in
theorem kX1_team (l : Launch) (D : va_G) (y : Nat → ClassId) (aS : Nat → Nat) (sz : Nat) (L : List Nat) (hL : ∀ k, k < 179 → k ∈ L) (ad : Nat → Nat) (N : Nat) (σ : gS) (r0 : Nat) (res : Int32) (hr0 : gcl r0 = 1) (h : fX1_team N σ r0 = some res) : Met l yX1_team (Cond.code yX1_team cX1_team 1 (some .int) :: wsL_law) ({ frames := 0, cells := 0, slots := 0, locals := 0 } : Room) (va_Pc [.ref (ad r0)] (gI D y aS (GW L y ad σ) sz)) (va_Qi (fun (r : Int32) (_ : Unit) => r = res) (fun _ => gO D (va_A (GW L y ad σ) sz) (GW L y ad σ)) (va_A (GW L y ad σ) sz)) 0 0 (va_A (GW L y ad σ) sz) := by
  refine g_of (by decide) (Nat.le_of_ble_eq_true rfl) ?_
  intro p e s m below meth c ls A hx hb hr hml hown hg hlocks hin hsz hK hP hD hS hA hAe hl
  rw [← hAe]
  replace hown : s.vm.findClass RX1 = some m.cls := hown
  have hY : gY D y A s L ad σ s.heap [] := ⟨hP, hD, hS⟩
  clear hP hD hS
  replace hl : lv_has ls 1 [(0, .ref (ad r0))] := hl
  unfold fX1_team at h
  refine lv_aload_n hx hb dX1_team_0 rfl (lv_at hl 0 rfl) ?_
  refine G_get (ci := 1) (j := 1) (C := RX1) (T := TX1) (N := 14) (v := .int (σ.1 r0 1)) hx hb hg inlX1 hown hK hY (hL _ (gcl_lt hr0 (by decide))) hr0 (by decide) rfl (by decide) tX1_1 (hg _ gw_226) rfl dX1_team_1 ?_
  refine lv_iconst (v := 3) hx hb dX1_team_4 (by decide) ?_
  refine lv_irem hx hb dX1_team_5 (by decide +kernel) ?_
  cases h
  exact g_iret hx hb hr hlocks () hY.1 hY.2.1 hY.2.2 rfl rfl (Nat.le_of_ble_eq_true rfl) (Nat.le_of_ble_eq_true rfl) dX1_team_6
theorem ggV_RX1_27_X1_team : GoodIn wsL_law (wsV RX1 27 RX1 yX1_team (Cond.code yX1_team cX1_team 1 (some .int) :: wsL_law)) := g_gi (fun _ h => h) gW_good (List.forall_mem_cons.mpr ⟨⟨gw_396, rfl⟩, List.forall_mem_cons.mpr ⟨⟨gw_223, rfl⟩, List.forall_mem_cons.mpr ⟨⟨gw_224, rfl⟩, List.forall_mem_cons.mpr ⟨⟨gw_63, rfl⟩, fun _ h => nomatch h⟩⟩⟩⟩) ⟨gw_225, rfl⟩
theorem ggI_RX1_34_X11_hasBit : GoodIn wsL_law ([] ++ (Cond.code yX11_hasBit cX11_hasBit 2 (some .boolean) :: wsL_law)) := g_gi (fun _ h => h) gW_good (fun _ h => nomatch h) ⟨gw_221, rfl⟩
section
variable {p : Program} {l : Launch} {e : Env} {s : State} {m : MethodId} {args : Array Value} {below : List Frame} {meth : Method} {c : Code} {D : va_G} {y : Nat → ClassId} {aS : Nat → Nat} {A : Nat → Prop} {L : List Nat} {ad : Nat → Nat} {N : Nat} {res : Int32}
def fX1_isApprovedBy_24 (N : Nat) (σ : gS) (xs0 : Int32) : Option Int32 := if ¬ (xs0 = 0 ∨ xs0 = 1) then none else (some xs0)
set_option maxRecDepth 100000 in
set_option maxHeartbeats 4000000 in
theorem wX1_isApprovedBy_24 {σ : gS} {xs0 : Int32} (hx : p.tables.exec = Jvm.exec) (hb : c.code = cX1_isApprovedBy) (hr : meth.sig.returnType = (some .boolean)) (hml : c.maxLocals = 2) (hown : s.vm.findClass RX1 = some m.cls) (hg : ∀ w ∈ wsL_law, w.before args s = true) (hlocks : meth.locks = false) (hK : gK D y aS s) (hA : ∀ q, s.heap.size ≤ q → A q) (hL : ∀ k, k < 179 → k ∈ L) {H : Heap} {locs : List Loc} {ls : Array Slot} (hY : gY D y A s L ad σ H locs) (hl : lv_has ls 2 []) (h : fX1_isApprovedBy_24 N σ xs0 = some res) : W p l e ({ frames := 1, cells := 0, slots := 0, locals := 21 } : Room) s m args below meth c H locs 0 0 (MQ below (va_Qi (fun (r : Int32) (_ : Unit) => r = res) (fun _ => gO D A (GW L y ad σ)) A) args s 0 0 A) (F0 m 24 ls [.int xs0]) := by
  unfold fX1_isApprovedBy_24 at h
  obtain ⟨z_1, h⟩ := g_guard h
  cases h
  exact g_iret hx hb hr hlocks () hY.1 hY.2.1 hY.2.2 (g_nz (Classical.not_not.mp z_1)) rfl (Nat.le_of_ble_eq_true rfl) (Nat.le_of_ble_eq_true rfl) dX1_isApprovedBy_24
def fX1_isApprovedBy_19 (N : Nat) (σ : gS) : Option Int32 := fX1_isApprovedBy_24 N σ 1
set_option maxRecDepth 100000 in
set_option maxHeartbeats 4000000 in
theorem wX1_isApprovedBy_19 {σ : gS} (hx : p.tables.exec = Jvm.exec) (hb : c.code = cX1_isApprovedBy) (hr : meth.sig.returnType = (some .boolean)) (hml : c.maxLocals = 2) (hown : s.vm.findClass RX1 = some m.cls) (hg : ∀ w ∈ wsL_law, w.before args s = true) (hlocks : meth.locks = false) (hK : gK D y aS s) (hA : ∀ q, s.heap.size ≤ q → A q) (hL : ∀ k, k < 179 → k ∈ L) {H : Heap} {locs : List Loc} {ls : Array Slot} (hY : gY D y A s L ad σ H locs) (hl : lv_has ls 2 []) (h : fX1_isApprovedBy_19 N σ = some res) : W p l e ({ frames := 1, cells := 0, slots := 0, locals := 21 } : Room) s m args below meth c H locs 0 0 (MQ below (va_Qi (fun (r : Int32) (_ : Unit) => r = res) (fun _ => gO D A (GW L y ad σ)) A) args s 0 0 A) (F0 m 19 ls []) := by
  unfold fX1_isApprovedBy_19 at h
  refine lv_iconst (v := 1) hx hb dX1_isApprovedBy_19 (by decide) ?_
  refine lv_goto (tgt := 24) hx hb dX1_isApprovedBy_20 (by decide) ?_
  exact wX1_isApprovedBy_24 hx hb hr hml hown hg hlocks hK hA hL hY (lv_sub hl [] rfl) h
end
def fX1_isApprovedBy (N : Nat) (σ : gS) (r0 : Nat) (x1 : Int32) : Option Int32 := (fX1_team N σ r0).bind fun r_1 => if r_1 = x1 then (fX1_isApprovedBy_19 N σ) else ((fX11_hasBit N σ (σ.1 r0 9) x1).bind fun r_4 => if r_4 = 0 then (fX1_isApprovedBy_24 N σ 0) else (fX1_isApprovedBy_19 N σ))
set_option maxRecDepth 100000 in
set_option maxHeartbeats 4000000 in
theorem kX1_isApprovedBy (l : Launch) (D : va_G) (y : Nat → ClassId) (aS : Nat → Nat) (sz : Nat) (L : List Nat) (hL : ∀ k, k < 179 → k ∈ L) (ad : Nat → Nat) (N : Nat) (σ : gS) (r0 : Nat) (x1 : Int32) (res : Int32) (hr0 : gcl r0 = 1) (h : fX1_isApprovedBy N σ r0 x1 = some res) : Met l yX1_isApprovedBy (Cond.code yX1_isApprovedBy cX1_isApprovedBy 2 (some .boolean) :: wsL_law) ({ frames := 1, cells := 0, slots := 0, locals := 21 } : Room) (va_Pc [.ref (ad r0), .int x1] (gI D y aS (GW L y ad σ) sz)) (va_Qi (fun (r : Int32) (_ : Unit) => r = res) (fun _ => gO D (va_A (GW L y ad σ) sz) (GW L y ad σ)) (va_A (GW L y ad σ) sz)) 0 0 (va_A (GW L y ad σ) sz) := by
  refine g_of (by decide) (Nat.le_of_ble_eq_true rfl) ?_
  intro p e s m below meth c ls A hx hb hr hml hown hg hlocks hin hsz hK hP hD hS hA hAe hl
  rw [← hAe]
  replace hown : s.vm.findClass RX1 = some m.cls := hown
  have hY : gY D y A s L ad σ s.heap [] := ⟨hP, hD, hS⟩
  clear hP hD hS
  replace hl : lv_has ls 2 [(0, .ref (ad r0)), (1, .int x1)] := hl
  unfold fX1_isApprovedBy at h
  refine lv_aload_n hx hb dX1_isApprovedBy_0 rfl (lv_at hl 0 rfl) ?_
  obtain ⟨r_1, e_2, h⟩ := g_bind h
  refine G_ai hY hA (va_runV (As := []) (rest := []) ⟨hx, hb, hml, hown, hg⟩ (kX1_team l D y aS s.heap.size L hL ad N σ r0 _ hr0 e_2) (cwV 0 hg ggV_RX1_27_X1_team rfl rfl rfl (by decide +kernel) ⟨Nat.le_of_ble_eq_true rfl, Nat.le_of_ble_eq_true rfl⟩) (G_pV (q := (RX1, TX1, 14)) hK hY (hL _ (gcl_lt hr0 (by decide))) hr0 (by decide) rfl) rfl rfl hl.1 rfl (lv_room (Nat.le_of_ble_eq_true rfl)) dX1_isApprovedBy_1 ⟨Nat.le_of_ble_eq_true rfl, Nat.le_of_ble_eq_true rfl⟩) ?_
  clear hY
  rintro _ H locs rfl hY
  refine lv_iload_n hx hb dX1_isApprovedBy_4 rfl (lv_at hl 1 rfl) ?_
  refine lv_icmp_eq (tgt := 19) hx hb dX1_isApprovedBy_5 (by decide) (fun z_3 => ?_) (fun z_3 => ?_)
  ·
    rw [if_pos z_3] at h
    exact wX1_isApprovedBy_19 hx hb hr hml hown hg hlocks hK hA hL hY (lv_sub hl [] rfl) h
  ·
    rw [if_neg z_3] at h
    refine lv_aload_n hx hb dX1_isApprovedBy_8 rfl (lv_at hl 0 rfl) ?_
    refine G_get (ci := 1) (j := 9) (C := RX1) (T := TX1) (N := 14) (v := .int (σ.1 r0 9)) hx hb hg inlX1 hown hK hY (hL _ (gcl_lt hr0 (by decide))) hr0 (by decide) rfl (by decide) tX1_9 (hg _ gw_395) rfl dX1_isApprovedBy_9 ?_
    refine lv_iload_n hx hb dX1_isApprovedBy_12 rfl (lv_at hl 1 rfl) ?_
    obtain ⟨r_4, e_5, h⟩ := g_bind h
    refine G_ai hY hA (va_runSN (As := [.int (σ.1 r0 9), .int x1]) (rest := []) ⟨hx, hb, hml, hown, hg⟩ (kX11_hasBit l D y aS H.size L hL ad N σ (σ.1 r0 9) x1 _ e_5) ⟨va_cnB 2 hg ggI_RX1_34_X11_hasBit rfl rfl rfl (hK.2.1 _ (List.mem_of_getElem? (i := 15) rfl)) (hg _ gw_2) (by decide +kernel) ⟨Nat.le_of_ble_eq_true rfl, Nat.le_of_ble_eq_true rfl⟩, (hg _ gw_220), trivial⟩ (G_pS hK hY) rfl rfl hl.1 rfl (lv_room (Nat.le_of_ble_eq_true rfl)) dX1_isApprovedBy_13 ⟨Nat.le_of_ble_eq_true rfl, Nat.le_of_ble_eq_true rfl⟩) ?_
    clear hY
    rintro _ H locs rfl hY
    refine lv_if_eq (tgt := 23) hx hb dX1_isApprovedBy_16 (by decide) (fun z_6 => ?_) (fun z_6 => ?_)
    ·
      rw [if_pos z_6] at h
      refine lv_iconst (v := 0) hx hb dX1_isApprovedBy_23 (by decide) ?_
      exact wX1_isApprovedBy_24 hx hb hr hml hown hg hlocks hK hA hL hY (lv_sub hl [] rfl) h
    ·
      rw [if_neg z_6] at h
      exact wX1_isApprovedBy_19 hx hb hr hml hown hg hlocks hK hA hL hY (lv_sub hl [] rfl) h
section
variable {p : Program} {l : Launch} {e : Env} {s : State} {m : MethodId} {args : Array Value} {below : List Frame} {meth : Method} {c : Code} {D : va_G} {y : Nat → ClassId} {aS : Nat → Nat} {A : Nat → Prop} {L : List Nat} {ad : Nat → Nat} {N : Nat} {res : Int32}
def fX1_fits_21 (N : Nat) (σ : gS) (xs0 : Int32) : Option Int32 := if ¬ (xs0 = 0 ∨ xs0 = 1) then none else (some xs0)
set_option maxRecDepth 100000 in
set_option maxHeartbeats 4000000 in
theorem wX1_fits_21 {σ : gS} {xs0 : Int32} (hx : p.tables.exec = Jvm.exec) (hb : c.code = cX1_fits) (hr : meth.sig.returnType = (some .boolean)) (hml : c.maxLocals = 3) (hown : s.vm.findClass RX1 = some m.cls) (hg : ∀ w ∈ wsL_law, w.before args s = true) (hlocks : meth.locks = false) (hK : gK D y aS s) (hA : ∀ q, s.heap.size ≤ q → A q) (hL : ∀ k, k < 179 → k ∈ L) {H : Heap} {locs : List Loc} {ls : Array Slot} (hY : gY D y A s L ad σ H locs) (hl : lv_has ls 3 []) (h : fX1_fits_21 N σ xs0 = some res) : W p l e ({ frames := 0, cells := 0, slots := 0, locals := 0 } : Room) s m args below meth c H locs 0 0 (MQ below (va_Qi (fun (r : Int32) (_ : Unit) => r = res) (fun _ => gO D A (GW L y ad σ)) A) args s 0 0 A) (F0 m 21 ls [.int xs0]) := by
  unfold fX1_fits_21 at h
  obtain ⟨z_1, h⟩ := g_guard h
  cases h
  exact g_iret hx hb hr hlocks () hY.1 hY.2.1 hY.2.2 (g_nz (Classical.not_not.mp z_1)) rfl (Nat.le_of_ble_eq_true rfl) (Nat.le_of_ble_eq_true rfl) dX1_fits_21
end
def fX1_fits (N : Nat) (σ : gS) (r0 : Nat) (x1 : Int64) : Option Int32 := if (lg_cmp ((x1 ^^^ (σ.2.1 r0 7)) &&& (σ.2.1 r0 6)) 0) = 0 then (fX1_fits_21 N σ 1) else (fX1_fits_21 N σ 0)
set_option maxRecDepth 100000 in
set_option maxHeartbeats 4000000 in
theorem kX1_fits (l : Launch) (D : va_G) (y : Nat → ClassId) (aS : Nat → Nat) (sz : Nat) (L : List Nat) (hL : ∀ k, k < 179 → k ∈ L) (ad : Nat → Nat) (N : Nat) (σ : gS) (r0 : Nat) (x1 : Int64) (res : Int32) (hr0 : gcl r0 = 1) (h : fX1_fits N σ r0 x1 = some res) : Met l yX1_fits (Cond.code yX1_fits cX1_fits 3 (some .boolean) :: wsL_law) ({ frames := 0, cells := 0, slots := 0, locals := 0 } : Room) (va_Pc [.ref (ad r0), .long x1] (gI D y aS (GW L y ad σ) sz)) (va_Qi (fun (r : Int32) (_ : Unit) => r = res) (fun _ => gO D (va_A (GW L y ad σ) sz) (GW L y ad σ)) (va_A (GW L y ad σ) sz)) 0 0 (va_A (GW L y ad σ) sz) := by
  refine g_of (by decide) (Nat.le_of_ble_eq_true rfl) ?_
  intro p e s m below meth c ls A hx hb hr hml hown hg hlocks hin hsz hK hP hD hS hA hAe hl
  rw [← hAe]
  replace hown : s.vm.findClass RX1 = some m.cls := hown
  have hY : gY D y A s L ad σ s.heap [] := ⟨hP, hD, hS⟩
  clear hP hD hS
  replace hl : lv_has ls 3 [(0, .ref (ad r0)), (1, .long x1)] := hl
  unfold fX1_fits at h
  refine lv_lload_n hx hb dX1_fits_0 rfl (lv_at hl 1 rfl) ?_
  refine lv_aload_n hx hb dX1_fits_1 rfl (lv_at hl 0 rfl) ?_
  refine G_get (ci := 1) (j := 7) (C := RX1) (T := TX1) (N := 14) (v := .long (σ.2.1 r0 7)) hx hb hg inlX1 hown hK hY (hL _ (gcl_lt hr0 (by decide))) hr0 (by decide) rfl (by decide) tX1_7 (hg _ gw_280) rfl dX1_fits_2 ?_
  refine lv_lxor hx hb dX1_fits_5 ?_
  refine lv_aload_n hx hb dX1_fits_6 rfl (lv_at hl 0 rfl) ?_
  refine G_get (ci := 1) (j := 6) (C := RX1) (T := TX1) (N := 14) (v := .long (σ.2.1 r0 6)) hx hb hg inlX1 hown hK hY (hL _ (gcl_lt hr0 (by decide))) hr0 (by decide) rfl (by decide) tX1_6 (hg _ gw_281) rfl dX1_fits_7 ?_
  refine lv_land hx hb dX1_fits_10 ?_
  refine lv_lconst (v := 0) hx hb dX1_fits_11 (by decide) ?_
  refine W.lcmp hx hb dX1_fits_12 ?_
  refine lv_if_ne (tgt := 20) hx hb dX1_fits_13 (by decide) (fun z_1 => ?_) (fun z_1 => ?_)
  ·
    rw [if_neg z_1] at h
    refine lv_iconst (v := 0) hx hb dX1_fits_20 (by decide) ?_
    exact wX1_fits_21 hx hb hr hml hown hg hlocks hK hA hL hY (lv_sub hl [] rfl) h
  ·
    rw [if_pos z_1] at h
    refine lv_iconst (v := 1) hx hb dX1_fits_16 (by decide) ?_
    refine lv_goto (tgt := 21) hx hb dX1_fits_17 (by decide) ?_
    exact wX1_fits_21 hx hb hr hml hown hg hlocks hK hA hL hY (lv_sub hl [] rfl) h
section
variable {p : Program} {l : Launch} {e : Env} {s : State} {m : MethodId} {args : Array Value} {below : List Frame} {meth : Method} {c : Code} {D : va_G} {y : Nat → ClassId} {aS : Nat → Nat} {A : Nat → Prop} {L : List Nat} {ad : Nat → Nat} {N : Nat} {res : Int64}
end
def fX1_onto (N : Nat) (σ : gS) (r0 : Nat) (x1 : Int64) : Option Int64 := some ((x1 &&& ((σ.2.1 r0 6) ^^^ (-1))) ||| (σ.2.1 r0 8))
set_option maxRecDepth 100000 in
set_option maxHeartbeats 4000000 in
theorem kX1_onto (l : Launch) (D : va_G) (y : Nat → ClassId) (aS : Nat → Nat) (sz : Nat) (L : List Nat) (hL : ∀ k, k < 179 → k ∈ L) (ad : Nat → Nat) (N : Nat) (σ : gS) (r0 : Nat) (x1 : Int64) (res : Int64) (hr0 : gcl r0 = 1) (h : fX1_onto N σ r0 x1 = some res) : Met l yX1_onto (Cond.code yX1_onto cX1_onto 3 (some .long) :: wsL_law) ({ frames := 0, cells := 0, slots := 0, locals := 0 } : Room) (va_Pc [.ref (ad r0), .long x1] (gI D y aS (GW L y ad σ) sz)) (va_Ql (fun (r : Int64) (_ : Unit) => r = res) (fun _ => gO D (va_A (GW L y ad σ) sz) (GW L y ad σ)) (va_A (GW L y ad σ) sz)) 0 0 (va_A (GW L y ad σ) sz) := by
  refine g_of (by decide) (Nat.le_of_ble_eq_true rfl) ?_
  intro p e s m below meth c ls A hx hb hr hml hown hg hlocks hin hsz hK hP hD hS hA hAe hl
  rw [← hAe]
  replace hown : s.vm.findClass RX1 = some m.cls := hown
  have hY : gY D y A s L ad σ s.heap [] := ⟨hP, hD, hS⟩
  clear hP hD hS
  replace hl : lv_has ls 3 [(0, .ref (ad r0)), (1, .long x1)] := hl
  unfold fX1_onto at h
  refine lv_lload_n hx hb dX1_onto_0 rfl (lv_at hl 1 rfl) ?_
  refine lv_aload_n hx hb dX1_onto_1 rfl (lv_at hl 0 rfl) ?_
  refine G_get (ci := 1) (j := 6) (C := RX1) (T := TX1) (N := 14) (v := .long (σ.2.1 r0 6)) hx hb hg inlX1 hown hK hY (hL _ (gcl_lt hr0 (by decide))) hr0 (by decide) rfl (by decide) tX1_6 (hg _ gw_281) rfl dX1_onto_2 ?_
  refine lv_ldc2 (v := (-1)) hx hb hown (hg _ gw_286) dX1_onto_5 ?_
  refine lv_lxor hx hb dX1_onto_8 ?_
  refine lv_land hx hb dX1_onto_9 ?_
  refine lv_aload_n hx hb dX1_onto_10 rfl (lv_at hl 0 rfl) ?_
  refine G_get (ci := 1) (j := 8) (C := RX1) (T := TX1) (N := 14) (v := .long (σ.2.1 r0 8)) hx hb hg inlX1 hown hK hY (hL _ (gcl_lt hr0 (by decide))) hr0 (by decide) rfl (by decide) tX1_8 (hg _ gw_287) rfl dX1_onto_11 ?_
  refine lv_lor hx hb dX1_onto_14 ?_
  cases h
  exact g_lret hx hb hr hlocks () hY.1 hY.2.1 hY.2.2 rfl (Nat.le_of_ble_eq_true rfl) (Nat.le_of_ble_eq_true rfl) dX1_onto_15
section
variable {p : Program} {l : Launch} {e : Env} {s : State} {m : MethodId} {args : Array Value} {below : List Frame} {meth : Method} {c : Code} {D : va_G} {y : Nat → ClassId} {aS : Nat → Nat} {A : Nat → Prop} {L : List Nat} {ad : Nat → Nat} {N : Nat} {res : Int32}
def fX1_standsOn_26 (N : Nat) (σ : gS) (xs0 : Int32) : Option Int32 := if ¬ (xs0 = 0 ∨ xs0 = 1) then none else (some xs0)
set_option maxRecDepth 100000 in
set_option maxHeartbeats 4000000 in
theorem wX1_standsOn_26 {σ : gS} {xs0 : Int32} (hx : p.tables.exec = Jvm.exec) (hb : c.code = cX1_standsOn) (hr : meth.sig.returnType = (some .boolean)) (hml : c.maxLocals = 3) (hown : s.vm.findClass RX1 = some m.cls) (hg : ∀ w ∈ wsL_law, w.before args s = true) (hlocks : meth.locks = false) (hK : gK D y aS s) (hA : ∀ q, s.heap.size ≤ q → A q) (hL : ∀ k, k < 179 → k ∈ L) {H : Heap} {locs : List Loc} {ls : Array Slot} (hY : gY D y A s L ad σ H locs) (hl : lv_has ls 3 []) (h : fX1_standsOn_26 N σ xs0 = some res) : W p l e ({ frames := 0, cells := 0, slots := 0, locals := 0 } : Room) s m args below meth c H locs 0 0 (MQ below (va_Qi (fun (r : Int32) (_ : Unit) => r = res) (fun _ => gO D A (GW L y ad σ)) A) args s 0 0 A) (F0 m 26 ls [.int xs0]) := by
  unfold fX1_standsOn_26 at h
  obtain ⟨z_1, h⟩ := g_guard h
  cases h
  exact g_iret hx hb hr hlocks () hY.1 hY.2.1 hY.2.2 (g_nz (Classical.not_not.mp z_1)) rfl (Nat.le_of_ble_eq_true rfl) (Nat.le_of_ble_eq_true rfl) dX1_standsOn_26
def fX1_standsOn_21 (N : Nat) (σ : gS) : Option Int32 := fX1_standsOn_26 N σ 1
set_option maxRecDepth 100000 in
set_option maxHeartbeats 4000000 in
theorem wX1_standsOn_21 {σ : gS} (hx : p.tables.exec = Jvm.exec) (hb : c.code = cX1_standsOn) (hr : meth.sig.returnType = (some .boolean)) (hml : c.maxLocals = 3) (hown : s.vm.findClass RX1 = some m.cls) (hg : ∀ w ∈ wsL_law, w.before args s = true) (hlocks : meth.locks = false) (hK : gK D y aS s) (hA : ∀ q, s.heap.size ≤ q → A q) (hL : ∀ k, k < 179 → k ∈ L) {H : Heap} {locs : List Loc} {ls : Array Slot} (hY : gY D y A s L ad σ H locs) (hl : lv_has ls 3 []) (h : fX1_standsOn_21 N σ = some res) : W p l e ({ frames := 0, cells := 0, slots := 0, locals := 0 } : Room) s m args below meth c H locs 0 0 (MQ below (va_Qi (fun (r : Int32) (_ : Unit) => r = res) (fun _ => gO D A (GW L y ad σ)) A) args s 0 0 A) (F0 m 21 ls []) := by
  unfold fX1_standsOn_21 at h
  refine lv_iconst (v := 1) hx hb dX1_standsOn_21 (by decide) ?_
  refine lv_goto (tgt := 26) hx hb dX1_standsOn_22 (by decide) ?_
  exact wX1_standsOn_26 hx hb hr hml hown hg hlocks hK hA hL hY (lv_sub hl [] rfl) h
end
def fX1_standsOn (N : Nat) (σ : gS) (r0 : Nat) (x1 : Int64) : Option Int32 := if (σ.1 r0 2) = (-1) then (fX1_standsOn_21 N σ) else (if (lg_cmp (((x1.toUInt64 >>> ((σ.1 r0 2).toInt64.toUInt64 &&& Int64.toUInt64 63)).toInt64) &&& 1) 0) = 0 then (fX1_standsOn_26 N σ 0) else (fX1_standsOn_21 N σ))
set_option maxRecDepth 100000 in
set_option maxHeartbeats 4000000 in
theorem kX1_standsOn (l : Launch) (D : va_G) (y : Nat → ClassId) (aS : Nat → Nat) (sz : Nat) (L : List Nat) (hL : ∀ k, k < 179 → k ∈ L) (ad : Nat → Nat) (N : Nat) (σ : gS) (r0 : Nat) (x1 : Int64) (res : Int32) (hr0 : gcl r0 = 1) (h : fX1_standsOn N σ r0 x1 = some res) : Met l yX1_standsOn (Cond.code yX1_standsOn cX1_standsOn 3 (some .boolean) :: wsL_law) ({ frames := 0, cells := 0, slots := 0, locals := 0 } : Room) (va_Pc [.ref (ad r0), .long x1] (gI D y aS (GW L y ad σ) sz)) (va_Qi (fun (r : Int32) (_ : Unit) => r = res) (fun _ => gO D (va_A (GW L y ad σ) sz) (GW L y ad σ)) (va_A (GW L y ad σ) sz)) 0 0 (va_A (GW L y ad σ) sz) := by
  refine g_of (by decide) (Nat.le_of_ble_eq_true rfl) ?_
  intro p e s m below meth c ls A hx hb hr hml hown hg hlocks hin hsz hK hP hD hS hA hAe hl
  rw [← hAe]
  replace hown : s.vm.findClass RX1 = some m.cls := hown
  have hY : gY D y A s L ad σ s.heap [] := ⟨hP, hD, hS⟩
  clear hP hD hS
  replace hl : lv_has ls 3 [(0, .ref (ad r0)), (1, .long x1)] := hl
  unfold fX1_standsOn at h
  refine lv_aload_n hx hb dX1_standsOn_0 rfl (lv_at hl 0 rfl) ?_
  refine G_get (ci := 1) (j := 2) (C := RX1) (T := TX1) (N := 14) (v := .int (σ.1 r0 2)) hx hb hg inlX1 hown hK hY (hL _ (gcl_lt hr0 (by decide))) hr0 (by decide) rfl (by decide) tX1_2 (hg _ gw_70) rfl dX1_standsOn_1 ?_
  refine lv_iconst (v := (-1)) hx hb dX1_standsOn_4 (by decide) ?_
  refine lv_icmp_eq (tgt := 21) hx hb dX1_standsOn_5 (by decide) (fun z_1 => ?_) (fun z_1 => ?_)
  ·
    rw [if_pos z_1] at h
    exact wX1_standsOn_21 hx hb hr hml hown hg hlocks hK hA hL hY (lv_sub hl [] rfl) h
  ·
    rw [if_neg z_1] at h
    refine lv_lload_n hx hb dX1_standsOn_8 rfl (lv_at hl 1 rfl) ?_
    refine lv_aload_n hx hb dX1_standsOn_9 rfl (lv_at hl 0 rfl) ?_
    refine G_get (ci := 1) (j := 2) (C := RX1) (T := TX1) (N := 14) (v := .int (σ.1 r0 2)) hx hb hg inlX1 hown hK hY (hL _ (gcl_lt hr0 (by decide))) hr0 (by decide) rfl (by decide) tX1_2 (hg _ gw_70) rfl dX1_standsOn_10 ?_
    refine lv_lushr (v := ((x1.toUInt64 >>> ((σ.1 r0 2).toInt64.toUInt64 &&& Int64.toUInt64 63)).toInt64)) hx hb dX1_standsOn_13 rfl ?_
    refine lv_lconst (v := 1) hx hb dX1_standsOn_14 (by decide) ?_
    refine lv_land hx hb dX1_standsOn_15 ?_
    refine lv_lconst (v := 0) hx hb dX1_standsOn_16 (by decide) ?_
    refine W.lcmp hx hb dX1_standsOn_17 ?_
    refine lv_if_eq (tgt := 25) hx hb dX1_standsOn_18 (by decide) (fun z_2 => ?_) (fun z_2 => ?_)
    ·
      rw [if_pos z_2] at h
      refine lv_iconst (v := 0) hx hb dX1_standsOn_25 (by decide) ?_
      exact wX1_standsOn_26 hx hb hr hml hown hg hlocks hK hA hL hY (lv_sub hl [] rfl) h
    ·
      rw [if_neg z_2] at h
      exact wX1_standsOn_21 hx hb hr hml hown hg hlocks hK hA hL hY (lv_sub hl [] rfl) h
section
variable {p : Program} {l : Launch} {e : Env} {s : State} {m : MethodId} {args : Array Value} {below : List Frame} {meth : Method} {c : Code} {D : va_G} {y : Nat → ClassId} {aS : Nat → Nat} {A : Nat → Prop} {L : List Nat} {ad : Nat → Nat} {N : Nat} {res : gS}
end
def fX1_setEdit (N : Nat) (σ : gS) (r0 : Nat) (x1 : Int32) (x2 : Int32) : Option gS := some (sJ (sJ (sI σ r0 5 ((σ.1 r0 5) ||| ((1 : Int32) <<< (x1 &&& 31)))) r0 6 (((sI σ r0 5 ((σ.1 r0 5) ||| ((1 : Int32) <<< (x1 &&& 31)))).2.1 r0 6) ||| (((15 : Int64) <<< ((4 * x1).toInt64 &&& 63))))) r0 8 ((((sJ (sI σ r0 5 ((σ.1 r0 5) ||| ((1 : Int32) <<< (x1 &&& 31)))) r0 6 (((sI σ r0 5 ((σ.1 r0 5) ||| ((1 : Int32) <<< (x1 &&& 31)))).2.1 r0 6) ||| (((15 : Int64) <<< ((4 * x1).toInt64 &&& 63))))).2.1 r0 8) &&& ((((15 : Int64) <<< ((4 * x1).toInt64 &&& 63))) ^^^ (-1))) ||| (((x2.toInt64) <<< ((4 * x1).toInt64 &&& 63)))))
set_option maxRecDepth 100000 in
set_option maxHeartbeats 4000000 in
theorem kX1_setEdit (l : Launch) (D : va_G) (y : Nat → ClassId) (aS : Nat → Nat) (sz : Nat) (L : List Nat) (hL : ∀ k, k < 179 → k ∈ L) (ad : Nat → Nat) (N : Nat) (σ : gS) (r0 : Nat) (x1 : Int32) (x2 : Int32) (res : gS) (hr0 : gcl r0 = 1) (h : fX1_setEdit N σ r0 x1 x2 = some res) : Met l yX1_setEdit (Cond.code yX1_setEdit cX1_setEdit 5 none :: wsL_law) ({ frames := 0, cells := 0, slots := 0, locals := 0 } : Room) (va_Pc [.ref (ad r0), .int x1, .int x2] (gI D y aS (GW L y ad σ) sz)) (va_Qv (fun (_ : Unit) => True) (fun _ => gO D (va_A (GW L y ad σ) sz) (GW L y ad res)) (va_A (GW L y ad σ) sz)) 0 0 (va_A (GW L y ad σ) sz) := by
  refine g_of (by decide) (Nat.le_of_ble_eq_true rfl) ?_
  intro p e s m below meth c ls A hx hb hr hml hown hg hlocks hin hsz hK hP hD hS hA hAe hl
  rw [← hAe]
  replace hown : s.vm.findClass RX1 = some m.cls := hown
  have hY : gY D y A s L ad σ s.heap [] := ⟨hP, hD, hS⟩
  clear hP hD hS
  replace hl : lv_has ls 5 [(0, .ref (ad r0)), (1, .int x1), (2, .int x2)] := hl
  unfold fX1_setEdit at h
  refine lv_ldc2 (v := 15) hx hb hown (hg _ gw_350) dX1_setEdit_0 ?_
  refine lv_iconst (v := 4) hx hb dX1_setEdit_3 (by decide) ?_
  refine lv_iload_n hx hb dX1_setEdit_4 rfl (lv_at hl 1 rfl) ?_
  refine lv_imul hx hb dX1_setEdit_5 ?_
  refine lv_lshl (v := (((15 : Int64) <<< ((4 * x1).toInt64 &&& 63)))) hx hb dX1_setEdit_6 rfl ?_
  refine lv_lstore_n (lv' := [(3, .long (((15 : Int64) <<< ((4 * x1).toInt64 &&& 63)))), (0, .ref (ad r0)), (1, .int x1), (2, .int x2)]) hx hb dX1_setEdit_7 rfl hl (by decide) rfl ?_
  clear hl
  intro ls hl
  refine lv_aload_n hx hb dX1_setEdit_8 rfl (lv_at hl 1 rfl) ?_
  refine lv_dup hx hb dX1_setEdit_9 rfl ?_
  refine G_get (ci := 1) (j := 5) (C := RX1) (T := TX1) (N := 14) (v := .int (σ.1 r0 5)) hx hb hg inlX1 hown hK hY (hL _ (gcl_lt hr0 (by decide))) hr0 (by decide) rfl (by decide) tX1_5 (hg _ gw_351) rfl dX1_setEdit_10 ?_
  refine lv_iconst (v := 1) hx hb dX1_setEdit_13 (by decide) ?_
  refine lv_iload_n hx hb dX1_setEdit_14 rfl (lv_at hl 2 rfl) ?_
  refine lv_ishl hx hb dX1_setEdit_15 ?_
  refine lv_ior hx hb dX1_setEdit_16 ?_
  refine G_putI (ci := 1) (j := 5) (C := RX1) (T := TX1) (N := 14) (v := ((σ.1 r0 5) ||| ((1 : Int32) <<< (x1 &&& 31)))) (ty := .int) hx hb hg inlX1 tyX1 tyX1_ok nmX1 hown hK hY (hL _ (gcl_lt hr0 (by decide))) hr0 (by decide) rfl (by decide) tX1_5 (hg _ gw_351) (by decide +kernel) rfl rfl (fun _ _ => rfl) (fun _ _ => Nat.le_of_ble_eq_true rfl) dX1_setEdit_17 ?_
  clear hY
  intro H locs hY
  refine lv_aload_n hx hb dX1_setEdit_20 rfl (lv_at hl 1 rfl) ?_
  refine lv_dup hx hb dX1_setEdit_21 rfl ?_
  refine G_get (ci := 1) (j := 6) (C := RX1) (T := TX1) (N := 14) (v := .long ((sI σ r0 5 ((σ.1 r0 5) ||| ((1 : Int32) <<< (x1 &&& 31)))).2.1 r0 6)) hx hb hg inlX1 hown hK hY (hL _ (gcl_lt hr0 (by decide))) hr0 (by decide) rfl (by decide) tX1_6 (hg _ gw_281) rfl dX1_setEdit_22 ?_
  refine lv_lload_n hx hb dX1_setEdit_25 rfl (lv_at hl 0 rfl) ?_
  refine lv_lor hx hb dX1_setEdit_26 ?_
  refine G_putJ (ci := 1) (j := 6) (C := RX1) (T := TX1) (N := 14) (v := (((sI σ r0 5 ((σ.1 r0 5) ||| ((1 : Int32) <<< (x1 &&& 31)))).2.1 r0 6) ||| (((15 : Int64) <<< ((4 * x1).toInt64 &&& 63))))) (ty := .long) hx hb hg inlX1 tyX1 tyX1_ok nmX1 hown hK hY (hL _ (gcl_lt hr0 (by decide))) hr0 (by decide) rfl (by decide) tX1_6 (hg _ gw_281) (by decide +kernel) rfl rfl (fun _ _ => rfl) (fun _ _ => Nat.le_of_ble_eq_true rfl) dX1_setEdit_27 ?_
  clear hY
  intro H locs hY
  refine lv_aload_n hx hb dX1_setEdit_30 rfl (lv_at hl 1 rfl) ?_
  refine lv_aload_n hx hb dX1_setEdit_31 rfl (lv_at hl 1 rfl) ?_
  refine G_get (ci := 1) (j := 8) (C := RX1) (T := TX1) (N := 14) (v := .long ((sJ (sI σ r0 5 ((σ.1 r0 5) ||| ((1 : Int32) <<< (x1 &&& 31)))) r0 6 (((sI σ r0 5 ((σ.1 r0 5) ||| ((1 : Int32) <<< (x1 &&& 31)))).2.1 r0 6) ||| (((15 : Int64) <<< ((4 * x1).toInt64 &&& 63))))).2.1 r0 8)) hx hb hg inlX1 hown hK hY (hL _ (gcl_lt hr0 (by decide))) hr0 (by decide) rfl (by decide) tX1_8 (hg _ gw_287) rfl dX1_setEdit_32 ?_
  refine lv_lload_n hx hb dX1_setEdit_35 rfl (lv_at hl 0 rfl) ?_
  refine lv_ldc2 (v := (-1)) hx hb hown (hg _ gw_286) dX1_setEdit_36 ?_
  refine lv_lxor hx hb dX1_setEdit_39 ?_
  refine lv_land hx hb dX1_setEdit_40 ?_
  refine lv_iload_n hx hb dX1_setEdit_41 rfl (lv_at hl 3 rfl) ?_
  refine lv_i2l (v := (x2.toInt64)) hx hb dX1_setEdit_42 rfl ?_
  refine lv_iconst (v := 4) hx hb dX1_setEdit_43 (by decide) ?_
  refine lv_iload_n hx hb dX1_setEdit_44 rfl (lv_at hl 2 rfl) ?_
  refine lv_imul hx hb dX1_setEdit_45 ?_
  refine lv_lshl (v := (((x2.toInt64) <<< ((4 * x1).toInt64 &&& 63)))) hx hb dX1_setEdit_46 rfl ?_
  refine lv_lor hx hb dX1_setEdit_47 ?_
  refine G_putJ (ci := 1) (j := 8) (C := RX1) (T := TX1) (N := 14) (v := ((((sJ (sI σ r0 5 ((σ.1 r0 5) ||| ((1 : Int32) <<< (x1 &&& 31)))) r0 6 (((sI σ r0 5 ((σ.1 r0 5) ||| ((1 : Int32) <<< (x1 &&& 31)))).2.1 r0 6) ||| (((15 : Int64) <<< ((4 * x1).toInt64 &&& 63))))).2.1 r0 8) &&& ((((15 : Int64) <<< ((4 * x1).toInt64 &&& 63))) ^^^ (-1))) ||| (((x2.toInt64) <<< ((4 * x1).toInt64 &&& 63))))) (ty := .long) hx hb hg inlX1 tyX1 tyX1_ok nmX1 hown hK hY (hL _ (gcl_lt hr0 (by decide))) hr0 (by decide) rfl (by decide) tX1_8 (hg _ gw_287) (by decide +kernel) rfl rfl (fun _ _ => rfl) (fun _ _ => Nat.le_of_ble_eq_true rfl) dX1_setEdit_48 ?_
  clear hY
  intro H locs hY
  cases h
  exact g_vret hx hb hr hlocks () hY.1 hY.2.1 hY.2.2 trivial (Nat.le_of_ble_eq_true rfl) (Nat.le_of_ble_eq_true rfl) dX1_setEdit_51
theorem ggI_RX1_55_X11_contentIn : GoodIn wsL_law ([] ++ (Cond.code yX11_contentIn cX11_contentIn 3 (some .int) :: wsL_law)) := g_gi (fun _ h => h) gW_good (fun _ h => nomatch h) ⟨gw_369, rfl⟩
section
variable {p : Program} {l : Launch} {e : Env} {s : State} {m : MethodId} {args : Array Value} {below : List Frame} {meth : Method} {c : Code} {D : va_G} {y : Nat → ClassId} {aS : Nat → Nat} {A : Nat → Prop} {L : List Nat} {ad : Nat → Nat} {N : Nat} {res : Int32}
def fX1_hasIdleEditOn_37 (N : Nat) (rec2 : Int32 → Option Int32) (σ : gS) (r0 : Nat) (x1 : Int64) (x3 : Int32) : Option Int32 := rec2 (x3 + 1)
set_option maxRecDepth 100000 in
set_option maxHeartbeats 4000000 in
theorem wX1_hasIdleEditOn_37 {rec2 : Int32 → Option Int32} {σ : gS} {r0 : Nat} {x1 : Int64} {x3 : Int32} (hx : p.tables.exec = Jvm.exec) (hb : c.code = cX1_hasIdleEditOn) (hr : meth.sig.returnType = (some .boolean)) (hml : c.maxLocals = 4) (hown : s.vm.findClass RX1 = some m.cls) (hg : ∀ w ∈ wsL_law, w.before args s = true) (hlocks : meth.locks = false) (hK : gK D y aS s) (hA : ∀ q, s.heap.size ≤ q → A q) (hL : ∀ k, k < 179 → k ∈ L) (hrec2 : ∀ {x3n9 : Int32} (H : Heap) (locs : List Loc) (ls : Array Slot), gY D y A s L ad σ H locs → lv_has ls 4 [(0, .ref (ad r0)), (1, .long x1), (3, .int x3n9)] → rec2 x3n9 = some res → W p l e ({ frames := 1, cells := 0, slots := 0, locals := 22 } : Room) s m args below meth c H locs 0 0 (MQ below (va_Qi (fun (r : Int32) (_ : Unit) => r = res) (fun _ => gO D A (GW L y ad σ)) A) args s 0 0 A) (F0 m 2 ls [])) (hr0 : gcl r0 = 1) {H : Heap} {locs : List Loc} {ls : Array Slot} (hY : gY D y A s L ad σ H locs) (hl : lv_has ls 4 [(0, .ref (ad r0)), (1, .long x1), (3, .int x3)]) (h : fX1_hasIdleEditOn_37 N rec2 σ r0 x1 x3 = some res) : W p l e ({ frames := 1, cells := 0, slots := 0, locals := 22 } : Room) s m args below meth c H locs 0 0 (MQ below (va_Qi (fun (r : Int32) (_ : Unit) => r = res) (fun _ => gO D A (GW L y ad σ)) A) args s 0 0 A) (F0 m 37 ls []) := by
  unfold fX1_hasIdleEditOn_37 at h
  refine lv_iinc (v := (x3 + 1)) (lv' := [(3, .int (x3 + 1)), (0, .ref (ad r0)), (1, .long x1)]) hx hb dX1_hasIdleEditOn_37 hl (k := 2) rfl rfl (by decide) rfl ?_
  clear hl
  intro ls hl
  refine lv_goto (tgt := 2) hx hb dX1_hasIdleEditOn_40 (by decide) ?_
  exact hrec2 _ _ _ hY (lv_sub hl [1, 2, 0] rfl) h
def fX1_hasIdleEditOn_2 (N : Nat) (σ : gS) (r0 : Nat) (x1 : Int64) (rec2 : Int32 → Option Int32) (x3 : Int32) : Option Int32 := if 12 ≤ x3 then (some 0) else ((fX11_hasBit N σ (σ.1 r0 5) x3).bind fun r_2 => if r_2 = 0 then (fX1_hasIdleEditOn_37 N rec2 σ r0 x1 x3) else ((fX11_contentIn N σ x1 x3).bind fun r_5 => (fX11_contentIn N σ (σ.2.1 r0 8) x3).bind fun r_7 => if r_5 = r_7 then (some 1) else (fX1_hasIdleEditOn_37 N rec2 σ r0 x1 x3)))
set_option maxRecDepth 100000 in
set_option maxHeartbeats 4000000 in
theorem wX1_hasIdleEditOn_2 {σ : gS} {r0 : Nat} {x1 : Int64} (hx : p.tables.exec = Jvm.exec) (hb : c.code = cX1_hasIdleEditOn) (hr : meth.sig.returnType = (some .boolean)) (hml : c.maxLocals = 4) (hown : s.vm.findClass RX1 = some m.cls) (hg : ∀ w ∈ wsL_law, w.before args s = true) (hlocks : meth.locks = false) (hK : gK D y aS s) (hA : ∀ q, s.heap.size ≤ q → A q) (hL : ∀ k, k < 179 → k ∈ L) (hr0 : gcl r0 = 1) : ∀ (n : Nat) {x3 : Int32} (H : Heap) (locs : List Loc) (ls : Array Slot), gY D y A s L ad σ H locs → lv_has ls 4 [(0, .ref (ad r0)), (1, .long x1), (3, .int x3)] → lp (fX1_hasIdleEditOn_2 N σ r0 x1) n x3 = some res → W p l e ({ frames := 1, cells := 0, slots := 0, locals := 22 } : Room) s m args below meth c H locs 0 0 (MQ below (va_Qi (fun (r : Int32) (_ : Unit) => r = res) (fun _ => gO D A (GW L y ad σ)) A) args s 0 0 A) (F0 m 2 ls []) := by
  intro n
  induction n with
  | zero => intro x3 H locs ls hY hl h; exact nomatch (show none = some res from h)
  | succ n hrec2 =>
    intro x3 H locs ls hY hl h
    replace h : fX1_hasIdleEditOn_2 N σ r0 x1 (lp (fX1_hasIdleEditOn_2 N σ r0 x1) n) x3 = some res := h
    generalize lp (fX1_hasIdleEditOn_2 N σ r0 x1) n = rec2 at h hrec2
    unfold fX1_hasIdleEditOn_2 at h
    try dsimp only at h
    refine lv_iload_n hx hb dX1_hasIdleEditOn_2 rfl (lv_at hl 2 rfl) ?_
    refine lv_bipush (v := 12) hx hb dX1_hasIdleEditOn_3 (by decide +kernel) ?_
    refine lv_icmp_ge (tgt := 43) hx hb dX1_hasIdleEditOn_5 (by decide) (fun z_1 => ?_) (fun z_1 => ?_)
    ·
      rw [if_pos z_1] at h
      refine lv_iconst (v := 0) hx hb dX1_hasIdleEditOn_43 (by decide) ?_
      cases h
      exact g_iret hx hb hr hlocks () hY.1 hY.2.1 hY.2.2 rfl rfl (Nat.le_of_ble_eq_true rfl) (Nat.le_of_ble_eq_true rfl) dX1_hasIdleEditOn_44
    ·
      rw [if_neg z_1] at h
      refine lv_aload_n hx hb dX1_hasIdleEditOn_8 rfl (lv_at hl 0 rfl) ?_
      refine G_get (ci := 1) (j := 5) (C := RX1) (T := TX1) (N := 14) (v := .int (σ.1 r0 5)) hx hb hg inlX1 hown hK hY (hL _ (gcl_lt hr0 (by decide))) hr0 (by decide) rfl (by decide) tX1_5 (hg _ gw_351) rfl dX1_hasIdleEditOn_9 ?_
      refine lv_iload_n hx hb dX1_hasIdleEditOn_12 rfl (lv_at hl 2 rfl) ?_
      obtain ⟨r_2, e_3, h⟩ := g_bind h
      refine G_ai hY hA (va_runSN (As := [.int (σ.1 r0 5), .int x3]) (rest := []) ⟨hx, hb, hml, hown, hg⟩ (kX11_hasBit l D y aS H.size L hL ad N σ (σ.1 r0 5) x3 _ e_3) ⟨va_cnB 2 hg ggI_RX1_34_X11_hasBit rfl rfl rfl (hK.2.1 _ (List.mem_of_getElem? (i := 15) rfl)) (hg _ gw_2) (by decide +kernel) ⟨Nat.le_of_ble_eq_true rfl, Nat.le_of_ble_eq_true rfl⟩, (hg _ gw_220), trivial⟩ (G_pS hK hY) rfl rfl hl.1 rfl (lv_room (Nat.le_of_ble_eq_true rfl)) dX1_hasIdleEditOn_13 ⟨Nat.le_of_ble_eq_true rfl, Nat.le_of_ble_eq_true rfl⟩) ?_
      clear hY
      rintro _ H locs rfl hY
      refine lv_if_eq (tgt := 37) hx hb dX1_hasIdleEditOn_16 (by decide) (fun z_4 => ?_) (fun z_4 => ?_)
      ·
        rw [if_pos z_4] at h
        exact wX1_hasIdleEditOn_37 hx hb hr hml hown hg hlocks hK hA hL hrec2 hr0 hY (lv_sub hl [0, 1, 2] rfl) h
      ·
        rw [if_neg z_4] at h
        refine lv_lload_n hx hb dX1_hasIdleEditOn_19 rfl (lv_at hl 1 rfl) ?_
        refine lv_iload_n hx hb dX1_hasIdleEditOn_20 rfl (lv_at hl 2 rfl) ?_
        obtain ⟨r_5, e_6, h⟩ := g_bind h
        refine G_ai hY hA (va_runSN (As := [.long x1, .int x3]) (rest := []) ⟨hx, hb, hml, hown, hg⟩ (kX11_contentIn l D y aS H.size L hL ad N σ x1 x3 _ e_6) ⟨va_cnB 2 hg ggI_RX1_55_X11_contentIn rfl rfl rfl (hK.2.1 _ (List.mem_of_getElem? (i := 16) rfl)) (hg _ gw_2) (by decide +kernel) ⟨Nat.le_of_ble_eq_true rfl, Nat.le_of_ble_eq_true rfl⟩, (hg _ gw_368), trivial⟩ (G_pS hK hY) rfl rfl hl.1 rfl (lv_room (Nat.le_of_ble_eq_true rfl)) dX1_hasIdleEditOn_21 ⟨Nat.le_of_ble_eq_true rfl, Nat.le_of_ble_eq_true rfl⟩) ?_
        clear hY
        rintro _ H locs rfl hY
        refine lv_aload_n hx hb dX1_hasIdleEditOn_24 rfl (lv_at hl 0 rfl) ?_
        refine G_get (ci := 1) (j := 8) (C := RX1) (T := TX1) (N := 14) (v := .long (σ.2.1 r0 8)) hx hb hg inlX1 hown hK hY (hL _ (gcl_lt hr0 (by decide))) hr0 (by decide) rfl (by decide) tX1_8 (hg _ gw_287) rfl dX1_hasIdleEditOn_25 ?_
        refine lv_iload_n hx hb dX1_hasIdleEditOn_28 rfl (lv_at hl 2 rfl) ?_
        obtain ⟨r_7, e_8, h⟩ := g_bind h
        refine G_ai hY hA (va_runSN (As := [.long (σ.2.1 r0 8), .int x3]) (rest := [.int r_5]) ⟨hx, hb, hml, hown, hg⟩ (kX11_contentIn l D y aS H.size L hL ad N σ (σ.2.1 r0 8) x3 _ e_8) ⟨va_cnB 2 hg ggI_RX1_55_X11_contentIn rfl rfl rfl (hK.2.1 _ (List.mem_of_getElem? (i := 16) rfl)) (hg _ gw_2) (by decide +kernel) ⟨Nat.le_of_ble_eq_true rfl, Nat.le_of_ble_eq_true rfl⟩, (hg _ gw_368), trivial⟩ (G_pS hK hY) rfl rfl hl.1 rfl (lv_room (Nat.le_of_ble_eq_true rfl)) dX1_hasIdleEditOn_29 ⟨Nat.le_of_ble_eq_true rfl, Nat.le_of_ble_eq_true rfl⟩) ?_
        clear hY
        rintro _ H locs rfl hY
        refine lv_icmp_ne (tgt := 37) hx hb dX1_hasIdleEditOn_32 (by decide) (fun z_9 => ?_) (fun z_9 => ?_)
        ·
          rw [if_neg z_9] at h
          exact wX1_hasIdleEditOn_37 hx hb hr hml hown hg hlocks hK hA hL hrec2 hr0 hY (lv_sub hl [0, 1, 2] rfl) h
        ·
          rw [if_pos z_9] at h
          refine lv_iconst (v := 1) hx hb dX1_hasIdleEditOn_35 (by decide) ?_
          cases h
          exact g_iret hx hb hr hlocks () hY.1 hY.2.1 hY.2.2 rfl rfl (Nat.le_of_ble_eq_true rfl) (Nat.le_of_ble_eq_true rfl) dX1_hasIdleEditOn_36
end
def fX1_hasIdleEditOn (N : Nat) (σ : gS) (r0 : Nat) (x1 : Int64) : Option Int32 := lp (fX1_hasIdleEditOn_2 N σ r0 x1) N 0
set_option maxRecDepth 100000 in
set_option maxHeartbeats 4000000 in
theorem kX1_hasIdleEditOn (l : Launch) (D : va_G) (y : Nat → ClassId) (aS : Nat → Nat) (sz : Nat) (L : List Nat) (hL : ∀ k, k < 179 → k ∈ L) (ad : Nat → Nat) (N : Nat) (σ : gS) (r0 : Nat) (x1 : Int64) (res : Int32) (hr0 : gcl r0 = 1) (h : fX1_hasIdleEditOn N σ r0 x1 = some res) : Met l yX1_hasIdleEditOn (Cond.code yX1_hasIdleEditOn cX1_hasIdleEditOn 4 (some .boolean) :: wsL_law) ({ frames := 1, cells := 0, slots := 0, locals := 22 } : Room) (va_Pc [.ref (ad r0), .long x1] (gI D y aS (GW L y ad σ) sz)) (va_Qi (fun (r : Int32) (_ : Unit) => r = res) (fun _ => gO D (va_A (GW L y ad σ) sz) (GW L y ad σ)) (va_A (GW L y ad σ) sz)) 0 0 (va_A (GW L y ad σ) sz) := by
  refine g_of (by decide) (Nat.le_of_ble_eq_true rfl) ?_
  intro p e s m below meth c ls A hx hb hr hml hown hg hlocks hin hsz hK hP hD hS hA hAe hl
  rw [← hAe]
  replace hown : s.vm.findClass RX1 = some m.cls := hown
  have hY : gY D y A s L ad σ s.heap [] := ⟨hP, hD, hS⟩
  clear hP hD hS
  replace hl : lv_has ls 4 [(0, .ref (ad r0)), (1, .long x1)] := hl
  unfold fX1_hasIdleEditOn at h
  refine lv_iconst (v := 0) hx hb dX1_hasIdleEditOn_0 (by decide) ?_
  refine lv_istore_n (lv' := [(3, .int 0), (0, .ref (ad r0)), (1, .long x1)]) hx hb dX1_hasIdleEditOn_1 rfl hl (by decide) rfl ?_
  clear hl
  intro ls hl
  exact wX1_hasIdleEditOn_2 hx hb hr hml hown hg hlocks hK hA hL hr0 N _ _ _ hY (lv_sub hl [1, 2, 0] rfl) h
section
variable {p : Program} {l : Launch} {e : Env} {s : State} {m : MethodId} {args : Array Value} {below : List Frame} {meth : Method} {c : Code} {D : va_G} {y : Nat → ClassId} {aS : Nat → Nat} {A : Nat → Prop} {L : List Nat} {ad : Nat → Nat} {N : Nat} {res : Int32}
def fX1_isAheadOf_62 (N : Nat) (σ : gS) (xs0 : Int32) : Option Int32 := if ¬ (xs0 = 0 ∨ xs0 = 1) then none else (some xs0)
set_option maxRecDepth 100000 in
set_option maxHeartbeats 4000000 in
theorem wX1_isAheadOf_62 {σ : gS} {xs0 : Int32} (hx : p.tables.exec = Jvm.exec) (hb : c.code = cX1_isAheadOf) (hr : meth.sig.returnType = (some .boolean)) (hml : c.maxLocals = 2) (hown : s.vm.findClass RX1 = some m.cls) (hg : ∀ w ∈ wsL_law, w.before args s = true) (hlocks : meth.locks = false) (hK : gK D y aS s) (hA : ∀ q, s.heap.size ≤ q → A q) (hL : ∀ k, k < 179 → k ∈ L) {H : Heap} {locs : List Loc} {ls : Array Slot} (hY : gY D y A s L ad σ H locs) (hl : lv_has ls 2 []) (h : fX1_isAheadOf_62 N σ xs0 = some res) : W p l e ({ frames := 0, cells := 0, slots := 0, locals := 0 } : Room) s m args below meth c H locs 0 0 (MQ below (va_Qi (fun (r : Int32) (_ : Unit) => r = res) (fun _ => gO D A (GW L y ad σ)) A) args s 0 0 A) (F0 m 62 ls [.int xs0]) := by
  unfold fX1_isAheadOf_62 at h
  obtain ⟨z_1, h⟩ := g_guard h
  cases h
  exact g_iret hx hb hr hlocks () hY.1 hY.2.1 hY.2.2 (g_nz (Classical.not_not.mp z_1)) rfl (Nat.le_of_ble_eq_true rfl) (Nat.le_of_ble_eq_true rfl) dX1_isAheadOf_62
end
def fX1_isAheadOf (N : Nat) (σ : gS) (r0 : Nat) (r1 : Nat) : Option Int32 := if (σ.1 r0 12) = (σ.1 r1 12) then (if (σ.1 r0 10) = (σ.1 r1 10) then (if (σ.1 r1 11) ≤ (σ.1 r0 11) then (fX1_isAheadOf_62 N σ 0) else (fX1_isAheadOf_62 N σ 1)) else (if (σ.1 r0 10) ≤ (σ.1 r1 10) then (fX1_isAheadOf_62 N σ 0) else (fX1_isAheadOf_62 N σ 1))) else (if ¬ ((σ.1 r0 12) = 0 ∨ (σ.1 r0 12) = 1) then none else (some (σ.1 r0 12)))
set_option maxRecDepth 100000 in
set_option maxHeartbeats 4000000 in
theorem kX1_isAheadOf (l : Launch) (D : va_G) (y : Nat → ClassId) (aS : Nat → Nat) (sz : Nat) (L : List Nat) (hL : ∀ k, k < 179 → k ∈ L) (ad : Nat → Nat) (N : Nat) (σ : gS) (r0 : Nat) (r1 : Nat) (res : Int32) (hr0 : gcl r0 = 1) (hr1 : gcl r1 = 1) (h : fX1_isAheadOf N σ r0 r1 = some res) : Met l yX1_isAheadOf (Cond.code yX1_isAheadOf cX1_isAheadOf 2 (some .boolean) :: wsL_law) ({ frames := 0, cells := 0, slots := 0, locals := 0 } : Room) (va_Pc [.ref (ad r0), .ref (ad r1)] (gI D y aS (GW L y ad σ) sz)) (va_Qi (fun (r : Int32) (_ : Unit) => r = res) (fun _ => gO D (va_A (GW L y ad σ) sz) (GW L y ad σ)) (va_A (GW L y ad σ) sz)) 0 0 (va_A (GW L y ad σ) sz) := by
  refine g_of (by decide) (Nat.le_of_ble_eq_true rfl) ?_
  intro p e s m below meth c ls A hx hb hr hml hown hg hlocks hin hsz hK hP hD hS hA hAe hl
  rw [← hAe]
  replace hown : s.vm.findClass RX1 = some m.cls := hown
  have hY : gY D y A s L ad σ s.heap [] := ⟨hP, hD, hS⟩
  clear hP hD hS
  replace hl : lv_has ls 2 [(0, .ref (ad r0)), (1, .ref (ad r1))] := hl
  unfold fX1_isAheadOf at h
  refine lv_aload_n hx hb dX1_isAheadOf_0 rfl (lv_at hl 0 rfl) ?_
  refine G_get (ci := 1) (j := 12) (C := RX1) (T := TX1) (N := 14) (v := .int (σ.1 r0 12)) hx hb hg inlX1 hown hK hY (hL _ (gcl_lt hr0 (by decide))) hr0 (by decide) rfl (by decide) tX1_12 (hg _ gw_250) rfl dX1_isAheadOf_1 ?_
  refine lv_aload_n hx hb dX1_isAheadOf_4 rfl (lv_at hl 1 rfl) ?_
  refine G_get (ci := 1) (j := 12) (C := RX1) (T := TX1) (N := 14) (v := .int (σ.1 r1 12)) hx hb hg inlX1 hown hK hY (hL _ (gcl_lt hr1 (by decide))) hr1 (by decide) rfl (by decide) tX1_12 (hg _ gw_250) rfl dX1_isAheadOf_5 ?_
  refine lv_icmp_eq (tgt := 16) hx hb dX1_isAheadOf_8 (by decide) (fun z_1 => ?_) (fun z_1 => ?_)
  ·
    rw [if_pos z_1] at h
    refine lv_aload_n hx hb dX1_isAheadOf_16 rfl (lv_at hl 0 rfl) ?_
    refine G_get (ci := 1) (j := 10) (C := RX1) (T := TX1) (N := 14) (v := .int (σ.1 r0 10)) hx hb hg inlX1 hown hK hY (hL _ (gcl_lt hr0 (by decide))) hr0 (by decide) rfl (by decide) tX1_10 (hg _ gw_251) rfl dX1_isAheadOf_17 ?_
    refine lv_aload_n hx hb dX1_isAheadOf_20 rfl (lv_at hl 1 rfl) ?_
    refine G_get (ci := 1) (j := 10) (C := RX1) (T := TX1) (N := 14) (v := .int (σ.1 r1 10)) hx hb hg inlX1 hown hK hY (hL _ (gcl_lt hr1 (by decide))) hr1 (by decide) rfl (by decide) tX1_10 (hg _ gw_251) rfl dX1_isAheadOf_21 ?_
    refine lv_icmp_eq (tgt := 46) hx hb dX1_isAheadOf_24 (by decide) (fun z_2 => ?_) (fun z_2 => ?_)
    ·
      rw [if_pos z_2] at h
      refine lv_aload_n hx hb dX1_isAheadOf_46 rfl (lv_at hl 0 rfl) ?_
      refine G_get (ci := 1) (j := 11) (C := RX1) (T := TX1) (N := 14) (v := .int (σ.1 r0 11)) hx hb hg inlX1 hown hK hY (hL _ (gcl_lt hr0 (by decide))) hr0 (by decide) rfl (by decide) tX1_11 (hg _ gw_252) rfl dX1_isAheadOf_47 ?_
      refine lv_aload_n hx hb dX1_isAheadOf_50 rfl (lv_at hl 1 rfl) ?_
      refine G_get (ci := 1) (j := 11) (C := RX1) (T := TX1) (N := 14) (v := .int (σ.1 r1 11)) hx hb hg inlX1 hown hK hY (hL _ (gcl_lt hr1 (by decide))) hr1 (by decide) rfl (by decide) tX1_11 (hg _ gw_252) rfl dX1_isAheadOf_51 ?_
      refine lv_icmp_ge (tgt := 61) hx hb dX1_isAheadOf_54 (by decide) (fun z_3 => ?_) (fun z_3 => ?_)
      ·
        rw [if_pos z_3] at h
        refine lv_iconst (v := 0) hx hb dX1_isAheadOf_61 (by decide) ?_
        exact wX1_isAheadOf_62 hx hb hr hml hown hg hlocks hK hA hL hY (lv_sub hl [] rfl) h
      ·
        rw [if_neg z_3] at h
        refine lv_iconst (v := 1) hx hb dX1_isAheadOf_57 (by decide) ?_
        refine lv_goto (tgt := 62) hx hb dX1_isAheadOf_58 (by decide) ?_
        exact wX1_isAheadOf_62 hx hb hr hml hown hg hlocks hK hA hL hY (lv_sub hl [] rfl) h
    ·
      rw [if_neg z_2] at h
      refine lv_aload_n hx hb dX1_isAheadOf_27 rfl (lv_at hl 0 rfl) ?_
      refine G_get (ci := 1) (j := 10) (C := RX1) (T := TX1) (N := 14) (v := .int (σ.1 r0 10)) hx hb hg inlX1 hown hK hY (hL _ (gcl_lt hr0 (by decide))) hr0 (by decide) rfl (by decide) tX1_10 (hg _ gw_251) rfl dX1_isAheadOf_28 ?_
      refine lv_aload_n hx hb dX1_isAheadOf_31 rfl (lv_at hl 1 rfl) ?_
      refine G_get (ci := 1) (j := 10) (C := RX1) (T := TX1) (N := 14) (v := .int (σ.1 r1 10)) hx hb hg inlX1 hown hK hY (hL _ (gcl_lt hr1 (by decide))) hr1 (by decide) rfl (by decide) tX1_10 (hg _ gw_251) rfl dX1_isAheadOf_32 ?_
      refine lv_icmp_le (tgt := 42) hx hb dX1_isAheadOf_35 (by decide) (fun z_4 => ?_) (fun z_4 => ?_)
      ·
        rw [if_pos z_4] at h
        refine lv_iconst (v := 0) hx hb dX1_isAheadOf_42 (by decide) ?_
        refine lv_goto (tgt := 62) hx hb dX1_isAheadOf_43 (by decide) ?_
        exact wX1_isAheadOf_62 hx hb hr hml hown hg hlocks hK hA hL hY (lv_sub hl [] rfl) h
      ·
        rw [if_neg z_4] at h
        refine lv_iconst (v := 1) hx hb dX1_isAheadOf_38 (by decide) ?_
        refine lv_goto (tgt := 62) hx hb dX1_isAheadOf_39 (by decide) ?_
        exact wX1_isAheadOf_62 hx hb hr hml hown hg hlocks hK hA hL hY (lv_sub hl [] rfl) h
  ·
    rw [if_neg z_1] at h
    refine lv_aload_n hx hb dX1_isAheadOf_11 rfl (lv_at hl 0 rfl) ?_
    refine G_get (ci := 1) (j := 12) (C := RX1) (T := TX1) (N := 14) (v := .int (σ.1 r0 12)) hx hb hg inlX1 hown hK hY (hL _ (gcl_lt hr0 (by decide))) hr0 (by decide) rfl (by decide) tX1_12 (hg _ gw_250) rfl dX1_isAheadOf_12 ?_
    obtain ⟨z_5, h⟩ := g_guard h
    cases h
    exact g_iret hx hb hr hlocks () hY.1 hY.2.1 hY.2.2 (g_nz (Classical.not_not.mp z_5)) rfl (Nat.le_of_ble_eq_true rfl) (Nat.le_of_ble_eq_true rfl) dX1_isAheadOf_15
section
variable {p : Program} {l : Launch} {e : Env} {s : State} {m : MethodId} {args : Array Value} {below : List Frame} {meth : Method} {c : Code} {D : va_G} {y : Nat → ClassId} {aS : Nat → Nat} {A : Nat → Prop} {L : List Nat} {ad : Nat → Nat} {N : Nat} {res : (Int32 × gS)}
def fX6_take_32 (N : Nat) (σ : gS) (r0 : Nat) (r1 : Nat) (x2 : Int64) (xs0 : Int32) : Option (Int32 × gS) := some (xs0, (sI (sI (sJ (sI σ r0 2 (σ.1 r1 0)) r0 3 x2) r0 4 ((sJ (sI σ r0 2 (σ.1 r1 0)) r0 3 x2).1 r1 7)) r0 5 xs0))
set_option maxRecDepth 100000 in
set_option maxHeartbeats 4000000 in
theorem wX6_take_32 {σ : gS} {r0 : Nat} {r1 : Nat} {x2 : Int64} {xs0 : Int32} (hx : p.tables.exec = Jvm.exec) (hb : c.code = cX6_take) (hr : meth.sig.returnType = (some .int)) (hml : c.maxLocals = 5) (hown : s.vm.findClass RX6 = some m.cls) (hg : ∀ w ∈ wsL_law, w.before args s = true) (hlocks : meth.locks = false) (hK : gK D y aS s) (hA : ∀ q, s.heap.size ≤ q → A q) (hL : ∀ k, k < 179 → k ∈ L) (hr0 : gcl r0 = 6) (hr1 : gcl r1 = 3) {H : Heap} {locs : List Loc} {ls : Array Slot} (hY : gY D y A s L ad σ H locs) (hl : lv_has ls 5 [(0, .ref (ad r0)), (1, .ref (ad r1)), (2, .long x2)]) (h : fX6_take_32 N σ r0 r1 x2 xs0 = some res) : W p l e ({ frames := 0, cells := 0, slots := 0, locals := 0 } : Room) s m args below meth c H locs 0 0 (MQ below (va_Qi (fun (r : Int32) (_ : Unit) => r = res.1) (fun _ => gO D A (GW L y ad res.2)) A) args s 0 0 A) (F0 m 32 ls [.int xs0]) := by
  unfold fX6_take_32 at h
  refine lv_istore (lv' := [(4, .int xs0), (0, .ref (ad r0)), (1, .ref (ad r1)), (2, .long x2)]) hx hb dX6_take_32 hl (by decide) rfl ?_
  clear hl
  intro ls hl
  refine lv_aload_n hx hb dX6_take_34 rfl (lv_at hl 1 rfl) ?_
  refine lv_aload_n hx hb dX6_take_35 rfl (lv_at hl 2 rfl) ?_
  refine G_get (ci := 3) (j := 0) (C := RX3) (T := TX3) (N := 10) (v := .int (σ.1 r1 0)) hx hb hg inlX3 hown hK hY (hL _ (gcl_lt hr1 (by decide))) hr1 (by decide) rfl (by decide) tX3_0 (hg _ gw_877) rfl dX6_take_36 ?_
  refine G_putI (ci := 6) (j := 2) (C := RX6) (T := TX6) (N := 6) (v := (σ.1 r1 0)) (ty := .int) hx hb hg inlX6 tyX6 tyX6_ok nmX6 hown hK hY (hL _ (gcl_lt hr0 (by decide))) hr0 (by decide) rfl (by decide) tX6_2 (hg _ gw_147) (by decide +kernel) rfl rfl (fun _ _ => rfl) (fun _ _ => Nat.le_of_ble_eq_true rfl) dX6_take_39 ?_
  clear hY
  intro H locs hY
  refine lv_aload_n hx hb dX6_take_42 rfl (lv_at hl 1 rfl) ?_
  refine lv_lload_n hx hb dX6_take_43 rfl (lv_at hl 3 rfl) ?_
  refine G_putJ (ci := 6) (j := 3) (C := RX6) (T := TX6) (N := 6) (v := x2) (ty := .long) hx hb hg inlX6 tyX6 tyX6_ok nmX6 hown hK hY (hL _ (gcl_lt hr0 (by decide))) hr0 (by decide) rfl (by decide) tX6_3 (hg _ gw_879) (by decide +kernel) rfl rfl (fun _ _ => rfl) (fun _ _ => Nat.le_of_ble_eq_true rfl) dX6_take_44 ?_
  clear hY
  intro H locs hY
  refine lv_aload_n hx hb dX6_take_47 rfl (lv_at hl 1 rfl) ?_
  refine lv_aload_n hx hb dX6_take_48 rfl (lv_at hl 2 rfl) ?_
  refine G_get (ci := 3) (j := 7) (C := RX3) (T := TX3) (N := 10) (v := .int ((sJ (sI σ r0 2 (σ.1 r1 0)) r0 3 x2).1 r1 7)) hx hb hg inlX3 hown hK hY (hL _ (gcl_lt hr1 (by decide))) hr1 (by decide) rfl (by decide) tX3_7 (hg _ gw_880) rfl dX6_take_49 ?_
  refine G_putI (ci := 6) (j := 4) (C := RX6) (T := TX6) (N := 6) (v := ((sJ (sI σ r0 2 (σ.1 r1 0)) r0 3 x2).1 r1 7)) (ty := .int) hx hb hg inlX6 tyX6 tyX6_ok nmX6 hown hK hY (hL _ (gcl_lt hr0 (by decide))) hr0 (by decide) rfl (by decide) tX6_4 (hg _ gw_881) (by decide +kernel) rfl rfl (fun _ _ => rfl) (fun _ _ => Nat.le_of_ble_eq_true rfl) dX6_take_52 ?_
  clear hY
  intro H locs hY
  refine lv_aload_n hx hb dX6_take_55 rfl (lv_at hl 1 rfl) ?_
  refine lv_iload hx hb dX6_take_56 (lv_at hl 0 rfl) ?_
  refine G_putI (ci := 6) (j := 5) (C := RX6) (T := TX6) (N := 6) (v := xs0) (ty := .int) hx hb hg inlX6 tyX6 tyX6_ok nmX6 hown hK hY (hL _ (gcl_lt hr0 (by decide))) hr0 (by decide) rfl (by decide) tX6_5 (hg _ gw_751) (by decide +kernel) rfl rfl (fun _ _ => rfl) (fun _ _ => Nat.le_of_ble_eq_true rfl) dX6_take_58 ?_
  clear hY
  intro H locs hY
  refine lv_iload hx hb dX6_take_61 (lv_at hl 0 rfl) ?_
  cases h
  exact g_iret hx hb hr hlocks () hY.1 hY.2.1 hY.2.2 rfl rfl (Nat.le_of_ble_eq_true rfl) (Nat.le_of_ble_eq_true rfl) dX6_take_63
def fX6_take_28 (N : Nat) (σ : gS) (r0 : Nat) (r1 : Nat) (x2 : Int64) : Option (Int32 × gS) := fX6_take_32 N σ r0 r1 x2 (σ.1 r1 4)
set_option maxRecDepth 100000 in
set_option maxHeartbeats 4000000 in
theorem wX6_take_28 {σ : gS} {r0 : Nat} {r1 : Nat} {x2 : Int64} (hx : p.tables.exec = Jvm.exec) (hb : c.code = cX6_take) (hr : meth.sig.returnType = (some .int)) (hml : c.maxLocals = 5) (hown : s.vm.findClass RX6 = some m.cls) (hg : ∀ w ∈ wsL_law, w.before args s = true) (hlocks : meth.locks = false) (hK : gK D y aS s) (hA : ∀ q, s.heap.size ≤ q → A q) (hL : ∀ k, k < 179 → k ∈ L) (hr0 : gcl r0 = 6) (hr1 : gcl r1 = 3) {H : Heap} {locs : List Loc} {ls : Array Slot} (hY : gY D y A s L ad σ H locs) (hl : lv_has ls 5 [(0, .ref (ad r0)), (1, .ref (ad r1)), (2, .long x2)]) (h : fX6_take_28 N σ r0 r1 x2 = some res) : W p l e ({ frames := 0, cells := 0, slots := 0, locals := 0 } : Room) s m args below meth c H locs 0 0 (MQ below (va_Qi (fun (r : Int32) (_ : Unit) => r = res.1) (fun _ => gO D A (GW L y ad res.2)) A) args s 0 0 A) (F0 m 28 ls []) := by
  unfold fX6_take_28 at h
  refine lv_aload_n hx hb dX6_take_28 rfl (lv_at hl 1 rfl) ?_
  refine G_get (ci := 3) (j := 4) (C := RX3) (T := TX3) (N := 10) (v := .int (σ.1 r1 4)) hx hb hg inlX3 hown hK hY (hL _ (gcl_lt hr1 (by decide))) hr1 (by decide) rfl (by decide) tX3_4 (hg _ gw_878) rfl dX6_take_29 ?_
  exact wX6_take_32 hx hb hr hml hown hg hlocks hK hA hL hr0 hr1 hY (lv_sub hl [0, 1, 2] rfl) h
end
def fX6_take (N : Nat) (σ : gS) (r0 : Nat) (r1 : Nat) (x2 : Int64) : Option (Int32 × gS) := if (σ.1 r0 1) = (σ.1 r1 0) then (if (σ.1 r1 4) ≤ 1 then (fX6_take_28 N σ r0 r1 x2) else (fX6_take_32 N σ r0 r1 x2 ((σ.1 r1 4) - 1))) else (fX6_take_28 N σ r0 r1 x2)
set_option maxRecDepth 100000 in
set_option maxHeartbeats 4000000 in
theorem kX6_take (l : Launch) (D : va_G) (y : Nat → ClassId) (aS : Nat → Nat) (sz : Nat) (L : List Nat) (hL : ∀ k, k < 179 → k ∈ L) (ad : Nat → Nat) (N : Nat) (σ : gS) (r0 : Nat) (r1 : Nat) (x2 : Int64) (res : (Int32 × gS)) (hr0 : gcl r0 = 6) (hr1 : gcl r1 = 3) (h : fX6_take N σ r0 r1 x2 = some res) : Met l yX6_take (Cond.code yX6_take cX6_take 5 (some .int) :: wsL_law) ({ frames := 0, cells := 0, slots := 0, locals := 0 } : Room) (va_Pc [.ref (ad r0), .ref (ad r1), .long x2] (gI D y aS (GW L y ad σ) sz)) (va_Qi (fun (r : Int32) (_ : Unit) => r = res.1) (fun _ => gO D (va_A (GW L y ad σ) sz) (GW L y ad res.2)) (va_A (GW L y ad σ) sz)) 0 0 (va_A (GW L y ad σ) sz) := by
  refine g_of (by decide) (Nat.le_of_ble_eq_true rfl) ?_
  intro p e s m below meth c ls A hx hb hr hml hown hg hlocks hin hsz hK hP hD hS hA hAe hl
  rw [← hAe]
  replace hown : s.vm.findClass RX6 = some m.cls := hown
  have hY : gY D y A s L ad σ s.heap [] := ⟨hP, hD, hS⟩
  clear hP hD hS
  replace hl : lv_has ls 5 [(0, .ref (ad r0)), (1, .ref (ad r1)), (2, .long x2)] := hl
  unfold fX6_take at h
  refine lv_aload_n hx hb dX6_take_0 rfl (lv_at hl 0 rfl) ?_
  refine G_get (ci := 6) (j := 1) (C := RX6) (T := TX6) (N := 6) (v := .int (σ.1 r0 1)) hx hb hg inlX6 hown hK hY (hL _ (gcl_lt hr0 (by decide))) hr0 (by decide) rfl (by decide) tX6_1 (hg _ gw_146) rfl dX6_take_1 ?_
  refine lv_aload_n hx hb dX6_take_4 rfl (lv_at hl 1 rfl) ?_
  refine G_get (ci := 3) (j := 0) (C := RX3) (T := TX3) (N := 10) (v := .int (σ.1 r1 0)) hx hb hg inlX3 hown hK hY (hL _ (gcl_lt hr1 (by decide))) hr1 (by decide) rfl (by decide) tX3_0 (hg _ gw_877) rfl dX6_take_5 ?_
  refine lv_icmp_ne (tgt := 28) hx hb dX6_take_8 (by decide) (fun z_1 => ?_) (fun z_1 => ?_)
  ·
    rw [if_neg z_1] at h
    exact wX6_take_28 hx hb hr hml hown hg hlocks hK hA hL hr0 hr1 hY (lv_sub hl [0, 1, 2] rfl) h
  ·
    rw [if_pos z_1] at h
    refine lv_aload_n hx hb dX6_take_11 rfl (lv_at hl 1 rfl) ?_
    refine G_get (ci := 3) (j := 4) (C := RX3) (T := TX3) (N := 10) (v := .int (σ.1 r1 4)) hx hb hg inlX3 hown hK hY (hL _ (gcl_lt hr1 (by decide))) hr1 (by decide) rfl (by decide) tX3_4 (hg _ gw_878) rfl dX6_take_12 ?_
    refine lv_iconst (v := 1) hx hb dX6_take_15 (by decide) ?_
    refine lv_icmp_le (tgt := 28) hx hb dX6_take_16 (by decide) (fun z_2 => ?_) (fun z_2 => ?_)
    ·
      rw [if_pos z_2] at h
      exact wX6_take_28 hx hb hr hml hown hg hlocks hK hA hL hr0 hr1 hY (lv_sub hl [0, 1, 2] rfl) h
    ·
      rw [if_neg z_2] at h
      refine lv_aload_n hx hb dX6_take_19 rfl (lv_at hl 1 rfl) ?_
      refine G_get (ci := 3) (j := 4) (C := RX3) (T := TX3) (N := 10) (v := .int (σ.1 r1 4)) hx hb hg inlX3 hown hK hY (hL _ (gcl_lt hr1 (by decide))) hr1 (by decide) rfl (by decide) tX3_4 (hg _ gw_878) rfl dX6_take_20 ?_
      refine lv_iconst (v := 1) hx hb dX6_take_23 (by decide) ?_
      refine lv_isub hx hb dX6_take_24 ?_
      refine lv_goto (tgt := 32) hx hb dX6_take_25 (by decide) ?_
      exact wX6_take_32 hx hb hr hml hown hg hlocks hK hA hL hr0 hr1 hY (lv_sub hl [0, 1, 2] rfl) h
section
variable {p : Program} {l : Launch} {e : Env} {s : State} {m : MethodId} {args : Array Value} {below : List Frame} {meth : Method} {c : Code} {D : va_G} {y : Nat → ClassId} {aS : Nat → Nat} {A : Nat → Prop} {L : List Nat} {ad : Nat → Nat} {N : Nat} {res : (Int32 × gS)}
def fX6_isDoneByTick_32 (N : Nat) (σ : gS) (xs0 : Int32) : Option (Int32 × gS) := if ¬ (xs0 = 0 ∨ xs0 = 1) then none else (some (xs0, σ))
set_option maxRecDepth 100000 in
set_option maxHeartbeats 4000000 in
theorem wX6_isDoneByTick_32 {σ : gS} {xs0 : Int32} (hx : p.tables.exec = Jvm.exec) (hb : c.code = cX6_isDoneByTick) (hr : meth.sig.returnType = (some .boolean)) (hml : c.maxLocals = 1) (hown : s.vm.findClass RX6 = some m.cls) (hg : ∀ w ∈ wsL_law, w.before args s = true) (hlocks : meth.locks = false) (hK : gK D y aS s) (hA : ∀ q, s.heap.size ≤ q → A q) (hL : ∀ k, k < 179 → k ∈ L) {H : Heap} {locs : List Loc} {ls : Array Slot} (hY : gY D y A s L ad σ H locs) (hl : lv_has ls 1 []) (h : fX6_isDoneByTick_32 N σ xs0 = some res) : W p l e ({ frames := 0, cells := 0, slots := 0, locals := 0 } : Room) s m args below meth c H locs 0 0 (MQ below (va_Qi (fun (r : Int32) (_ : Unit) => r = res.1) (fun _ => gO D A (GW L y ad res.2)) A) args s 0 0 A) (F0 m 32 ls [.int xs0]) := by
  unfold fX6_isDoneByTick_32 at h
  obtain ⟨z_1, h⟩ := g_guard h
  cases h
  exact g_iret hx hb hr hlocks () hY.1 hY.2.1 hY.2.2 (g_nz (Classical.not_not.mp z_1)) rfl (Nat.le_of_ble_eq_true rfl) (Nat.le_of_ble_eq_true rfl) dX6_isDoneByTick_32
end
def fX6_isDoneByTick (N : Nat) (σ : gS) (r0 : Nat) : Option (Int32 × gS) := if (σ.1 r0 2) = (-1) then (some (0, σ)) else (if 0 < ((sI σ r0 5 ((σ.1 r0 5) - 1)).1 r0 5) then (fX6_isDoneByTick_32 N (sI σ r0 5 ((σ.1 r0 5) - 1)) 0) else (fX6_isDoneByTick_32 N (sI σ r0 5 ((σ.1 r0 5) - 1)) 1))
set_option maxRecDepth 100000 in
set_option maxHeartbeats 4000000 in
theorem kX6_isDoneByTick (l : Launch) (D : va_G) (y : Nat → ClassId) (aS : Nat → Nat) (sz : Nat) (L : List Nat) (hL : ∀ k, k < 179 → k ∈ L) (ad : Nat → Nat) (N : Nat) (σ : gS) (r0 : Nat) (res : (Int32 × gS)) (hr0 : gcl r0 = 6) (h : fX6_isDoneByTick N σ r0 = some res) : Met l yX6_isDoneByTick (Cond.code yX6_isDoneByTick cX6_isDoneByTick 1 (some .boolean) :: wsL_law) ({ frames := 0, cells := 0, slots := 0, locals := 0 } : Room) (va_Pc [.ref (ad r0)] (gI D y aS (GW L y ad σ) sz)) (va_Qi (fun (r : Int32) (_ : Unit) => r = res.1) (fun _ => gO D (va_A (GW L y ad σ) sz) (GW L y ad res.2)) (va_A (GW L y ad σ) sz)) 0 0 (va_A (GW L y ad σ) sz) := by
  refine g_of (by decide) (Nat.le_of_ble_eq_true rfl) ?_
  intro p e s m below meth c ls A hx hb hr hml hown hg hlocks hin hsz hK hP hD hS hA hAe hl
  rw [← hAe]
  replace hown : s.vm.findClass RX6 = some m.cls := hown
  have hY : gY D y A s L ad σ s.heap [] := ⟨hP, hD, hS⟩
  clear hP hD hS
  replace hl : lv_has ls 1 [(0, .ref (ad r0))] := hl
  unfold fX6_isDoneByTick at h
  refine lv_aload_n hx hb dX6_isDoneByTick_0 rfl (lv_at hl 0 rfl) ?_
  refine G_get (ci := 6) (j := 2) (C := RX6) (T := TX6) (N := 6) (v := .int (σ.1 r0 2)) hx hb hg inlX6 hown hK hY (hL _ (gcl_lt hr0 (by decide))) hr0 (by decide) rfl (by decide) tX6_2 (hg _ gw_147) rfl dX6_isDoneByTick_1 ?_
  refine lv_iconst (v := (-1)) hx hb dX6_isDoneByTick_4 (by decide) ?_
  refine lv_icmp_ne (tgt := 10) hx hb dX6_isDoneByTick_5 (by decide) (fun z_1 => ?_) (fun z_1 => ?_)
  ·
    rw [if_neg z_1] at h
    refine lv_aload_n hx hb dX6_isDoneByTick_10 rfl (lv_at hl 0 rfl) ?_
    refine lv_dup hx hb dX6_isDoneByTick_11 rfl ?_
    refine G_get (ci := 6) (j := 5) (C := RX6) (T := TX6) (N := 6) (v := .int (σ.1 r0 5)) hx hb hg inlX6 hown hK hY (hL _ (gcl_lt hr0 (by decide))) hr0 (by decide) rfl (by decide) tX6_5 (hg _ gw_751) rfl dX6_isDoneByTick_12 ?_
    refine lv_iconst (v := 1) hx hb dX6_isDoneByTick_15 (by decide) ?_
    refine lv_isub hx hb dX6_isDoneByTick_16 ?_
    refine G_putI (ci := 6) (j := 5) (C := RX6) (T := TX6) (N := 6) (v := ((σ.1 r0 5) - 1)) (ty := .int) hx hb hg inlX6 tyX6 tyX6_ok nmX6 hown hK hY (hL _ (gcl_lt hr0 (by decide))) hr0 (by decide) rfl (by decide) tX6_5 (hg _ gw_751) (by decide +kernel) rfl rfl (fun _ _ => rfl) (fun _ _ => Nat.le_of_ble_eq_true rfl) dX6_isDoneByTick_17 ?_
    clear hY
    intro H locs hY
    refine lv_aload_n hx hb dX6_isDoneByTick_20 rfl (lv_at hl 0 rfl) ?_
    refine G_get (ci := 6) (j := 5) (C := RX6) (T := TX6) (N := 6) (v := .int ((sI σ r0 5 ((σ.1 r0 5) - 1)).1 r0 5)) hx hb hg inlX6 hown hK hY (hL _ (gcl_lt hr0 (by decide))) hr0 (by decide) rfl (by decide) tX6_5 (hg _ gw_751) rfl dX6_isDoneByTick_21 ?_
    refine lv_if_gt (tgt := 31) hx hb dX6_isDoneByTick_24 (by decide) (fun z_2 => ?_) (fun z_2 => ?_)
    ·
      rw [if_pos z_2] at h
      refine lv_iconst (v := 0) hx hb dX6_isDoneByTick_31 (by decide) ?_
      exact wX6_isDoneByTick_32 hx hb hr hml hown hg hlocks hK hA hL hY (lv_sub hl [] rfl) h
    ·
      rw [if_neg z_2] at h
      refine lv_iconst (v := 1) hx hb dX6_isDoneByTick_27 (by decide) ?_
      refine lv_goto (tgt := 32) hx hb dX6_isDoneByTick_28 (by decide) ?_
      exact wX6_isDoneByTick_32 hx hb hr hml hown hg hlocks hK hA hL hY (lv_sub hl [] rfl) h
  ·
    rw [if_pos z_1] at h
    refine lv_iconst (v := 0) hx hb dX6_isDoneByTick_8 (by decide) ?_
    cases h
    exact g_iret hx hb hr hlocks () hY.1 hY.2.1 hY.2.2 rfl rfl (Nat.le_of_ble_eq_true rfl) (Nat.le_of_ble_eq_true rfl) dX6_isDoneByTick_9
section
variable {p : Program} {l : Launch} {e : Env} {s : State} {m : MethodId} {args : Array Value} {below : List Frame} {meth : Method} {c : Code} {D : va_G} {y : Nat → ClassId} {aS : Nat → Nat} {A : Nat → Prop} {L : List Nat} {ad : Nat → Nat} {N : Nat} {res : gS}
end
def fX6_leave (N : Nat) (σ : gS) (r0 : Nat) : Option gS := some (sI (sI (sI σ r0 0 0) r0 1 (-1)) r0 2 (-1))
set_option maxRecDepth 100000 in
set_option maxHeartbeats 4000000 in
theorem kX6_leave (l : Launch) (D : va_G) (y : Nat → ClassId) (aS : Nat → Nat) (sz : Nat) (L : List Nat) (hL : ∀ k, k < 179 → k ∈ L) (ad : Nat → Nat) (N : Nat) (σ : gS) (r0 : Nat) (res : gS) (hr0 : gcl r0 = 6) (h : fX6_leave N σ r0 = some res) : Met l yX6_leave (Cond.code yX6_leave cX6_leave 1 none :: wsL_law) ({ frames := 0, cells := 0, slots := 0, locals := 0 } : Room) (va_Pc [.ref (ad r0)] (gI D y aS (GW L y ad σ) sz)) (va_Qv (fun (_ : Unit) => True) (fun _ => gO D (va_A (GW L y ad σ) sz) (GW L y ad res)) (va_A (GW L y ad σ) sz)) 0 0 (va_A (GW L y ad σ) sz) := by
  refine g_of (by decide) (Nat.le_of_ble_eq_true rfl) ?_
  intro p e s m below meth c ls A hx hb hr hml hown hg hlocks hin hsz hK hP hD hS hA hAe hl
  rw [← hAe]
  replace hown : s.vm.findClass RX6 = some m.cls := hown
  have hY : gY D y A s L ad σ s.heap [] := ⟨hP, hD, hS⟩
  clear hP hD hS
  replace hl : lv_has ls 1 [(0, .ref (ad r0))] := hl
  unfold fX6_leave at h
  refine lv_aload_n hx hb dX6_leave_0 rfl (lv_at hl 0 rfl) ?_
  refine lv_iconst (v := 0) hx hb dX6_leave_1 (by decide) ?_
  refine G_putI (ci := 6) (j := 0) (C := RX6) (T := TX6) (N := 6) (v := 0) (ty := .boolean) hx hb hg inlX6 tyX6 tyX6_ok nmX6 hown hK hY (hL _ (gcl_lt hr0 (by decide))) hr0 (by decide) rfl (by decide) tX6_0 (hg _ gw_148) (by decide +kernel) rfl rfl (fun _ _ => rfl) (fun _ _ => Nat.le_of_ble_eq_true rfl) dX6_leave_2 ?_
  clear hY
  intro H locs hY
  refine lv_aload_n hx hb dX6_leave_5 rfl (lv_at hl 0 rfl) ?_
  refine lv_iconst (v := (-1)) hx hb dX6_leave_6 (by decide) ?_
  refine G_putI (ci := 6) (j := 1) (C := RX6) (T := TX6) (N := 6) (v := (-1)) (ty := .int) hx hb hg inlX6 tyX6 tyX6_ok nmX6 hown hK hY (hL _ (gcl_lt hr0 (by decide))) hr0 (by decide) rfl (by decide) tX6_1 (hg _ gw_146) (by decide +kernel) rfl rfl (fun _ _ => rfl) (fun _ _ => Nat.le_of_ble_eq_true rfl) dX6_leave_7 ?_
  clear hY
  intro H locs hY
  refine lv_aload_n hx hb dX6_leave_10 rfl (lv_at hl 0 rfl) ?_
  refine lv_iconst (v := (-1)) hx hb dX6_leave_11 (by decide) ?_
  refine G_putI (ci := 6) (j := 2) (C := RX6) (T := TX6) (N := 6) (v := (-1)) (ty := .int) hx hb hg inlX6 tyX6 tyX6_ok nmX6 hown hK hY (hL _ (gcl_lt hr0 (by decide))) hr0 (by decide) rfl (by decide) tX6_2 (hg _ gw_147) (by decide +kernel) rfl rfl (fun _ _ => rfl) (fun _ _ => Nat.le_of_ble_eq_true rfl) dX6_leave_12 ?_
  clear hY
  intro H locs hY
  cases h
  exact g_vret hx hb hr hlocks () hY.1 hY.2.1 hY.2.2 trivial (Nat.le_of_ble_eq_true rfl) (Nat.le_of_ble_eq_true rfl) dX6_leave_15
