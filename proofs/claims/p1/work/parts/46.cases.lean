def dt234_X8_addMany : List (Nat × Instr × Nat) := [(0, (.iconst 0, 1)), (1, (.istore 4, 2)), (3, (.iload 4, 2)), (5, (.iload_n 1, 1)), (6, (.if_icmp .ge 24, 3)), (9, (.iload 4, 2)), (11, (.aload_n 0, 1)), (12, (.getfield 9, 3)), (15, (.arraylength, 1)), (16, (.if_icmp .ge 14, 3)), (19, (.aload_n 0, 1)), (20, (.lload_n 2, 1)), (21, (.invokevirtual 19, 3)), (24, (.iinc 4 1, 3)), (27, (.goto (-24), 3)), (30, (.return_, 1))]
theorem dt234_X8_addMany_ok : ∀ q ∈ dt234_X8_addMany, decode cX8_addMany q.1 = .ok q.2 := by decide +kernel
theorem dX8_addMany_0 : decode cX8_addMany 0 = .ok (.iconst 0, 1) := g_dec dt234_X8_addMany_ok (k := 0) rfl
theorem dX8_addMany_1 : decode cX8_addMany 1 = .ok (.istore 4, 2) := g_dec dt234_X8_addMany_ok (k := 1) rfl
theorem dX8_addMany_3 : decode cX8_addMany 3 = .ok (.iload 4, 2) := g_dec dt234_X8_addMany_ok (k := 2) rfl
theorem dX8_addMany_5 : decode cX8_addMany 5 = .ok (.iload_n 1, 1) := g_dec dt234_X8_addMany_ok (k := 3) rfl
theorem dX8_addMany_6 : decode cX8_addMany 6 = .ok (.if_icmp .ge 24, 3) := g_dec dt234_X8_addMany_ok (k := 4) rfl
theorem dX8_addMany_9 : decode cX8_addMany 9 = .ok (.iload 4, 2) := g_dec dt234_X8_addMany_ok (k := 5) rfl
theorem dX8_addMany_11 : decode cX8_addMany 11 = .ok (.aload_n 0, 1) := g_dec dt234_X8_addMany_ok (k := 6) rfl
theorem dX8_addMany_12 : decode cX8_addMany 12 = .ok (.getfield 9, 3) := g_dec dt234_X8_addMany_ok (k := 7) rfl
theorem dX8_addMany_15 : decode cX8_addMany 15 = .ok (.arraylength, 1) := g_dec dt234_X8_addMany_ok (k := 8) rfl
theorem dX8_addMany_16 : decode cX8_addMany 16 = .ok (.if_icmp .ge 14, 3) := g_dec dt234_X8_addMany_ok (k := 9) rfl
theorem dX8_addMany_19 : decode cX8_addMany 19 = .ok (.aload_n 0, 1) := g_dec dt234_X8_addMany_ok (k := 10) rfl
theorem dX8_addMany_20 : decode cX8_addMany 20 = .ok (.lload_n 2, 1) := g_dec dt234_X8_addMany_ok (k := 11) rfl
theorem dX8_addMany_21 : decode cX8_addMany 21 = .ok (.invokevirtual 19, 3) := g_dec dt234_X8_addMany_ok (k := 12) rfl
theorem dX8_addMany_24 : decode cX8_addMany 24 = .ok (.iinc 4 1, 3) := g_dec dt234_X8_addMany_ok (k := 13) rfl
theorem dX8_addMany_27 : decode cX8_addMany 27 = .ok (.goto (-24), 3) := g_dec dt234_X8_addMany_ok (k := 14) rfl
theorem dX8_addMany_30 : decode cX8_addMany 30 = .ok (.return_, 1) := g_dec dt234_X8_addMany_ok (k := 15) rfl
def dt235_X5_find : List (Nat × Instr × Nat) := [(0, (.aload_n 0, 1)), (1, (.getfield 26, 3)), (4, (.iload_n 1, 1)), (5, (.invokevirtual 50, 3)), (8, (.istore_n 3, 1)), (9, (.iconst 0, 1)), (10, (.istore 4, 2)), (12, (.iload 4, 2)), (14, (.iload_n 3, 1)), (15, (.if_icmp .ge 52, 3)), (67, (.iload_n 3, 1)), (68, (.ifCond .le 39, 3)), (107, (.iload 4, 2)), (109, (.ifCond .le 30, 3)), (139, (.return_, 1))]
theorem dt235_X5_find_ok : ∀ q ∈ dt235_X5_find, decode cX5_find q.1 = .ok q.2 := by decide +kernel
theorem dX5_find_0 : decode cX5_find 0 = .ok (.aload_n 0, 1) := g_dec dt235_X5_find_ok (k := 0) rfl
theorem dX5_find_1 : decode cX5_find 1 = .ok (.getfield 26, 3) := g_dec dt235_X5_find_ok (k := 1) rfl
theorem dX5_find_4 : decode cX5_find 4 = .ok (.iload_n 1, 1) := g_dec dt235_X5_find_ok (k := 2) rfl
theorem dX5_find_5 : decode cX5_find 5 = .ok (.invokevirtual 50, 3) := g_dec dt235_X5_find_ok (k := 3) rfl
theorem dX5_find_8 : decode cX5_find 8 = .ok (.istore_n 3, 1) := g_dec dt235_X5_find_ok (k := 4) rfl
theorem dX5_find_9 : decode cX5_find 9 = .ok (.iconst 0, 1) := g_dec dt235_X5_find_ok (k := 5) rfl
theorem dX5_find_10 : decode cX5_find 10 = .ok (.istore 4, 2) := g_dec dt235_X5_find_ok (k := 6) rfl
theorem dX5_find_12 : decode cX5_find 12 = .ok (.iload 4, 2) := g_dec dt235_X5_find_ok (k := 7) rfl
theorem dX5_find_14 : decode cX5_find 14 = .ok (.iload_n 3, 1) := g_dec dt235_X5_find_ok (k := 8) rfl
theorem dX5_find_15 : decode cX5_find 15 = .ok (.if_icmp .ge 52, 3) := g_dec dt235_X5_find_ok (k := 9) rfl
theorem dX5_find_67 : decode cX5_find 67 = .ok (.iload_n 3, 1) := g_dec dt235_X5_find_ok (k := 10) rfl
theorem dX5_find_68 : decode cX5_find 68 = .ok (.ifCond .le 39, 3) := g_dec dt235_X5_find_ok (k := 11) rfl
theorem dX5_find_107 : decode cX5_find 107 = .ok (.iload 4, 2) := g_dec dt235_X5_find_ok (k := 12) rfl
theorem dX5_find_109 : decode cX5_find 109 = .ok (.ifCond .le 30, 3) := g_dec dt235_X5_find_ok (k := 13) rfl
theorem dX5_find_139 : decode cX5_find 139 = .ok (.return_, 1) := g_dec dt235_X5_find_ok (k := 14) rfl
def dt236_X5_findOut : List (Nat × Instr × Nat) := [(24, (.aload_n 0, 1)), (25, (.getfield 20, 3)), (28, (.iload_n 1, 1)), (29, (.lconst 0, 1)), (30, (.invokevirtual 29, 3)), (33, (.iinc 1 1, 3)), (36, (.goto (-23), 3)), (52, (.iconst 0, 1)), (53, (.istore_n 2, 1)), (54, (.iload_n 2, 1)), (55, (.iconst 3, 1)), (56, (.if_icmp .ge 15, 3)), (59, (.aload_n 0, 1)), (60, (.iload_n 2, 1)), (61, (.iload_n 1, 1)), (62, (.invokevirtual 54, 3)), (65, (.iinc 2 1, 3)), (68, (.goto (-14), 3)), (71, (.iinc 1 1, 3)), (74, (.goto (-33), 3))]
theorem dt236_X5_findOut_ok : ∀ q ∈ dt236_X5_findOut, decode cX5_findOut q.1 = .ok q.2 := by decide +kernel
theorem dX5_findOut_24 : decode cX5_findOut 24 = .ok (.aload_n 0, 1) := g_dec dt236_X5_findOut_ok (k := 0) rfl
theorem dX5_findOut_25 : decode cX5_findOut 25 = .ok (.getfield 20, 3) := g_dec dt236_X5_findOut_ok (k := 1) rfl
theorem dX5_findOut_28 : decode cX5_findOut 28 = .ok (.iload_n 1, 1) := g_dec dt236_X5_findOut_ok (k := 2) rfl
theorem dX5_findOut_29 : decode cX5_findOut 29 = .ok (.lconst 0, 1) := g_dec dt236_X5_findOut_ok (k := 3) rfl
theorem dX5_findOut_30 : decode cX5_findOut 30 = .ok (.invokevirtual 29, 3) := g_dec dt236_X5_findOut_ok (k := 4) rfl
theorem dX5_findOut_33 : decode cX5_findOut 33 = .ok (.iinc 1 1, 3) := g_dec dt236_X5_findOut_ok (k := 5) rfl
theorem dX5_findOut_36 : decode cX5_findOut 36 = .ok (.goto (-23), 3) := g_dec dt236_X5_findOut_ok (k := 6) rfl
theorem dX5_findOut_52 : decode cX5_findOut 52 = .ok (.iconst 0, 1) := g_dec dt236_X5_findOut_ok (k := 7) rfl
theorem dX5_findOut_53 : decode cX5_findOut 53 = .ok (.istore_n 2, 1) := g_dec dt236_X5_findOut_ok (k := 8) rfl
theorem dX5_findOut_54 : decode cX5_findOut 54 = .ok (.iload_n 2, 1) := g_dec dt236_X5_findOut_ok (k := 9) rfl
theorem dX5_findOut_55 : decode cX5_findOut 55 = .ok (.iconst 3, 1) := g_dec dt236_X5_findOut_ok (k := 10) rfl
theorem dX5_findOut_56 : decode cX5_findOut 56 = .ok (.if_icmp .ge 15, 3) := g_dec dt236_X5_findOut_ok (k := 11) rfl
theorem dX5_findOut_59 : decode cX5_findOut 59 = .ok (.aload_n 0, 1) := g_dec dt236_X5_findOut_ok (k := 12) rfl
theorem dX5_findOut_60 : decode cX5_findOut 60 = .ok (.iload_n 2, 1) := g_dec dt236_X5_findOut_ok (k := 13) rfl
theorem dX5_findOut_61 : decode cX5_findOut 61 = .ok (.iload_n 1, 1) := g_dec dt236_X5_findOut_ok (k := 14) rfl
theorem dX5_findOut_62 : decode cX5_findOut 62 = .ok (.invokevirtual 54, 3) := g_dec dt236_X5_findOut_ok (k := 15) rfl
theorem dX5_findOut_65 : decode cX5_findOut 65 = .ok (.iinc 2 1, 3) := g_dec dt236_X5_findOut_ok (k := 16) rfl
theorem dX5_findOut_68 : decode cX5_findOut 68 = .ok (.goto (-14), 3) := g_dec dt236_X5_findOut_ok (k := 17) rfl
theorem dX5_findOut_71 : decode cX5_findOut 71 = .ok (.iinc 1 1, 3) := g_dec dt236_X5_findOut_ok (k := 18) rfl
theorem dX5_findOut_74 : decode cX5_findOut 74 = .ok (.goto (-33), 3) := g_dec dt236_X5_findOut_ok (k := 19) rfl
def dt237_X5_append : List (Nat × Instr × Nat) := [(0, (.aload_n 0, 1)), (1, (.getfield 14, 3)), (4, (.getfield 40, 3)), (7, (.istore_n 3, 1)), (8, (.aload_n 0, 1)), (9, (.getfield 14, 3)), (12, (.iload_n 2, 1)), (13, (.lconst 0, 1)), (14, (.invokevirtual 44, 3)), (17, (.iload_n 1, 1)), (18, (.istore 4, 2)), (20, (.iload_n 3, 1)), (21, (.iload_n 2, 1)), (22, (.iadd, 1)), (23, (.iconst 1, 1)), (24, (.isub, 1)), (25, (.istore 5, 2)), (27, (.iload 5, 2)), (29, (.iload_n 3, 1)), (30, (.if_icmp .lt 31, 3)), (33, (.aload_n 0, 1)), (34, (.getfield 14, 3)), (37, (.iload 5, 2)), (39, (.iload 4, 2)), (41, (.bipush 10, 2)), (43, (.irem, 1)), (44, (.i2l, 1)), (45, (.invokevirtual 29, 3)), (48, (.iload 4, 2)), (50, (.bipush 10, 2)), (52, (.idiv, 1)), (53, (.istore 4, 2)), (55, (.iinc 5 (-1), 3)), (58, (.goto (-31), 3)), (61, (.aload_n 0, 1)), (62, (.invokevirtual 33, 3)), (65, (.aload_n 0, 1)), (66, (.getfield 47, 3)), (69, (.ireturn, 1))]
theorem dt237_X5_append_ok : ∀ q ∈ dt237_X5_append, decode cX5_append q.1 = .ok q.2 := by decide +kernel
theorem dX5_append_0 : decode cX5_append 0 = .ok (.aload_n 0, 1) := g_dec dt237_X5_append_ok (k := 0) rfl
theorem dX5_append_1 : decode cX5_append 1 = .ok (.getfield 14, 3) := g_dec dt237_X5_append_ok (k := 1) rfl
theorem dX5_append_4 : decode cX5_append 4 = .ok (.getfield 40, 3) := g_dec dt237_X5_append_ok (k := 2) rfl
theorem dX5_append_7 : decode cX5_append 7 = .ok (.istore_n 3, 1) := g_dec dt237_X5_append_ok (k := 3) rfl
theorem dX5_append_8 : decode cX5_append 8 = .ok (.aload_n 0, 1) := g_dec dt237_X5_append_ok (k := 4) rfl
theorem dX5_append_9 : decode cX5_append 9 = .ok (.getfield 14, 3) := g_dec dt237_X5_append_ok (k := 5) rfl
theorem dX5_append_12 : decode cX5_append 12 = .ok (.iload_n 2, 1) := g_dec dt237_X5_append_ok (k := 6) rfl
theorem dX5_append_13 : decode cX5_append 13 = .ok (.lconst 0, 1) := g_dec dt237_X5_append_ok (k := 7) rfl
theorem dX5_append_14 : decode cX5_append 14 = .ok (.invokevirtual 44, 3) := g_dec dt237_X5_append_ok (k := 8) rfl
theorem dX5_append_17 : decode cX5_append 17 = .ok (.iload_n 1, 1) := g_dec dt237_X5_append_ok (k := 9) rfl
theorem dX5_append_18 : decode cX5_append 18 = .ok (.istore 4, 2) := g_dec dt237_X5_append_ok (k := 10) rfl
theorem dX5_append_20 : decode cX5_append 20 = .ok (.iload_n 3, 1) := g_dec dt237_X5_append_ok (k := 11) rfl
theorem dX5_append_21 : decode cX5_append 21 = .ok (.iload_n 2, 1) := g_dec dt237_X5_append_ok (k := 12) rfl
theorem dX5_append_22 : decode cX5_append 22 = .ok (.iadd, 1) := g_dec dt237_X5_append_ok (k := 13) rfl
theorem dX5_append_23 : decode cX5_append 23 = .ok (.iconst 1, 1) := g_dec dt237_X5_append_ok (k := 14) rfl
theorem dX5_append_24 : decode cX5_append 24 = .ok (.isub, 1) := g_dec dt237_X5_append_ok (k := 15) rfl
theorem dX5_append_25 : decode cX5_append 25 = .ok (.istore 5, 2) := g_dec dt237_X5_append_ok (k := 16) rfl
theorem dX5_append_27 : decode cX5_append 27 = .ok (.iload 5, 2) := g_dec dt237_X5_append_ok (k := 17) rfl
theorem dX5_append_29 : decode cX5_append 29 = .ok (.iload_n 3, 1) := g_dec dt237_X5_append_ok (k := 18) rfl
theorem dX5_append_30 : decode cX5_append 30 = .ok (.if_icmp .lt 31, 3) := g_dec dt237_X5_append_ok (k := 19) rfl
theorem dX5_append_33 : decode cX5_append 33 = .ok (.aload_n 0, 1) := g_dec dt237_X5_append_ok (k := 20) rfl
theorem dX5_append_34 : decode cX5_append 34 = .ok (.getfield 14, 3) := g_dec dt237_X5_append_ok (k := 21) rfl
theorem dX5_append_37 : decode cX5_append 37 = .ok (.iload 5, 2) := g_dec dt237_X5_append_ok (k := 22) rfl
theorem dX5_append_39 : decode cX5_append 39 = .ok (.iload 4, 2) := g_dec dt237_X5_append_ok (k := 23) rfl
theorem dX5_append_41 : decode cX5_append 41 = .ok (.bipush 10, 2) := g_dec dt237_X5_append_ok (k := 24) rfl
theorem dX5_append_43 : decode cX5_append 43 = .ok (.irem, 1) := g_dec dt237_X5_append_ok (k := 25) rfl
theorem dX5_append_44 : decode cX5_append 44 = .ok (.i2l, 1) := g_dec dt237_X5_append_ok (k := 26) rfl
theorem dX5_append_45 : decode cX5_append 45 = .ok (.invokevirtual 29, 3) := g_dec dt237_X5_append_ok (k := 27) rfl
theorem dX5_append_48 : decode cX5_append 48 = .ok (.iload 4, 2) := g_dec dt237_X5_append_ok (k := 28) rfl
theorem dX5_append_50 : decode cX5_append 50 = .ok (.bipush 10, 2) := g_dec dt237_X5_append_ok (k := 29) rfl
theorem dX5_append_52 : decode cX5_append 52 = .ok (.idiv, 1) := g_dec dt237_X5_append_ok (k := 30) rfl
theorem dX5_append_53 : decode cX5_append 53 = .ok (.istore 4, 2) := g_dec dt237_X5_append_ok (k := 31) rfl
theorem dX5_append_55 : decode cX5_append 55 = .ok (.iinc 5 (-1), 3) := g_dec dt237_X5_append_ok (k := 32) rfl
theorem dX5_append_58 : decode cX5_append 58 = .ok (.goto (-31), 3) := g_dec dt237_X5_append_ok (k := 33) rfl
theorem dX5_append_61 : decode cX5_append 61 = .ok (.aload_n 0, 1) := g_dec dt237_X5_append_ok (k := 34) rfl
theorem dX5_append_62 : decode cX5_append 62 = .ok (.invokevirtual 33, 3) := g_dec dt237_X5_append_ok (k := 35) rfl
theorem dX5_append_65 : decode cX5_append 65 = .ok (.aload_n 0, 1) := g_dec dt237_X5_append_ok (k := 36) rfl
theorem dX5_append_66 : decode cX5_append 66 = .ok (.getfield 47, 3) := g_dec dt237_X5_append_ok (k := 37) rfl
theorem dX5_append_69 : decode cX5_append 69 = .ok (.ireturn, 1) := g_dec dt237_X5_append_ok (k := 38) rfl
set_option maxRecDepth 100000 in
set_option maxHeartbeats 4000000 in
theorem k_X8_add_28 (l : Launch) (D : va_G) (y : Nat → ClassId) (aS : Nat → Nat) (sz : Nat) (h0 : Nat) (h1 : Nat) (wf4100085 : Nat → Int64) : Met l yX8_add (Cond.code yX8_add cX8_add 3 none :: wsL_law) ({ frames := 0, cells := 0, slots := 0, locals := 0 } : Room) (va_Pc [.ref h0, .long 0] (gI D y aS [(h0, .inr (8, [.ref h1, .int 0])), (h1, .inl (y 1, 200, .inr (.inl wf4100085)))] sz)) (va_Qv (fun (u : Unit) => True) (fun u => gO D (va_A [(h0, .inr (8, [.ref h1, .int 0])), (h1, .inl (y 1, 200, .inr (.inl wf4100085)))] sz) [(h0, .inr (8, [.ref h1, .int 1])), (h1, .inl (y 1, 200, .inr (.inl (vp_updL wf4100085 ((0 : Int32).toNatClampNeg) 0))))]) (va_A [(h0, .inr (8, [.ref h1, .int 0])), (h1, .inl (y 1, 200, .inr (.inl wf4100085)))] sz)) 0 0 (va_A [(h0, .inr (8, [.ref h1, .int 0])), (h1, .inl (y 1, 200, .inr (.inl wf4100085)))] sz) := by
  refine g_of (by decide) (Nat.le_of_ble_eq_true rfl) ?_
  intro p e s m below meth c ls A hx hb hr hml hown hg hlocks hin hsz hK hP hD hS hA hAe hl
  rw [← hAe]
  replace hown : s.vm.findClass RX8 = some m.cls := hown
  replace hl : lv_has ls 3 [(0, .ref h0), (1, .long 0)] := hl
  refine lv_aload_n hx hb dX8_add_0 rfl (lv_at hl 0 rfl) ?_
  refine gm_get (D := D) (ci := 8) (v := .int 0) (C := RX8) (T := TX8) (N := 2) hx hb hg inlX8 hown hK.1 hP 0 rfl rfl 1 (by decide) tX8_1 (hg _ gw_155) rfl dX8_add_1 ?_
  refine lv_if_lt (tgt := 39) hx hb dX8_add_4 (by decide) (fun c9 => absurd c9 (by decide +kernel)) (fun _ => ?_)
  refine lv_aload_n hx hb dX8_add_7 rfl (lv_at hl 0 rfl) ?_
  refine gm_get (D := D) (ci := 8) (v := .int 0) (C := RX8) (T := TX8) (N := 2) hx hb hg inlX8 hown hK.1 hP 0 rfl rfl 1 (by decide) tX8_1 (hg _ gw_155) rfl dX8_add_8 ?_
  refine lv_aload_n hx hb dX8_add_11 rfl (lv_at hl 0 rfl) ?_
  refine gm_get (D := D) (ci := 8) (v := .ref h1) (C := RX8) (T := TX8) (N := 2) hx hb hg inlX8 hown hK.1 hP 0 rfl rfl 0 (by decide) tX8_0 (hg _ gw_98) rfl dX8_add_12 ?_
  refine va_alen hx hb hK.1 hP 1 1 rfl rfl (v := 200) rfl dX8_add_15 ?_
  refine lv_icmp_ge (tgt := 39) hx hb dX8_add_16 (by decide) (fun c9 => absurd c9 (by decide +kernel)) (fun _ => ?_)
  refine lv_aload_n hx hb dX8_add_19 rfl (lv_at hl 0 rfl) ?_
  refine gm_get (D := D) (ci := 8) (v := .ref h1) (C := RX8) (T := TX8) (N := 2) hx hb hg inlX8 hown hK.1 hP 0 rfl rfl 0 (by decide) tX8_0 (hg _ gw_98) rfl dX8_add_20 ?_
  refine lv_aload_n hx hb dX8_add_23 rfl (lv_at hl 0 rfl) ?_
  refine gm_get (D := D) (ci := 8) (v := .int 0) (C := RX8) (T := TX8) (N := 2) hx hb hg inlX8 hown hK.1 hP 0 rfl rfl 1 (by decide) tX8_1 (hg _ gw_155) rfl dX8_add_24 ?_
  refine lv_lload_n hx hb dX8_add_27 rfl (lv_at hl 1 rfl) ?_
  refine va_last hx hb hK.1 hP hD hS 1 1 rfl rfl (by unfold vp_in; decide +kernel) dX8_add_28 ?_
  clear hP hD hS
  refine fun H locs (hP : va_P D vwCl [(h0, .inr (8, [.ref h1, .int 0])), (h1, .inl (y 1, 200, .inr (.inl (vp_updL wf4100085 ((0 : Int32).toNatClampNeg) 0))))] H) (hD : va_D A [(h0, .inr (8, [.ref h1, .int 0])), (h1, .inl (y 1, 200, .inr (.inl (vp_updL wf4100085 ((0 : Int32).toNatClampNeg) 0))))]) hS => ?_
  refine lv_aload_n hx hb dX8_add_29 rfl (lv_at hl 0 rfl) ?_
  refine lv_dup hx hb dX8_add_30 rfl ?_
  refine gm_get (D := D) (ci := 8) (v := .int 0) (C := RX8) (T := TX8) (N := 2) hx hb hg inlX8 hown hK.1 hP 0 rfl rfl 1 (by decide) tX8_1 (hg _ gw_155) rfl dX8_add_31 ?_
  refine lv_iconst (v := 1) hx hb dX8_add_34 (by decide) ?_
  refine lv_iadd hx hb dX8_add_35 ?_
  refine g_fi (v := 1) (by decide +kernel) ?_
  refine gm_put (D := D) (ci := 8) (v := .int 1) (ty := .int) (C := RX8) (T := TX8) (N := 2) hx hb hg inlX8 tyX8 tyX8_ok nmX8 hown hK.1 hP hD hS 0 rfl rfl 1 (by decide) tX8_1 (hg _ gw_155) (by decide +kernel) rfl rfl (Nat.le_of_ble_eq_true rfl) dX8_add_36 ?_
  clear hP hD hS H locs
  refine fun H locs (hP : va_P D vwCl [(h0, .inr (8, [.ref h1, .int 1])), (h1, .inl (y 1, 200, .inr (.inl (vp_updL wf4100085 ((0 : Int32).toNatClampNeg) 0))))] H) (hD : va_D A [(h0, .inr (8, [.ref h1, .int 1])), (h1, .inl (y 1, 200, .inr (.inl (vp_updL wf4100085 ((0 : Int32).toNatClampNeg) 0))))]) hS => ?_
  exact g_vret hx hb hr hlocks () hP hD hS trivial (Nat.le_of_ble_eq_true rfl) (Nat.le_of_ble_eq_true rfl) dX8_add_39
theorem ghV_RX8_19_X8_add : GoodIn wsL_law (wsV RX8 19 RX8 yX8_add (Cond.code yX8_add cX8_add 3 none :: wsL_law)) := g_gi (fun _ h => h) gW_good (List.forall_mem_cons.mpr ⟨⟨gw_160, rfl⟩, List.forall_mem_cons.mpr ⟨⟨gw_152, rfl⟩, List.forall_mem_cons.mpr ⟨⟨gw_153, rfl⟩, List.forall_mem_cons.mpr ⟨⟨gw_48, rfl⟩, fun _ h => nomatch h⟩⟩⟩⟩) ⟨gw_154, rfl⟩
set_option maxRecDepth 100000 in
set_option maxHeartbeats 4000000 in
theorem k_X8_addMany_4 (l : Launch) (D : va_G) (y : Nat → ClassId) (aS : Nat → Nat) (sz : Nat) (h0 : Nat) (h1 : Nat) (wf4100087 : Nat → Int64) : Met l yX8_addMany (Cond.code yX8_addMany cX8_addMany 5 none :: wsL_law) ({ frames := 1, cells := 0, slots := 0, locals := 22 } : Room) (va_Pc [.ref h0, .int 1, .long 0] (gI D y aS [(h0, .inr (8, [.ref h1, .int 0])), (h1, .inl (y 1, 200, .inr (.inl wf4100087)))] sz)) (va_Qv (fun (u : Unit) => True) (fun u => gO D (va_A [(h0, .inr (8, [.ref h1, .int 0])), (h1, .inl (y 1, 200, .inr (.inl wf4100087)))] sz) [(h0, .inr (8, [.ref h1, .int 1])), (h1, .inl (y 1, 200, .inr (.inl (vp_updL wf4100087 ((0 : Int32).toNatClampNeg) 0))))]) (va_A [(h0, .inr (8, [.ref h1, .int 0])), (h1, .inl (y 1, 200, .inr (.inl wf4100087)))] sz)) 0 0 (va_A [(h0, .inr (8, [.ref h1, .int 0])), (h1, .inl (y 1, 200, .inr (.inl wf4100087)))] sz) := by
  refine g_of (by decide) (Nat.le_of_ble_eq_true rfl) ?_
  intro p e s m below meth c ls A hx hb hr hml hown hg hlocks hin hsz hK hP hD hS hA hAe hl
  rw [← hAe]
  replace hown : s.vm.findClass RX8 = some m.cls := hown
  replace hl : lv_has ls 5 [(0, .ref h0), (1, .int 1), (2, .long 0)] := hl
  refine lv_iconst (v := 0) hx hb dX8_addMany_0 (by decide) ?_
  refine lv_istore (lv' := [(4, .int 0), (0, .ref h0), (1, .int 1), (2, .long 0)]) hx hb dX8_addMany_1 hl (by decide) rfl ?_
  clear hl
  clear ls
  intro ls hl
  refine lv_iload hx hb dX8_addMany_3 (lv_at hl 0 rfl) ?_
  refine lv_iload_n hx hb dX8_addMany_5 rfl (lv_at hl 2 rfl) ?_
  refine lv_icmp_ge (tgt := 30) hx hb dX8_addMany_6 (by decide) (fun c9 => absurd c9 (by decide +kernel)) (fun _ => ?_)
  refine lv_iload hx hb dX8_addMany_9 (lv_at hl 0 rfl) ?_
  refine lv_aload_n hx hb dX8_addMany_11 rfl (lv_at hl 1 rfl) ?_
  refine gm_get (D := D) (ci := 8) (v := .ref h1) (C := RX8) (T := TX8) (N := 2) hx hb hg inlX8 hown hK.1 hP 0 rfl rfl 0 (by decide) tX8_0 (hg _ gw_98) rfl dX8_addMany_12 ?_
  refine va_alen hx hb hK.1 hP 1 1 rfl rfl (v := 200) rfl dX8_addMany_15 ?_
  refine lv_icmp_ge (tgt := 30) hx hb dX8_addMany_16 (by decide) (fun c9 => absurd c9 (by decide +kernel)) (fun _ => ?_)
  refine lv_aload_n hx hb dX8_addMany_19 rfl (lv_at hl 1 rfl) ?_
  refine lv_lload_n hx hb dX8_addMany_20 rfl (lv_at hl 3 rfl) ?_
  refine g_av (wr := []) (va_runV (As := [.long 0]) (rest := []) ⟨hx, hb, hml, hown, hg⟩ (k_X8_add_28 l D y aS s.heap.size h0 h1 wf4100087) (cwV 1 hg ghV_RX8_19_X8_add rfl rfl rfl (by decide +kernel) ⟨Nat.le_of_ble_eq_true rfl, Nat.le_of_ble_eq_true rfl⟩) (g_preV (q := (RX8, TX8, 2)) hK hP hD [0, 1] rfl (by decide) (ci := 8) (q0 := 0) rfl rfl) rfl rfl hl.1 rfl (lv_room (Nat.le_of_ble_eq_true rfl)) dX8_addMany_21 ⟨Nat.le_of_ble_eq_true rfl, Nat.le_of_ble_eq_true rfl⟩) hP hD hS hA [0, 1] [] rfl rfl (by decide) (by decide) ?_
  clear hP hD hS
  refine fun u H locs hq hP hD hS => ?_
  replace hP : va_P D vwCl [(h0, .inr (8, [.ref h1, .int 1])), (h1, .inl (y 1, 200, .inr (.inl (vp_updL wf4100087 ((0 : Int32).toNatClampNeg) 0))))] H := hP
  replace hD : va_D A [(h0, .inr (8, [.ref h1, .int 1])), (h1, .inl (y 1, 200, .inr (.inl (vp_updL wf4100087 ((0 : Int32).toNatClampNeg) 0))))] := hD
  refine lv_iinc (v := 1) (lv' := [(4, .int 1), (0, .ref h0), (1, .int 1), (2, .long 0)]) hx hb dX8_addMany_24 hl (k := 0) rfl (by decide +kernel) (by decide) rfl ?_
  clear hl
  clear ls
  intro ls hl
  refine lv_goto (tgt := 3) hx hb dX8_addMany_27 (by decide) ?_
  refine lv_iload hx hb dX8_addMany_3 (lv_at hl 0 rfl) ?_
  refine lv_iload_n hx hb dX8_addMany_5 rfl (lv_at hl 2 rfl) ?_
  refine lv_icmp_ge (tgt := 30) hx hb dX8_addMany_6 (by decide) (fun _ => ?_) (fun c9 => absurd c9 (by decide +kernel))
  exact g_vret hx hb hr hlocks () hP hD hS trivial (Nat.le_of_ble_eq_true rfl) (Nat.le_of_ble_eq_true rfl) dX8_addMany_30
theorem ggV_RX5_44_X8_addMany : GoodIn wsL_law (wsV RX5 44 RX8 yX8_addMany (Cond.code yX8_addMany cX8_addMany 5 none :: wsL_law)) := g_gi (fun _ h => h) gW_good (List.forall_mem_cons.mpr ⟨⟨gw_1471, rfl⟩, List.forall_mem_cons.mpr ⟨⟨gw_157, rfl⟩, List.forall_mem_cons.mpr ⟨⟨gw_158, rfl⟩, List.forall_mem_cons.mpr ⟨⟨gw_48, rfl⟩, fun _ h => nomatch h⟩⟩⟩⟩) ⟨gw_159, rfl⟩
set_option maxRecDepth 100000 in
set_option maxHeartbeats 4000000 in
theorem k_X8_set_45 (l : Launch) (D : va_G) (y : Nat → ClassId) (aS : Nat → Nat) (sz : Nat) (h0 : Nat) (p1 : Int64) (h2 : Nat) (wp4100091 : Int32) (wf4100092 : Nat → Int64) : Met l yX8_set (Cond.code yX8_set cX8_set 4 none :: wsL_law) ({ frames := 0, cells := 0, slots := 0, locals := 0 } : Room) (va_Pc [.ref h0, .int 0, .long p1] (gI D y aS [(h0, .inr (8, [.ref h2, .int wp4100091])), (h2, .inl (y 1, 200, .inr (.inl wf4100092)))] sz)) (va_Qv (fun (u : Unit) => True) (fun u => gO D (va_A [(h0, .inr (8, [.ref h2, .int wp4100091])), (h2, .inl (y 1, 200, .inr (.inl wf4100092)))] sz) [(h0, .inr (8, [.ref h2, .int wp4100091])), (h2, .inl (y 1, 200, .inr (.inl (vp_updL wf4100092 ((0 : Int32).toNatClampNeg) p1))))]) (va_A [(h0, .inr (8, [.ref h2, .int wp4100091])), (h2, .inl (y 1, 200, .inr (.inl wf4100092)))] sz)) 0 0 (va_A [(h0, .inr (8, [.ref h2, .int wp4100091])), (h2, .inl (y 1, 200, .inr (.inl wf4100092)))] sz) := by
  refine g_of (by decide) (Nat.le_of_ble_eq_true rfl) ?_
  intro p e s m below meth c ls A hx hb hr hml hown hg hlocks hin hsz hK hP hD hS hA hAe hl
  rw [← hAe]
  replace hown : s.vm.findClass RX8 = some m.cls := hown
  replace hl : lv_has ls 4 [(0, .ref h0), (1, .int 0), (2, .long p1)] := hl
  refine lv_iload_n hx hb dX8_set_0 rfl (lv_at hl 1 rfl) ?_
  refine lv_if_lt (tgt := 20) hx hb dX8_set_1 (by decide) (fun c9 => absurd c9 (by decide +kernel)) (fun _ => ?_)
  refine lv_iload_n hx hb dX8_set_4 rfl (lv_at hl 1 rfl) ?_
  refine lv_aload_n hx hb dX8_set_5 rfl (lv_at hl 0 rfl) ?_
  refine gm_get (D := D) (ci := 8) (v := .ref h2) (C := RX8) (T := TX8) (N := 2) hx hb hg inlX8 hown hK.1 hP 0 rfl rfl 0 (by decide) tX8_0 (hg _ gw_98) rfl dX8_set_6 ?_
  refine va_alen hx hb hK.1 hP 1 1 rfl rfl (v := 200) rfl dX8_set_9 ?_
  refine lv_icmp_ge (tgt := 20) hx hb dX8_set_10 (by decide) (fun c9 => absurd c9 (by decide +kernel)) (fun _ => ?_)
  refine lv_aload_n hx hb dX8_set_13 rfl (lv_at hl 0 rfl) ?_
  refine gm_get (D := D) (ci := 8) (v := .ref h2) (C := RX8) (T := TX8) (N := 2) hx hb hg inlX8 hown hK.1 hP 0 rfl rfl 0 (by decide) tX8_0 (hg _ gw_98) rfl dX8_set_14 ?_
  refine lv_iload_n hx hb dX8_set_17 rfl (lv_at hl 1 rfl) ?_
  refine lv_lload_n hx hb dX8_set_18 rfl (lv_at hl 2 rfl) ?_
  refine va_last hx hb hK.1 hP hD hS 1 1 rfl rfl (by unfold vp_in; decide +kernel) dX8_set_19 ?_
  clear hP hD hS
  refine fun H locs (hP : va_P D vwCl [(h0, .inr (8, [.ref h2, .int wp4100091])), (h2, .inl (y 1, 200, .inr (.inl (vp_updL wf4100092 ((0 : Int32).toNatClampNeg) p1))))] H) (hD : va_D A [(h0, .inr (8, [.ref h2, .int wp4100091])), (h2, .inl (y 1, 200, .inr (.inl (vp_updL wf4100092 ((0 : Int32).toNatClampNeg) p1))))]) hS => ?_
  exact g_vret hx hb hr hlocks () hP hD hS trivial (Nat.le_of_ble_eq_true rfl) (Nat.le_of_ble_eq_true rfl) dX8_set_20
set_option maxRecDepth 100000 in
set_option maxHeartbeats 4000000 in
theorem k_X8_whole_27 (l : Launch) (D : va_G) (y : Nat → ClassId) (aS : Nat → Nat) (sz : Nat) (h0 : Nat) (h1 : Nat) (wp4100095 : Int32) : Met l yX8_whole (Cond.code yX8_whole cX8_whole 2 (some .int) :: wsL_law) ({ frames := 0, cells := 0, slots := 0, locals := 0 } : Room) (va_Pc [.ref h0, .int 0] (gI D y aS [(h0, .inr (8, [.ref h1, .int wp4100095])), (h1, .inl (y 1, 3, .inr (.inl (fun _ => 0))))] sz)) (va_Qi (fun (r : Int32) (u : Unit) => 0 = r) (fun u => gO D (va_A [(h0, .inr (8, [.ref h1, .int wp4100095])), (h1, .inl (y 1, 3, .inr (.inl (fun _ => 0))))] sz) [(h0, .inr (8, [.ref h1, .int wp4100095])), (h1, .inl (y 1, 3, .inr (.inl (fun _ => 0))))]) (va_A [(h0, .inr (8, [.ref h1, .int wp4100095])), (h1, .inl (y 1, 3, .inr (.inl (fun _ => 0))))] sz)) 0 0 (va_A [(h0, .inr (8, [.ref h1, .int wp4100095])), (h1, .inl (y 1, 3, .inr (.inl (fun _ => 0))))] sz) := by
  refine g_of (by decide) (Nat.le_of_ble_eq_true rfl) ?_
  intro p e s m below meth c ls A hx hb hr hml hown hg hlocks hin hsz hK hP hD hS hA hAe hl
  rw [← hAe]
  replace hown : s.vm.findClass RX8 = some m.cls := hown
  replace hl : lv_has ls 2 [(0, .ref h0), (1, .int 0)] := hl
  refine lv_iload_n hx hb dX8_whole_0 rfl (lv_at hl 1 rfl) ?_
  refine lv_if_lt (tgt := 23) hx hb dX8_whole_1 (by decide) (fun c9 => absurd c9 (by decide +kernel)) (fun _ => ?_)
  refine lv_iload_n hx hb dX8_whole_4 rfl (lv_at hl 1 rfl) ?_
  refine lv_aload_n hx hb dX8_whole_5 rfl (lv_at hl 0 rfl) ?_
  refine gm_get (D := D) (ci := 8) (v := .ref h1) (C := RX8) (T := TX8) (N := 2) hx hb hg inlX8 hown hK.1 hP 0 rfl rfl 0 (by decide) tX8_0 (hg _ gw_98) rfl dX8_whole_6 ?_
  refine va_alen hx hb hK.1 hP 1 1 rfl rfl (v := 3) rfl dX8_whole_9 ?_
  refine lv_icmp_ge (tgt := 23) hx hb dX8_whole_10 (by decide) (fun c9 => absurd c9 (by decide +kernel)) (fun _ => ?_)
  refine lv_aload_n hx hb dX8_whole_13 rfl (lv_at hl 0 rfl) ?_
  refine gm_get (D := D) (ci := 8) (v := .ref h1) (C := RX8) (T := TX8) (N := 2) hx hb hg inlX8 hown hK.1 hP 0 rfl rfl 0 (by decide) tX8_0 (hg _ gw_98) rfl dX8_whole_14 ?_
  refine lv_iload_n hx hb dX8_whole_17 rfl (lv_at hl 1 rfl) ?_
  refine va_lald hx hb hK.1 hP 1 1 rfl rfl (by unfold vp_in; decide +kernel) dX8_whole_18 ?_
  refine g_fj (v := 0) (by rfl) ?_
  refine lv_l2i (v := 0) hx hb dX8_whole_19 (by decide +kernel) ?_
  refine lv_goto (tgt := 24) hx hb dX8_whole_20 (by decide) ?_
  exact g_iret hx hb hr hlocks () hP hD hS rfl rfl (Nat.le_of_ble_eq_true rfl) (Nat.le_of_ble_eq_true rfl) dX8_whole_24
theorem ggV_RX5_50_X8_whole : GoodIn wsL_law (wsV RX5 50 RX8 yX8_whole (Cond.code yX8_whole cX8_whole 2 (some .int) :: wsL_law)) := g_gi (fun _ h => h) gW_good (List.forall_mem_cons.mpr ⟨⟨gw_1447, rfl⟩, List.forall_mem_cons.mpr ⟨⟨gw_429, rfl⟩, List.forall_mem_cons.mpr ⟨⟨gw_430, rfl⟩, List.forall_mem_cons.mpr ⟨⟨gw_48, rfl⟩, fun _ h => nomatch h⟩⟩⟩⟩) ⟨gw_431, rfl⟩
set_option maxRecDepth 100000 in
set_option maxHeartbeats 4000000 in
theorem k_X5_find_0 (l : Launch) (D : va_G) (y : Nat → ClassId) (aS : Nat → Nat) (sz : Nat) (h0 : Nat) (h1 : Nat) (h2 : Nat) (h3 : Nat) (h4 : Nat) (wp4100097 : Int32) (h6 : Nat) (wp4100098 : Int32) : Met l yX5_find (Cond.code yX5_find cX5_find 6 none :: wsL_law) ({ frames := 1, cells := 0, slots := 0, locals := 21 } : Room) (va_Pc [.ref h0, .int 0, .int 0] (gI D y aS [(h0, .inr (5, [.ref h1, .ref h2, .ref h3, .ref h4, .int wp4100097])), (h4, .inr (8, [.ref h6, .int wp4100098])), (h6, .inl (y 1, 3, .inr (.inl (fun _ => 0))))] sz)) (va_Qv (fun (u : Unit) => True) (fun u => gO D (va_A [(h0, .inr (5, [.ref h1, .ref h2, .ref h3, .ref h4, .int wp4100097])), (h4, .inr (8, [.ref h6, .int wp4100098])), (h6, .inl (y 1, 3, .inr (.inl (fun _ => 0))))] sz) [(h0, .inr (5, [.ref h1, .ref h2, .ref h3, .ref h4, .int wp4100097])), (h4, .inr (8, [.ref h6, .int wp4100098])), (h6, .inl (y 1, 3, .inr (.inl (fun _ => 0))))]) (va_A [(h0, .inr (5, [.ref h1, .ref h2, .ref h3, .ref h4, .int wp4100097])), (h4, .inr (8, [.ref h6, .int wp4100098])), (h6, .inl (y 1, 3, .inr (.inl (fun _ => 0))))] sz)) 0 0 (va_A [(h0, .inr (5, [.ref h1, .ref h2, .ref h3, .ref h4, .int wp4100097])), (h4, .inr (8, [.ref h6, .int wp4100098])), (h6, .inl (y 1, 3, .inr (.inl (fun _ => 0))))] sz) := by
  refine g_of (by decide) (Nat.le_of_ble_eq_true rfl) ?_
  intro p e s m below meth c ls A hx hb hr hml hown hg hlocks hin hsz hK hP hD hS hA hAe hl
  rw [← hAe]
  replace hown : s.vm.findClass RX5 = some m.cls := hown
  replace hl : lv_has ls 6 [(0, .ref h0), (1, .int 0), (2, .int 0)] := hl
  refine lv_aload_n hx hb dX5_find_0 rfl (lv_at hl 0 rfl) ?_
  refine gm_get (D := D) (ci := 5) (v := .ref h4) (C := RX5) (T := TX5) (N := 5) hx hb hg inlX5 hown hK.1 hP 0 rfl rfl 3 (by decide) tX5_3 (hg _ gw_141) rfl dX5_find_1 ?_
  refine lv_iload_n hx hb dX5_find_4 rfl (lv_at hl 1 rfl) ?_
  refine g_ai (wr := [(h0, .inr (5, [.ref h1, .ref h2, .ref h3, .ref h4, .int wp4100097]))]) (va_runV (As := [.int 0]) (rest := []) ⟨hx, hb, hml, hown, hg⟩ (k_X8_whole_27 l D y aS s.heap.size h4 h6 wp4100098) (cwV 1 hg ggV_RX5_50_X8_whole rfl rfl rfl (by decide +kernel) ⟨Nat.le_of_ble_eq_true rfl, Nat.le_of_ble_eq_true rfl⟩) (g_preV (q := (RX8, TX8, 2)) hK hP hD [1, 2] rfl (by decide) (ci := 8) (q0 := 1) rfl rfl) rfl rfl hl.1 rfl (lv_room (Nat.le_of_ble_eq_true rfl)) dX5_find_5 ⟨Nat.le_of_ble_eq_true rfl, Nat.le_of_ble_eq_true rfl⟩) hP hD hS hA [1, 2] [0] rfl rfl (by decide) (by decide) ?_
  clear hP hD hS
  refine fun r4100099 u H locs hq hP hD hS => ?_
  subst hq
  replace hP : va_P D vwCl [(h0, .inr (5, [.ref h1, .ref h2, .ref h3, .ref h4, .int wp4100097])), (h4, .inr (8, [.ref h6, .int wp4100098])), (h6, .inl (y 1, 3, .inr (.inl (fun _ => 0))))] H := hP
  replace hD : va_D A [(h0, .inr (5, [.ref h1, .ref h2, .ref h3, .ref h4, .int wp4100097])), (h4, .inr (8, [.ref h6, .int wp4100098])), (h6, .inl (y 1, 3, .inr (.inl (fun _ => 0))))] := hD
  refine lv_istore_n (lv' := [(3, .int 0), (0, .ref h0), (1, .int 0), (2, .int 0)]) hx hb dX5_find_8 rfl hl (by decide) rfl ?_
  clear hl
  clear ls
  intro ls hl
  refine lv_iconst (v := 0) hx hb dX5_find_9 (by decide) ?_
  refine lv_istore (lv' := [(4, .int 0), (3, .int 0), (0, .ref h0), (1, .int 0), (2, .int 0)]) hx hb dX5_find_10 hl (by decide) rfl ?_
  clear hl
  clear ls
  intro ls hl
  refine lv_iload hx hb dX5_find_12 (lv_at hl 0 rfl) ?_
  refine lv_iload_n hx hb dX5_find_14 rfl (lv_at hl 1 rfl) ?_
  refine lv_icmp_ge (tgt := 67) hx hb dX5_find_15 (by decide) (fun _ => ?_) (fun c9 => absurd c9 (by decide +kernel))
  refine lv_iload_n hx hb dX5_find_67 rfl (lv_at hl 1 rfl) ?_
  refine lv_if_le (tgt := 107) hx hb dX5_find_68 (by decide) (fun _ => ?_) (fun c9 => absurd c9 (by decide +kernel))
  refine lv_iload hx hb dX5_find_107 (lv_at hl 0 rfl) ?_
  refine lv_if_le (tgt := 139) hx hb dX5_find_109 (by decide) (fun _ => ?_) (fun c9 => absurd c9 (by decide +kernel))
  exact g_vret hx hb hr hlocks () hP hD hS trivial (Nat.le_of_ble_eq_true rfl) (Nat.le_of_ble_eq_true rfl) dX5_find_139
theorem ggV_RX5_54_X5_find : GoodIn wsL_law (wsV RX5 54 RX5 yX5_find (Cond.code yX5_find cX5_find 6 none :: wsL_law)) := g_gi (fun _ h => h) gW_good (List.forall_mem_cons.mpr ⟨⟨gw_1443, rfl⟩, List.forall_mem_cons.mpr ⟨⟨gw_1444, rfl⟩, List.forall_mem_cons.mpr ⟨⟨gw_1445, rfl⟩, List.forall_mem_cons.mpr ⟨⟨gw_39, rfl⟩, fun _ h => nomatch h⟩⟩⟩⟩) ⟨gw_1446, rfl⟩
set_option maxRecDepth 100000 in
set_option maxHeartbeats 4000000 in
theorem k_X8_whole_28 (l : Launch) (D : va_G) (y : Nat → ClassId) (aS : Nat → Nat) (sz : Nat) (h0 : Nat) (h1 : Nat) (wp4100101 : Int32) : Met l yX8_whole (Cond.code yX8_whole cX8_whole 2 (some .int) :: wsL_law) ({ frames := 0, cells := 0, slots := 0, locals := 0 } : Room) (va_Pc [.ref h0, .int 1] (gI D y aS [(h0, .inr (8, [.ref h1, .int wp4100101])), (h1, .inl (y 1, 3, .inr (.inl (fun _ => 0))))] sz)) (va_Qi (fun (r : Int32) (u : Unit) => 0 = r) (fun u => gO D (va_A [(h0, .inr (8, [.ref h1, .int wp4100101])), (h1, .inl (y 1, 3, .inr (.inl (fun _ => 0))))] sz) [(h0, .inr (8, [.ref h1, .int wp4100101])), (h1, .inl (y 1, 3, .inr (.inl (fun _ => 0))))]) (va_A [(h0, .inr (8, [.ref h1, .int wp4100101])), (h1, .inl (y 1, 3, .inr (.inl (fun _ => 0))))] sz)) 0 0 (va_A [(h0, .inr (8, [.ref h1, .int wp4100101])), (h1, .inl (y 1, 3, .inr (.inl (fun _ => 0))))] sz) := by
  refine g_of (by decide) (Nat.le_of_ble_eq_true rfl) ?_
  intro p e s m below meth c ls A hx hb hr hml hown hg hlocks hin hsz hK hP hD hS hA hAe hl
  rw [← hAe]
  replace hown : s.vm.findClass RX8 = some m.cls := hown
  replace hl : lv_has ls 2 [(0, .ref h0), (1, .int 1)] := hl
  refine lv_iload_n hx hb dX8_whole_0 rfl (lv_at hl 1 rfl) ?_
  refine lv_if_lt (tgt := 23) hx hb dX8_whole_1 (by decide) (fun c9 => absurd c9 (by decide +kernel)) (fun _ => ?_)
  refine lv_iload_n hx hb dX8_whole_4 rfl (lv_at hl 1 rfl) ?_
  refine lv_aload_n hx hb dX8_whole_5 rfl (lv_at hl 0 rfl) ?_
  refine gm_get (D := D) (ci := 8) (v := .ref h1) (C := RX8) (T := TX8) (N := 2) hx hb hg inlX8 hown hK.1 hP 0 rfl rfl 0 (by decide) tX8_0 (hg _ gw_98) rfl dX8_whole_6 ?_
  refine va_alen hx hb hK.1 hP 1 1 rfl rfl (v := 3) rfl dX8_whole_9 ?_
  refine lv_icmp_ge (tgt := 23) hx hb dX8_whole_10 (by decide) (fun c9 => absurd c9 (by decide +kernel)) (fun _ => ?_)
  refine lv_aload_n hx hb dX8_whole_13 rfl (lv_at hl 0 rfl) ?_
  refine gm_get (D := D) (ci := 8) (v := .ref h1) (C := RX8) (T := TX8) (N := 2) hx hb hg inlX8 hown hK.1 hP 0 rfl rfl 0 (by decide) tX8_0 (hg _ gw_98) rfl dX8_whole_14 ?_
  refine lv_iload_n hx hb dX8_whole_17 rfl (lv_at hl 1 rfl) ?_
  refine va_lald hx hb hK.1 hP 1 1 rfl rfl (by unfold vp_in; decide +kernel) dX8_whole_18 ?_
  refine g_fj (v := 0) (by rfl) ?_
  refine lv_l2i (v := 0) hx hb dX8_whole_19 (by decide +kernel) ?_
  refine lv_goto (tgt := 24) hx hb dX8_whole_20 (by decide) ?_
  exact g_iret hx hb hr hlocks () hP hD hS rfl rfl (Nat.le_of_ble_eq_true rfl) (Nat.le_of_ble_eq_true rfl) dX8_whole_24
set_option maxRecDepth 100000 in
set_option maxHeartbeats 4000000 in
theorem k_X5_find_1 (l : Launch) (D : va_G) (y : Nat → ClassId) (aS : Nat → Nat) (sz : Nat) (h0 : Nat) (h1 : Nat) (h2 : Nat) (h3 : Nat) (h4 : Nat) (wp4100103 : Int32) (h6 : Nat) (wp4100104 : Int32) : Met l yX5_find (Cond.code yX5_find cX5_find 6 none :: wsL_law) ({ frames := 1, cells := 0, slots := 0, locals := 21 } : Room) (va_Pc [.ref h0, .int 1, .int 0] (gI D y aS [(h0, .inr (5, [.ref h1, .ref h2, .ref h3, .ref h4, .int wp4100103])), (h4, .inr (8, [.ref h6, .int wp4100104])), (h6, .inl (y 1, 3, .inr (.inl (fun _ => 0))))] sz)) (va_Qv (fun (u : Unit) => True) (fun u => gO D (va_A [(h0, .inr (5, [.ref h1, .ref h2, .ref h3, .ref h4, .int wp4100103])), (h4, .inr (8, [.ref h6, .int wp4100104])), (h6, .inl (y 1, 3, .inr (.inl (fun _ => 0))))] sz) [(h0, .inr (5, [.ref h1, .ref h2, .ref h3, .ref h4, .int wp4100103])), (h4, .inr (8, [.ref h6, .int wp4100104])), (h6, .inl (y 1, 3, .inr (.inl (fun _ => 0))))]) (va_A [(h0, .inr (5, [.ref h1, .ref h2, .ref h3, .ref h4, .int wp4100103])), (h4, .inr (8, [.ref h6, .int wp4100104])), (h6, .inl (y 1, 3, .inr (.inl (fun _ => 0))))] sz)) 0 0 (va_A [(h0, .inr (5, [.ref h1, .ref h2, .ref h3, .ref h4, .int wp4100103])), (h4, .inr (8, [.ref h6, .int wp4100104])), (h6, .inl (y 1, 3, .inr (.inl (fun _ => 0))))] sz) := by
  refine g_of (by decide) (Nat.le_of_ble_eq_true rfl) ?_
  intro p e s m below meth c ls A hx hb hr hml hown hg hlocks hin hsz hK hP hD hS hA hAe hl
  rw [← hAe]
  replace hown : s.vm.findClass RX5 = some m.cls := hown
  replace hl : lv_has ls 6 [(0, .ref h0), (1, .int 1), (2, .int 0)] := hl
  refine lv_aload_n hx hb dX5_find_0 rfl (lv_at hl 0 rfl) ?_
  refine gm_get (D := D) (ci := 5) (v := .ref h4) (C := RX5) (T := TX5) (N := 5) hx hb hg inlX5 hown hK.1 hP 0 rfl rfl 3 (by decide) tX5_3 (hg _ gw_141) rfl dX5_find_1 ?_
  refine lv_iload_n hx hb dX5_find_4 rfl (lv_at hl 1 rfl) ?_
  refine g_ai (wr := [(h0, .inr (5, [.ref h1, .ref h2, .ref h3, .ref h4, .int wp4100103]))]) (va_runV (As := [.int 1]) (rest := []) ⟨hx, hb, hml, hown, hg⟩ (k_X8_whole_28 l D y aS s.heap.size h4 h6 wp4100104) (cwV 1 hg ggV_RX5_50_X8_whole rfl rfl rfl (by decide +kernel) ⟨Nat.le_of_ble_eq_true rfl, Nat.le_of_ble_eq_true rfl⟩) (g_preV (q := (RX8, TX8, 2)) hK hP hD [1, 2] rfl (by decide) (ci := 8) (q0 := 1) rfl rfl) rfl rfl hl.1 rfl (lv_room (Nat.le_of_ble_eq_true rfl)) dX5_find_5 ⟨Nat.le_of_ble_eq_true rfl, Nat.le_of_ble_eq_true rfl⟩) hP hD hS hA [1, 2] [0] rfl rfl (by decide) (by decide) ?_
  clear hP hD hS
  refine fun r4100105 u H locs hq hP hD hS => ?_
  subst hq
  replace hP : va_P D vwCl [(h0, .inr (5, [.ref h1, .ref h2, .ref h3, .ref h4, .int wp4100103])), (h4, .inr (8, [.ref h6, .int wp4100104])), (h6, .inl (y 1, 3, .inr (.inl (fun _ => 0))))] H := hP
  replace hD : va_D A [(h0, .inr (5, [.ref h1, .ref h2, .ref h3, .ref h4, .int wp4100103])), (h4, .inr (8, [.ref h6, .int wp4100104])), (h6, .inl (y 1, 3, .inr (.inl (fun _ => 0))))] := hD
  refine lv_istore_n (lv' := [(3, .int 0), (0, .ref h0), (1, .int 1), (2, .int 0)]) hx hb dX5_find_8 rfl hl (by decide) rfl ?_
  clear hl
  clear ls
  intro ls hl
  refine lv_iconst (v := 0) hx hb dX5_find_9 (by decide) ?_
  refine lv_istore (lv' := [(4, .int 0), (3, .int 0), (0, .ref h0), (1, .int 1), (2, .int 0)]) hx hb dX5_find_10 hl (by decide) rfl ?_
  clear hl
  clear ls
  intro ls hl
  refine lv_iload hx hb dX5_find_12 (lv_at hl 0 rfl) ?_
  refine lv_iload_n hx hb dX5_find_14 rfl (lv_at hl 1 rfl) ?_
  refine lv_icmp_ge (tgt := 67) hx hb dX5_find_15 (by decide) (fun _ => ?_) (fun c9 => absurd c9 (by decide +kernel))
  refine lv_iload_n hx hb dX5_find_67 rfl (lv_at hl 1 rfl) ?_
  refine lv_if_le (tgt := 107) hx hb dX5_find_68 (by decide) (fun _ => ?_) (fun c9 => absurd c9 (by decide +kernel))
  refine lv_iload hx hb dX5_find_107 (lv_at hl 0 rfl) ?_
  refine lv_if_le (tgt := 139) hx hb dX5_find_109 (by decide) (fun _ => ?_) (fun c9 => absurd c9 (by decide +kernel))
  exact g_vret hx hb hr hlocks () hP hD hS trivial (Nat.le_of_ble_eq_true rfl) (Nat.le_of_ble_eq_true rfl) dX5_find_139
set_option maxRecDepth 100000 in
set_option maxHeartbeats 4000000 in
theorem k_X8_whole_29 (l : Launch) (D : va_G) (y : Nat → ClassId) (aS : Nat → Nat) (sz : Nat) (h0 : Nat) (h1 : Nat) (wp4100107 : Int32) : Met l yX8_whole (Cond.code yX8_whole cX8_whole 2 (some .int) :: wsL_law) ({ frames := 0, cells := 0, slots := 0, locals := 0 } : Room) (va_Pc [.ref h0, .int 2] (gI D y aS [(h0, .inr (8, [.ref h1, .int wp4100107])), (h1, .inl (y 1, 3, .inr (.inl (fun _ => 0))))] sz)) (va_Qi (fun (r : Int32) (u : Unit) => 0 = r) (fun u => gO D (va_A [(h0, .inr (8, [.ref h1, .int wp4100107])), (h1, .inl (y 1, 3, .inr (.inl (fun _ => 0))))] sz) [(h0, .inr (8, [.ref h1, .int wp4100107])), (h1, .inl (y 1, 3, .inr (.inl (fun _ => 0))))]) (va_A [(h0, .inr (8, [.ref h1, .int wp4100107])), (h1, .inl (y 1, 3, .inr (.inl (fun _ => 0))))] sz)) 0 0 (va_A [(h0, .inr (8, [.ref h1, .int wp4100107])), (h1, .inl (y 1, 3, .inr (.inl (fun _ => 0))))] sz) := by
  refine g_of (by decide) (Nat.le_of_ble_eq_true rfl) ?_
  intro p e s m below meth c ls A hx hb hr hml hown hg hlocks hin hsz hK hP hD hS hA hAe hl
  rw [← hAe]
  replace hown : s.vm.findClass RX8 = some m.cls := hown
  replace hl : lv_has ls 2 [(0, .ref h0), (1, .int 2)] := hl
  refine lv_iload_n hx hb dX8_whole_0 rfl (lv_at hl 1 rfl) ?_
  refine lv_if_lt (tgt := 23) hx hb dX8_whole_1 (by decide) (fun c9 => absurd c9 (by decide +kernel)) (fun _ => ?_)
  refine lv_iload_n hx hb dX8_whole_4 rfl (lv_at hl 1 rfl) ?_
  refine lv_aload_n hx hb dX8_whole_5 rfl (lv_at hl 0 rfl) ?_
  refine gm_get (D := D) (ci := 8) (v := .ref h1) (C := RX8) (T := TX8) (N := 2) hx hb hg inlX8 hown hK.1 hP 0 rfl rfl 0 (by decide) tX8_0 (hg _ gw_98) rfl dX8_whole_6 ?_
  refine va_alen hx hb hK.1 hP 1 1 rfl rfl (v := 3) rfl dX8_whole_9 ?_
  refine lv_icmp_ge (tgt := 23) hx hb dX8_whole_10 (by decide) (fun c9 => absurd c9 (by decide +kernel)) (fun _ => ?_)
  refine lv_aload_n hx hb dX8_whole_13 rfl (lv_at hl 0 rfl) ?_
  refine gm_get (D := D) (ci := 8) (v := .ref h1) (C := RX8) (T := TX8) (N := 2) hx hb hg inlX8 hown hK.1 hP 0 rfl rfl 0 (by decide) tX8_0 (hg _ gw_98) rfl dX8_whole_14 ?_
  refine lv_iload_n hx hb dX8_whole_17 rfl (lv_at hl 1 rfl) ?_
  refine va_lald hx hb hK.1 hP 1 1 rfl rfl (by unfold vp_in; decide +kernel) dX8_whole_18 ?_
  refine g_fj (v := 0) (by rfl) ?_
  refine lv_l2i (v := 0) hx hb dX8_whole_19 (by decide +kernel) ?_
  refine lv_goto (tgt := 24) hx hb dX8_whole_20 (by decide) ?_
  exact g_iret hx hb hr hlocks () hP hD hS rfl rfl (Nat.le_of_ble_eq_true rfl) (Nat.le_of_ble_eq_true rfl) dX8_whole_24
set_option maxRecDepth 100000 in
set_option maxHeartbeats 4000000 in
theorem k_X5_find_2 (l : Launch) (D : va_G) (y : Nat → ClassId) (aS : Nat → Nat) (sz : Nat) (h0 : Nat) (h1 : Nat) (h2 : Nat) (h3 : Nat) (h4 : Nat) (wp4100109 : Int32) (h6 : Nat) (wp4100110 : Int32) : Met l yX5_find (Cond.code yX5_find cX5_find 6 none :: wsL_law) ({ frames := 1, cells := 0, slots := 0, locals := 21 } : Room) (va_Pc [.ref h0, .int 2, .int 0] (gI D y aS [(h0, .inr (5, [.ref h1, .ref h2, .ref h3, .ref h4, .int wp4100109])), (h4, .inr (8, [.ref h6, .int wp4100110])), (h6, .inl (y 1, 3, .inr (.inl (fun _ => 0))))] sz)) (va_Qv (fun (u : Unit) => True) (fun u => gO D (va_A [(h0, .inr (5, [.ref h1, .ref h2, .ref h3, .ref h4, .int wp4100109])), (h4, .inr (8, [.ref h6, .int wp4100110])), (h6, .inl (y 1, 3, .inr (.inl (fun _ => 0))))] sz) [(h0, .inr (5, [.ref h1, .ref h2, .ref h3, .ref h4, .int wp4100109])), (h4, .inr (8, [.ref h6, .int wp4100110])), (h6, .inl (y 1, 3, .inr (.inl (fun _ => 0))))]) (va_A [(h0, .inr (5, [.ref h1, .ref h2, .ref h3, .ref h4, .int wp4100109])), (h4, .inr (8, [.ref h6, .int wp4100110])), (h6, .inl (y 1, 3, .inr (.inl (fun _ => 0))))] sz)) 0 0 (va_A [(h0, .inr (5, [.ref h1, .ref h2, .ref h3, .ref h4, .int wp4100109])), (h4, .inr (8, [.ref h6, .int wp4100110])), (h6, .inl (y 1, 3, .inr (.inl (fun _ => 0))))] sz) := by
  refine g_of (by decide) (Nat.le_of_ble_eq_true rfl) ?_
  intro p e s m below meth c ls A hx hb hr hml hown hg hlocks hin hsz hK hP hD hS hA hAe hl
  rw [← hAe]
  replace hown : s.vm.findClass RX5 = some m.cls := hown
  replace hl : lv_has ls 6 [(0, .ref h0), (1, .int 2), (2, .int 0)] := hl
  refine lv_aload_n hx hb dX5_find_0 rfl (lv_at hl 0 rfl) ?_
  refine gm_get (D := D) (ci := 5) (v := .ref h4) (C := RX5) (T := TX5) (N := 5) hx hb hg inlX5 hown hK.1 hP 0 rfl rfl 3 (by decide) tX5_3 (hg _ gw_141) rfl dX5_find_1 ?_
  refine lv_iload_n hx hb dX5_find_4 rfl (lv_at hl 1 rfl) ?_
  refine g_ai (wr := [(h0, .inr (5, [.ref h1, .ref h2, .ref h3, .ref h4, .int wp4100109]))]) (va_runV (As := [.int 2]) (rest := []) ⟨hx, hb, hml, hown, hg⟩ (k_X8_whole_29 l D y aS s.heap.size h4 h6 wp4100110) (cwV 1 hg ggV_RX5_50_X8_whole rfl rfl rfl (by decide +kernel) ⟨Nat.le_of_ble_eq_true rfl, Nat.le_of_ble_eq_true rfl⟩) (g_preV (q := (RX8, TX8, 2)) hK hP hD [1, 2] rfl (by decide) (ci := 8) (q0 := 1) rfl rfl) rfl rfl hl.1 rfl (lv_room (Nat.le_of_ble_eq_true rfl)) dX5_find_5 ⟨Nat.le_of_ble_eq_true rfl, Nat.le_of_ble_eq_true rfl⟩) hP hD hS hA [1, 2] [0] rfl rfl (by decide) (by decide) ?_
  clear hP hD hS
  refine fun r4100111 u H locs hq hP hD hS => ?_
  subst hq
  replace hP : va_P D vwCl [(h0, .inr (5, [.ref h1, .ref h2, .ref h3, .ref h4, .int wp4100109])), (h4, .inr (8, [.ref h6, .int wp4100110])), (h6, .inl (y 1, 3, .inr (.inl (fun _ => 0))))] H := hP
  replace hD : va_D A [(h0, .inr (5, [.ref h1, .ref h2, .ref h3, .ref h4, .int wp4100109])), (h4, .inr (8, [.ref h6, .int wp4100110])), (h6, .inl (y 1, 3, .inr (.inl (fun _ => 0))))] := hD
  refine lv_istore_n (lv' := [(3, .int 0), (0, .ref h0), (1, .int 2), (2, .int 0)]) hx hb dX5_find_8 rfl hl (by decide) rfl ?_
  clear hl
  clear ls
  intro ls hl
  refine lv_iconst (v := 0) hx hb dX5_find_9 (by decide) ?_
  refine lv_istore (lv' := [(4, .int 0), (3, .int 0), (0, .ref h0), (1, .int 2), (2, .int 0)]) hx hb dX5_find_10 hl (by decide) rfl ?_
  clear hl
  clear ls
  intro ls hl
  refine lv_iload hx hb dX5_find_12 (lv_at hl 0 rfl) ?_
  refine lv_iload_n hx hb dX5_find_14 rfl (lv_at hl 1 rfl) ?_
  refine lv_icmp_ge (tgt := 67) hx hb dX5_find_15 (by decide) (fun _ => ?_) (fun c9 => absurd c9 (by decide +kernel))
  refine lv_iload_n hx hb dX5_find_67 rfl (lv_at hl 1 rfl) ?_
  refine lv_if_le (tgt := 107) hx hb dX5_find_68 (by decide) (fun _ => ?_) (fun c9 => absurd c9 (by decide +kernel))
  refine lv_iload hx hb dX5_find_107 (lv_at hl 0 rfl) ?_
  refine lv_if_le (tgt := 139) hx hb dX5_find_109 (by decide) (fun _ => ?_) (fun c9 => absurd c9 (by decide +kernel))
  exact g_vret hx hb hr hlocks () hP hD hS trivial (Nat.le_of_ble_eq_true rfl) (Nat.le_of_ble_eq_true rfl) dX5_find_139
set_option maxRecDepth 100000 in
set_option maxHeartbeats 4000000 in
theorem k_X5_findOut_1 (l : Launch) (D : va_G) (y : Nat → ClassId) (aS : Nat → Nat) (sz : Nat) (h0 : Nat) (h1 : Nat) (h2 : Nat) (h3 : Nat) (h4 : Nat) (wp4100113 : Int32) (h6 : Nat) (h7 : Nat) (wp4100114 : Int32) (wf4100115 : Nat → Int64) (h10 : Nat) (wp4100116 : Int32) : Met l yX5_findOut (Cond.code yX5_findOut cX5_findOut 3 none :: wsL_law) ({ frames := 2, cells := 0, slots := 0, locals := 46 } : Room) (va_Pc [.ref h0] (gI D y aS [(h0, .inr (5, [.ref h1, .ref h2, .ref h3, .ref h4, .int wp4100113])), (h1, .inr (8, [.ref h6, .int 1])), (h2, .inr (8, [.ref h7, .int wp4100114])), (h7, .inl (y 1, 200, .inr (.inl wf4100115))), (h4, .inr (8, [.ref h10, .int wp4100116])), (h10, .inl (y 1, 3, .inr (.inl (fun _ => 0))))] sz)) (va_Qv (fun (u : Unit) => True) (fun u => gO D (va_A [(h0, .inr (5, [.ref h1, .ref h2, .ref h3, .ref h4, .int wp4100113])), (h1, .inr (8, [.ref h6, .int 1])), (h2, .inr (8, [.ref h7, .int wp4100114])), (h7, .inl (y 1, 200, .inr (.inl wf4100115))), (h4, .inr (8, [.ref h10, .int wp4100116])), (h10, .inl (y 1, 3, .inr (.inl (fun _ => 0))))] sz) [(h0, .inr (5, [.ref h1, .ref h2, .ref h3, .ref h4, .int 1])), (h1, .inr (8, [.ref h6, .int 1])), (h2, .inr (8, [.ref h7, .int wp4100114])), (h7, .inl (y 1, 200, .inr (.inl (vp_updL wf4100115 ((0 : Int32).toNatClampNeg) 0)))), (h4, .inr (8, [.ref h10, .int wp4100116])), (h10, .inl (y 1, 3, .inr (.inl (fun _ => 0))))]) (va_A [(h0, .inr (5, [.ref h1, .ref h2, .ref h3, .ref h4, .int wp4100113])), (h1, .inr (8, [.ref h6, .int 1])), (h2, .inr (8, [.ref h7, .int wp4100114])), (h7, .inl (y 1, 200, .inr (.inl wf4100115))), (h4, .inr (8, [.ref h10, .int wp4100116])), (h10, .inl (y 1, 3, .inr (.inl (fun _ => 0))))] sz)) 0 0 (va_A [(h0, .inr (5, [.ref h1, .ref h2, .ref h3, .ref h4, .int wp4100113])), (h1, .inr (8, [.ref h6, .int 1])), (h2, .inr (8, [.ref h7, .int wp4100114])), (h7, .inl (y 1, 200, .inr (.inl wf4100115))), (h4, .inr (8, [.ref h10, .int wp4100116])), (h10, .inl (y 1, 3, .inr (.inl (fun _ => 0))))] sz) := by
  refine g_of (by decide) (Nat.le_of_ble_eq_true rfl) ?_
  intro p e s m below meth c ls A hx hb hr hml hown hg hlocks hin hsz hK hP hD hS hA hAe hl
  rw [← hAe]
  replace hown : s.vm.findClass RX5 = some m.cls := hown
  replace hl : lv_has ls 3 [(0, .ref h0)] := hl
  refine lv_aload_n hx hb dX5_findOut_0 rfl (lv_at hl 0 rfl) ?_
  refine lv_aload_n hx hb dX5_findOut_1 rfl (lv_at hl 0 rfl) ?_
  refine gm_get (D := D) (ci := 5) (v := .ref h1) (C := RX5) (T := TX5) (N := 5) hx hb hg inlX5 hown hK.1 hP 0 rfl rfl 0 (by decide) tX5_0 (hg _ gw_138) rfl dX5_findOut_2 ?_
  refine gm_get (D := D) (ci := 8) (v := .int 1) (C := RX8) (T := TX8) (N := 2) hx hb hg inlX8 hown hK.1 hP 1 rfl rfl 1 (by decide) tX8_1 (hg _ gw_1441) rfl dX5_findOut_5 ?_
  refine gm_put (D := D) (ci := 5) (v := .int 1) (ty := .int) (C := RX5) (T := TX5) (N := 5) hx hb hg inlX5 tyX5 tyX5_ok nmX5 hown hK.1 hP hD hS 0 rfl rfl 4 (by decide) tX5_4 (hg _ gw_1442) (by decide +kernel) rfl rfl (Nat.le_of_ble_eq_true rfl) dX5_findOut_8 ?_
  clear hP hD hS
  refine fun H locs (hP : va_P D vwCl [(h0, .inr (5, [.ref h1, .ref h2, .ref h3, .ref h4, .int 1])), (h1, .inr (8, [.ref h6, .int 1])), (h2, .inr (8, [.ref h7, .int wp4100114])), (h7, .inl (y 1, 200, .inr (.inl wf4100115))), (h4, .inr (8, [.ref h10, .int wp4100116])), (h10, .inl (y 1, 3, .inr (.inl (fun _ => 0))))] H) (hD : va_D A [(h0, .inr (5, [.ref h1, .ref h2, .ref h3, .ref h4, .int 1])), (h1, .inr (8, [.ref h6, .int 1])), (h2, .inr (8, [.ref h7, .int wp4100114])), (h7, .inl (y 1, 200, .inr (.inl wf4100115))), (h4, .inr (8, [.ref h10, .int wp4100116])), (h10, .inl (y 1, 3, .inr (.inl (fun _ => 0))))]) hS => ?_
  refine lv_iconst (v := 0) hx hb dX5_findOut_11 (by decide) ?_
  refine lv_istore_n (lv' := [(1, .int 0), (0, .ref h0)]) hx hb dX5_findOut_12 rfl hl (by decide) rfl ?_
  clear hl
  clear ls
  intro ls hl
  refine lv_iload_n hx hb dX5_findOut_13 rfl (lv_at hl 0 rfl) ?_
  refine lv_aload_n hx hb dX5_findOut_14 rfl (lv_at hl 1 rfl) ?_
  refine gm_get (D := D) (ci := 5) (v := .ref h1) (C := RX5) (T := TX5) (N := 5) hx hb hg inlX5 hown hK.1 hP 0 rfl rfl 0 (by decide) tX5_0 (hg _ gw_138) rfl dX5_findOut_15 ?_
  refine gm_get (D := D) (ci := 8) (v := .int 1) (C := RX8) (T := TX8) (N := 2) hx hb hg inlX8 hown hK.1 hP 1 rfl rfl 1 (by decide) tX8_1 (hg _ gw_1441) rfl dX5_findOut_18 ?_
  refine lv_icmp_ge (tgt := 39) hx hb dX5_findOut_21 (by decide) (fun c9 => absurd c9 (by decide +kernel)) (fun _ => ?_)
  refine lv_aload_n hx hb dX5_findOut_24 rfl (lv_at hl 1 rfl) ?_
  refine gm_get (D := D) (ci := 5) (v := .ref h2) (C := RX5) (T := TX5) (N := 5) hx hb hg inlX5 hown hK.1 hP 0 rfl rfl 1 (by decide) tX5_1 (hg _ gw_139) rfl dX5_findOut_25 ?_
  refine lv_iload_n hx hb dX5_findOut_28 rfl (lv_at hl 0 rfl) ?_
  refine lv_lconst (v := 0) hx hb dX5_findOut_29 (by decide) ?_
  refine g_av (wr := [(h0, .inr (5, [.ref h1, .ref h2, .ref h3, .ref h4, .int 1])), (h1, .inr (8, [.ref h6, .int 1])), (h4, .inr (8, [.ref h10, .int wp4100116])), (h10, .inl (y 1, 3, .inr (.inl (fun _ => 0))))]) (va_runV (As := [.int 0, .long 0]) (rest := []) ⟨hx, hb, hml, hown, hg⟩ (k_X8_set_45 l D y aS H.size h2 0 h7 wp4100114 wf4100115) (cwV 2 hg ggV_RX5_29_X8_set rfl rfl rfl (by decide +kernel) ⟨Nat.le_of_ble_eq_true rfl, Nat.le_of_ble_eq_true rfl⟩) (g_preV (q := (RX8, TX8, 2)) hK hP hD [2, 3] rfl (by decide) (ci := 8) (q0 := 2) rfl rfl) rfl rfl hl.1 rfl (lv_room (Nat.le_of_ble_eq_true rfl)) dX5_findOut_30 ⟨Nat.le_of_ble_eq_true rfl, Nat.le_of_ble_eq_true rfl⟩) hP hD hS hA [2, 3] [0, 1, 4, 5] rfl rfl (by decide) (by decide) ?_
  clear hP hD hS H locs
  refine fun u H locs hq hP hD hS => ?_
  replace hP : va_P D vwCl [(h0, .inr (5, [.ref h1, .ref h2, .ref h3, .ref h4, .int 1])), (h1, .inr (8, [.ref h6, .int 1])), (h4, .inr (8, [.ref h10, .int wp4100116])), (h10, .inl (y 1, 3, .inr (.inl (fun _ => 0)))), (h2, .inr (8, [.ref h7, .int wp4100114])), (h7, .inl (y 1, 200, .inr (.inl (vp_updL wf4100115 ((0 : Int32).toNatClampNeg) 0))))] H := hP
  replace hD : va_D A [(h0, .inr (5, [.ref h1, .ref h2, .ref h3, .ref h4, .int 1])), (h1, .inr (8, [.ref h6, .int 1])), (h4, .inr (8, [.ref h10, .int wp4100116])), (h10, .inl (y 1, 3, .inr (.inl (fun _ => 0)))), (h2, .inr (8, [.ref h7, .int wp4100114])), (h7, .inl (y 1, 200, .inr (.inl (vp_updL wf4100115 ((0 : Int32).toNatClampNeg) 0))))] := hD
  refine lv_iinc (v := 1) (lv' := [(1, .int 1), (0, .ref h0)]) hx hb dX5_findOut_33 hl (k := 0) rfl (by decide +kernel) (by decide) rfl ?_
  clear hl
  clear ls
  intro ls hl
  refine lv_goto (tgt := 13) hx hb dX5_findOut_36 (by decide) ?_
  refine lv_iload_n hx hb dX5_findOut_13 rfl (lv_at hl 0 rfl) ?_
  refine lv_aload_n hx hb dX5_findOut_14 rfl (lv_at hl 1 rfl) ?_
  refine gm_get (D := D) (ci := 5) (v := .ref h1) (C := RX5) (T := TX5) (N := 5) hx hb hg inlX5 hown hK.1 hP 0 rfl rfl 0 (by decide) tX5_0 (hg _ gw_138) rfl dX5_findOut_15 ?_
  refine gm_get (D := D) (ci := 8) (v := .int 1) (C := RX8) (T := TX8) (N := 2) hx hb hg inlX8 hown hK.1 hP 1 rfl rfl 1 (by decide) tX8_1 (hg _ gw_1441) rfl dX5_findOut_18 ?_
  refine lv_icmp_ge (tgt := 39) hx hb dX5_findOut_21 (by decide) (fun _ => ?_) (fun c9 => absurd c9 (by decide +kernel))
  refine lv_iconst (v := 0) hx hb dX5_findOut_39 (by decide) ?_
  refine lv_istore_n (lv' := [(1, .int 0), (0, .ref h0)]) hx hb dX5_findOut_40 rfl hl (by decide) rfl ?_
  clear hl
  clear ls
  intro ls hl
  refine lv_iload_n hx hb dX5_findOut_41 rfl (lv_at hl 0 rfl) ?_
  refine lv_aload_n hx hb dX5_findOut_42 rfl (lv_at hl 1 rfl) ?_
  refine gm_get (D := D) (ci := 5) (v := .ref h1) (C := RX5) (T := TX5) (N := 5) hx hb hg inlX5 hown hK.1 hP 0 rfl rfl 0 (by decide) tX5_0 (hg _ gw_138) rfl dX5_findOut_43 ?_
  refine gm_get (D := D) (ci := 8) (v := .int 1) (C := RX8) (T := TX8) (N := 2) hx hb hg inlX8 hown hK.1 hP 1 rfl rfl 1 (by decide) tX8_1 (hg _ gw_1441) rfl dX5_findOut_46 ?_
  refine lv_icmp_ge (tgt := 77) hx hb dX5_findOut_49 (by decide) (fun c9 => absurd c9 (by decide +kernel)) (fun _ => ?_)
  refine lv_iconst (v := 0) hx hb dX5_findOut_52 (by decide) ?_
  refine lv_istore_n (lv' := [(2, .int 0), (1, .int 0), (0, .ref h0)]) hx hb dX5_findOut_53 rfl hl (by decide) rfl ?_
  clear hl
  clear ls
  intro ls hl
  refine lv_iload_n hx hb dX5_findOut_54 rfl (lv_at hl 0 rfl) ?_
  refine lv_iconst (v := 3) hx hb dX5_findOut_55 (by decide) ?_
  refine lv_icmp_ge (tgt := 71) hx hb dX5_findOut_56 (by decide) (fun c9 => absurd c9 (by decide +kernel)) (fun _ => ?_)
  refine lv_aload_n hx hb dX5_findOut_59 rfl (lv_at hl 2 rfl) ?_
  refine lv_iload_n hx hb dX5_findOut_60 rfl (lv_at hl 0 rfl) ?_
  refine lv_iload_n hx hb dX5_findOut_61 rfl (lv_at hl 1 rfl) ?_
  refine g_av (wr := [(h1, .inr (8, [.ref h6, .int 1])), (h2, .inr (8, [.ref h7, .int wp4100114])), (h7, .inl (y 1, 200, .inr (.inl (vp_updL wf4100115 ((0 : Int32).toNatClampNeg) 0))))]) (va_runV (As := [.int 0, .int 0]) (rest := []) ⟨hx, hb, hml, hown, hg⟩ (k_X5_find_0 l D y aS H.size h0 h1 h2 h3 h4 1 h10 wp4100116) (cwV 2 hg ggV_RX5_54_X5_find rfl rfl rfl (by decide +kernel) ⟨Nat.le_of_ble_eq_true rfl, Nat.le_of_ble_eq_true rfl⟩) (g_preV (q := (RX5, TX5, 5)) hK hP hD [0, 2, 3] rfl (by decide) (ci := 5) (q0 := 0) rfl rfl) rfl rfl hl.1 rfl (lv_room (Nat.le_of_ble_eq_true rfl)) dX5_findOut_62 ⟨Nat.le_of_ble_eq_true rfl, Nat.le_of_ble_eq_true rfl⟩) hP hD hS hA [0, 2, 3] [1, 4, 5] rfl rfl (by decide) (by decide) ?_
  clear hP hD hS H locs
  refine fun u H locs hq hP hD hS => ?_
  replace hP : va_P D vwCl [(h1, .inr (8, [.ref h6, .int 1])), (h2, .inr (8, [.ref h7, .int wp4100114])), (h7, .inl (y 1, 200, .inr (.inl (vp_updL wf4100115 ((0 : Int32).toNatClampNeg) 0)))), (h0, .inr (5, [.ref h1, .ref h2, .ref h3, .ref h4, .int 1])), (h4, .inr (8, [.ref h10, .int wp4100116])), (h10, .inl (y 1, 3, .inr (.inl (fun _ => 0))))] H := hP
  replace hD : va_D A [(h1, .inr (8, [.ref h6, .int 1])), (h2, .inr (8, [.ref h7, .int wp4100114])), (h7, .inl (y 1, 200, .inr (.inl (vp_updL wf4100115 ((0 : Int32).toNatClampNeg) 0)))), (h0, .inr (5, [.ref h1, .ref h2, .ref h3, .ref h4, .int 1])), (h4, .inr (8, [.ref h10, .int wp4100116])), (h10, .inl (y 1, 3, .inr (.inl (fun _ => 0))))] := hD
  refine lv_iinc (v := 1) (lv' := [(2, .int 1), (1, .int 0), (0, .ref h0)]) hx hb dX5_findOut_65 hl (k := 0) rfl (by decide +kernel) (by decide) rfl ?_
  clear hl
  clear ls
  intro ls hl
  refine lv_goto (tgt := 54) hx hb dX5_findOut_68 (by decide) ?_
  refine lv_iload_n hx hb dX5_findOut_54 rfl (lv_at hl 0 rfl) ?_
  refine lv_iconst (v := 3) hx hb dX5_findOut_55 (by decide) ?_
  refine lv_icmp_ge (tgt := 71) hx hb dX5_findOut_56 (by decide) (fun c9 => absurd c9 (by decide +kernel)) (fun _ => ?_)
  refine lv_aload_n hx hb dX5_findOut_59 rfl (lv_at hl 2 rfl) ?_
  refine lv_iload_n hx hb dX5_findOut_60 rfl (lv_at hl 0 rfl) ?_
  refine lv_iload_n hx hb dX5_findOut_61 rfl (lv_at hl 1 rfl) ?_
  refine g_av (wr := [(h1, .inr (8, [.ref h6, .int 1])), (h2, .inr (8, [.ref h7, .int wp4100114])), (h7, .inl (y 1, 200, .inr (.inl (vp_updL wf4100115 ((0 : Int32).toNatClampNeg) 0))))]) (va_runV (As := [.int 1, .int 0]) (rest := []) ⟨hx, hb, hml, hown, hg⟩ (k_X5_find_1 l D y aS H.size h0 h1 h2 h3 h4 1 h10 wp4100116) (cwV 2 hg ggV_RX5_54_X5_find rfl rfl rfl (by decide +kernel) ⟨Nat.le_of_ble_eq_true rfl, Nat.le_of_ble_eq_true rfl⟩) (g_preV (q := (RX5, TX5, 5)) hK hP hD [3, 4, 5] rfl (by decide) (ci := 5) (q0 := 3) rfl rfl) rfl rfl hl.1 rfl (lv_room (Nat.le_of_ble_eq_true rfl)) dX5_findOut_62 ⟨Nat.le_of_ble_eq_true rfl, Nat.le_of_ble_eq_true rfl⟩) hP hD hS hA [3, 4, 5] [0, 1, 2] rfl rfl (by decide) (by decide) ?_
  clear hP hD hS H locs
  refine fun u H locs hq hP hD hS => ?_
  replace hP : va_P D vwCl [(h1, .inr (8, [.ref h6, .int 1])), (h2, .inr (8, [.ref h7, .int wp4100114])), (h7, .inl (y 1, 200, .inr (.inl (vp_updL wf4100115 ((0 : Int32).toNatClampNeg) 0)))), (h0, .inr (5, [.ref h1, .ref h2, .ref h3, .ref h4, .int 1])), (h4, .inr (8, [.ref h10, .int wp4100116])), (h10, .inl (y 1, 3, .inr (.inl (fun _ => 0))))] H := hP
  replace hD : va_D A [(h1, .inr (8, [.ref h6, .int 1])), (h2, .inr (8, [.ref h7, .int wp4100114])), (h7, .inl (y 1, 200, .inr (.inl (vp_updL wf4100115 ((0 : Int32).toNatClampNeg) 0)))), (h0, .inr (5, [.ref h1, .ref h2, .ref h3, .ref h4, .int 1])), (h4, .inr (8, [.ref h10, .int wp4100116])), (h10, .inl (y 1, 3, .inr (.inl (fun _ => 0))))] := hD
  refine lv_iinc (v := 2) (lv' := [(2, .int 2), (1, .int 0), (0, .ref h0)]) hx hb dX5_findOut_65 hl (k := 0) rfl (by decide +kernel) (by decide) rfl ?_
  clear hl
  clear ls
  intro ls hl
  refine lv_goto (tgt := 54) hx hb dX5_findOut_68 (by decide) ?_
  refine lv_iload_n hx hb dX5_findOut_54 rfl (lv_at hl 0 rfl) ?_
  refine lv_iconst (v := 3) hx hb dX5_findOut_55 (by decide) ?_
  refine lv_icmp_ge (tgt := 71) hx hb dX5_findOut_56 (by decide) (fun c9 => absurd c9 (by decide +kernel)) (fun _ => ?_)
  refine lv_aload_n hx hb dX5_findOut_59 rfl (lv_at hl 2 rfl) ?_
  refine lv_iload_n hx hb dX5_findOut_60 rfl (lv_at hl 0 rfl) ?_
  refine lv_iload_n hx hb dX5_findOut_61 rfl (lv_at hl 1 rfl) ?_
  refine g_av (wr := [(h1, .inr (8, [.ref h6, .int 1])), (h2, .inr (8, [.ref h7, .int wp4100114])), (h7, .inl (y 1, 200, .inr (.inl (vp_updL wf4100115 ((0 : Int32).toNatClampNeg) 0))))]) (va_runV (As := [.int 2, .int 0]) (rest := []) ⟨hx, hb, hml, hown, hg⟩ (k_X5_find_2 l D y aS H.size h0 h1 h2 h3 h4 1 h10 wp4100116) (cwV 2 hg ggV_RX5_54_X5_find rfl rfl rfl (by decide +kernel) ⟨Nat.le_of_ble_eq_true rfl, Nat.le_of_ble_eq_true rfl⟩) (g_preV (q := (RX5, TX5, 5)) hK hP hD [3, 4, 5] rfl (by decide) (ci := 5) (q0 := 3) rfl rfl) rfl rfl hl.1 rfl (lv_room (Nat.le_of_ble_eq_true rfl)) dX5_findOut_62 ⟨Nat.le_of_ble_eq_true rfl, Nat.le_of_ble_eq_true rfl⟩) hP hD hS hA [3, 4, 5] [0, 1, 2] rfl rfl (by decide) (by decide) ?_
  clear hP hD hS H locs
  refine fun u H locs hq hP hD hS => ?_
  replace hP : va_P D vwCl [(h1, .inr (8, [.ref h6, .int 1])), (h2, .inr (8, [.ref h7, .int wp4100114])), (h7, .inl (y 1, 200, .inr (.inl (vp_updL wf4100115 ((0 : Int32).toNatClampNeg) 0)))), (h0, .inr (5, [.ref h1, .ref h2, .ref h3, .ref h4, .int 1])), (h4, .inr (8, [.ref h10, .int wp4100116])), (h10, .inl (y 1, 3, .inr (.inl (fun _ => 0))))] H := hP
  replace hD : va_D A [(h1, .inr (8, [.ref h6, .int 1])), (h2, .inr (8, [.ref h7, .int wp4100114])), (h7, .inl (y 1, 200, .inr (.inl (vp_updL wf4100115 ((0 : Int32).toNatClampNeg) 0)))), (h0, .inr (5, [.ref h1, .ref h2, .ref h3, .ref h4, .int 1])), (h4, .inr (8, [.ref h10, .int wp4100116])), (h10, .inl (y 1, 3, .inr (.inl (fun _ => 0))))] := hD
  refine lv_iinc (v := 3) (lv' := [(2, .int 3), (1, .int 0), (0, .ref h0)]) hx hb dX5_findOut_65 hl (k := 0) rfl (by decide +kernel) (by decide) rfl ?_
  clear hl
  clear ls
  intro ls hl
  refine lv_goto (tgt := 54) hx hb dX5_findOut_68 (by decide) ?_
  refine lv_iload_n hx hb dX5_findOut_54 rfl (lv_at hl 0 rfl) ?_
  refine lv_iconst (v := 3) hx hb dX5_findOut_55 (by decide) ?_
  refine lv_icmp_ge (tgt := 71) hx hb dX5_findOut_56 (by decide) (fun _ => ?_) (fun c9 => absurd c9 (by decide +kernel))
  refine lv_iinc (v := 1) (lv' := [(1, .int 1), (2, .int 3), (0, .ref h0)]) hx hb dX5_findOut_71 hl (k := 1) rfl (by decide +kernel) (by decide) rfl ?_
  clear hl
  clear ls
  intro ls hl
  refine lv_goto (tgt := 41) hx hb dX5_findOut_74 (by decide) ?_
  refine lv_iload_n hx hb dX5_findOut_41 rfl (lv_at hl 0 rfl) ?_
  refine lv_aload_n hx hb dX5_findOut_42 rfl (lv_at hl 2 rfl) ?_
  refine gm_get (D := D) (ci := 5) (v := .ref h1) (C := RX5) (T := TX5) (N := 5) hx hb hg inlX5 hown hK.1 hP 3 rfl rfl 0 (by decide) tX5_0 (hg _ gw_138) rfl dX5_findOut_43 ?_
  refine gm_get (D := D) (ci := 8) (v := .int 1) (C := RX8) (T := TX8) (N := 2) hx hb hg inlX8 hown hK.1 hP 0 rfl rfl 1 (by decide) tX8_1 (hg _ gw_1441) rfl dX5_findOut_46 ?_
  refine lv_icmp_ge (tgt := 77) hx hb dX5_findOut_49 (by decide) (fun _ => ?_) (fun c9 => absurd c9 (by decide +kernel))
  exact g_vret hx hb hr hlocks () (hP.sub [3, 0, 1, 2, 4, 5] rfl) (hD.sub [3, 0, 1, 2, 4, 5] (by decide +kernel) rfl) hS trivial (Nat.le_of_ble_eq_true rfl) (Nat.le_of_ble_eq_true rfl) dX5_findOut_77
set_option maxRecDepth 100000 in
set_option maxHeartbeats 4000000 in
theorem k_X5_append_0 (l : Launch) (D : va_G) (y : Nat → ClassId) (aS : Nat → Nat) (sz : Nat) (h0 : Nat) (p1 : Int32) (h2 : Nat) (h3 : Nat) (h4 : Nat) (h5 : Nat) (h6 : Nat) (wf4100122 : Nat → Int64) (h8 : Nat) (wp4100123 : Int32) (wf4100124 : Nat → Int64) (h11 : Nat) (wp4100125 : Int32) : Met l yX5_append (Cond.code yX5_append cX5_append 6 (some .int) :: wsL_law) ({ frames := 3, cells := 0, slots := 0, locals := 68 } : Room) (va_Pc [.ref h0, .int p1, .int 1] (gI D y aS [(h0, .inr (5, [.ref h2, .ref h3, .ref h4, .ref h5, .int 0])), (h2, .inr (8, [.ref h6, .int 0])), (h6, .inl (y 1, 200, .inr (.inl wf4100122))), (h3, .inr (8, [.ref h8, .int wp4100123])), (h8, .inl (y 1, 200, .inr (.inl wf4100124))), (h5, .inr (8, [.ref h11, .int wp4100125])), (h11, .inl (y 1, 3, .inr (.inl (fun _ => 0))))] sz)) (va_Qi (fun (r : Int32) (u : Unit) => 1 = r) (fun u => gO D (va_A [(h0, .inr (5, [.ref h2, .ref h3, .ref h4, .ref h5, .int 0])), (h2, .inr (8, [.ref h6, .int 0])), (h6, .inl (y 1, 200, .inr (.inl wf4100122))), (h3, .inr (8, [.ref h8, .int wp4100123])), (h8, .inl (y 1, 200, .inr (.inl wf4100124))), (h5, .inr (8, [.ref h11, .int wp4100125])), (h11, .inl (y 1, 3, .inr (.inl (fun _ => 0))))] sz) [(h0, .inr (5, [.ref h2, .ref h3, .ref h4, .ref h5, .int 1])), (h2, .inr (8, [.ref h6, .int 1])), (h6, .inl (y 1, 200, .inr (.inl (vp_updL (vp_updL wf4100122 ((0 : Int32).toNatClampNeg) 0) ((0 : Int32).toNatClampNeg) ((p1 - p1 / 10 * 10).toInt64))))), (h3, .inr (8, [.ref h8, .int wp4100123])), (h8, .inl (y 1, 200, .inr (.inl (vp_updL wf4100124 ((0 : Int32).toNatClampNeg) 0)))), (h5, .inr (8, [.ref h11, .int wp4100125])), (h11, .inl (y 1, 3, .inr (.inl (fun _ => 0))))]) (va_A [(h0, .inr (5, [.ref h2, .ref h3, .ref h4, .ref h5, .int 0])), (h2, .inr (8, [.ref h6, .int 0])), (h6, .inl (y 1, 200, .inr (.inl wf4100122))), (h3, .inr (8, [.ref h8, .int wp4100123])), (h8, .inl (y 1, 200, .inr (.inl wf4100124))), (h5, .inr (8, [.ref h11, .int wp4100125])), (h11, .inl (y 1, 3, .inr (.inl (fun _ => 0))))] sz)) 0 0 (va_A [(h0, .inr (5, [.ref h2, .ref h3, .ref h4, .ref h5, .int 0])), (h2, .inr (8, [.ref h6, .int 0])), (h6, .inl (y 1, 200, .inr (.inl wf4100122))), (h3, .inr (8, [.ref h8, .int wp4100123])), (h8, .inl (y 1, 200, .inr (.inl wf4100124))), (h5, .inr (8, [.ref h11, .int wp4100125])), (h11, .inl (y 1, 3, .inr (.inl (fun _ => 0))))] sz) := by
  refine g_of (by decide) (Nat.le_of_ble_eq_true rfl) ?_
  intro p e s m below meth c ls A hx hb hr hml hown hg hlocks hin hsz hK hP hD hS hA hAe hl
  rw [← hAe]
  replace hown : s.vm.findClass RX5 = some m.cls := hown
  replace hl : lv_has ls 6 [(0, .ref h0), (1, .int p1), (2, .int 1)] := hl
  refine lv_aload_n hx hb dX5_append_0 rfl (lv_at hl 0 rfl) ?_
  refine gm_get (D := D) (ci := 5) (v := .ref h2) (C := RX5) (T := TX5) (N := 5) hx hb hg inlX5 hown hK.1 hP 0 rfl rfl 0 (by decide) tX5_0 (hg _ gw_138) rfl dX5_append_1 ?_
  refine gm_get (D := D) (ci := 8) (v := .int 0) (C := RX8) (T := TX8) (N := 2) hx hb hg inlX8 hown hK.1 hP 1 rfl rfl 1 (by decide) tX8_1 (hg _ gw_1441) rfl dX5_append_4 ?_
  refine lv_istore_n (lv' := [(3, .int 0), (0, .ref h0), (1, .int p1), (2, .int 1)]) hx hb dX5_append_7 rfl hl (by decide) rfl ?_
  clear hl
  clear ls
  intro ls hl
  refine lv_aload_n hx hb dX5_append_8 rfl (lv_at hl 1 rfl) ?_
  refine gm_get (D := D) (ci := 5) (v := .ref h2) (C := RX5) (T := TX5) (N := 5) hx hb hg inlX5 hown hK.1 hP 0 rfl rfl 0 (by decide) tX5_0 (hg _ gw_138) rfl dX5_append_9 ?_
  refine lv_iload_n hx hb dX5_append_12 rfl (lv_at hl 3 rfl) ?_
  refine lv_lconst (v := 0) hx hb dX5_append_13 (by decide) ?_
  refine g_av (wr := [(h0, .inr (5, [.ref h2, .ref h3, .ref h4, .ref h5, .int 0])), (h3, .inr (8, [.ref h8, .int wp4100123])), (h8, .inl (y 1, 200, .inr (.inl wf4100124))), (h5, .inr (8, [.ref h11, .int wp4100125])), (h11, .inl (y 1, 3, .inr (.inl (fun _ => 0))))]) (va_runV (As := [.int 1, .long 0]) (rest := []) ⟨hx, hb, hml, hown, hg⟩ (k_X8_addMany_4 l D y aS s.heap.size h2 h6 wf4100122) (cwV 2 hg ggV_RX5_44_X8_addMany rfl rfl rfl (by decide +kernel) ⟨Nat.le_of_ble_eq_true rfl, Nat.le_of_ble_eq_true rfl⟩) (g_preV (q := (RX8, TX8, 2)) hK hP hD [1, 2] rfl (by decide) (ci := 8) (q0 := 1) rfl rfl) rfl rfl hl.1 rfl (lv_room (Nat.le_of_ble_eq_true rfl)) dX5_append_14 ⟨Nat.le_of_ble_eq_true rfl, Nat.le_of_ble_eq_true rfl⟩) hP hD hS hA [1, 2] [0, 3, 4, 5, 6] rfl rfl (by decide) (by decide) ?_
  clear hP hD hS
  refine fun u H locs hq hP hD hS => ?_
  replace hP : va_P D vwCl [(h0, .inr (5, [.ref h2, .ref h3, .ref h4, .ref h5, .int 0])), (h3, .inr (8, [.ref h8, .int wp4100123])), (h8, .inl (y 1, 200, .inr (.inl wf4100124))), (h5, .inr (8, [.ref h11, .int wp4100125])), (h11, .inl (y 1, 3, .inr (.inl (fun _ => 0)))), (h2, .inr (8, [.ref h6, .int 1])), (h6, .inl (y 1, 200, .inr (.inl (vp_updL wf4100122 ((0 : Int32).toNatClampNeg) 0))))] H := hP
  replace hD : va_D A [(h0, .inr (5, [.ref h2, .ref h3, .ref h4, .ref h5, .int 0])), (h3, .inr (8, [.ref h8, .int wp4100123])), (h8, .inl (y 1, 200, .inr (.inl wf4100124))), (h5, .inr (8, [.ref h11, .int wp4100125])), (h11, .inl (y 1, 3, .inr (.inl (fun _ => 0)))), (h2, .inr (8, [.ref h6, .int 1])), (h6, .inl (y 1, 200, .inr (.inl (vp_updL wf4100122 ((0 : Int32).toNatClampNeg) 0))))] := hD
  refine lv_iload_n hx hb dX5_append_17 rfl (lv_at hl 2 rfl) ?_
  refine lv_istore (lv' := [(4, .int p1), (3, .int 0), (0, .ref h0), (1, .int p1), (2, .int 1)]) hx hb dX5_append_18 hl (by decide) rfl ?_
  clear hl
  clear ls
  intro ls hl
  refine lv_iload_n hx hb dX5_append_20 rfl (lv_at hl 1 rfl) ?_
  refine lv_iload_n hx hb dX5_append_21 rfl (lv_at hl 4 rfl) ?_
  refine lv_iadd hx hb dX5_append_22 ?_
  refine g_fi (v := 1) (by decide +kernel) ?_
  refine lv_iconst (v := 1) hx hb dX5_append_23 (by decide) ?_
  refine lv_isub hx hb dX5_append_24 ?_
  refine g_fi (v := 0) (by decide +kernel) ?_
  refine lv_istore (lv' := [(5, .int 0), (4, .int p1), (3, .int 0), (0, .ref h0), (1, .int p1), (2, .int 1)]) hx hb dX5_append_25 hl (by decide) rfl ?_
  clear hl
  clear ls
  intro ls hl
  refine lv_iload hx hb dX5_append_27 (lv_at hl 0 rfl) ?_
  refine lv_iload_n hx hb dX5_append_29 rfl (lv_at hl 2 rfl) ?_
  refine lv_icmp_lt (tgt := 61) hx hb dX5_append_30 (by decide) (fun c9 => absurd c9 (by decide +kernel)) (fun _ => ?_)
  refine lv_aload_n hx hb dX5_append_33 rfl (lv_at hl 3 rfl) ?_
  refine gm_get (D := D) (ci := 5) (v := .ref h2) (C := RX5) (T := TX5) (N := 5) hx hb hg inlX5 hown hK.1 hP 0 rfl rfl 0 (by decide) tX5_0 (hg _ gw_138) rfl dX5_append_34 ?_
  refine lv_iload hx hb dX5_append_37 (lv_at hl 0 rfl) ?_
  refine lv_iload hx hb dX5_append_39 (lv_at hl 1 rfl) ?_
  refine lv_bipush (v := 10) hx hb dX5_append_41 (by decide +kernel) ?_
  refine lv_irem hx hb dX5_append_43 (by decide +kernel) ?_
  refine lv_i2l (v := ((p1 - p1 / 10 * 10).toInt64)) hx hb dX5_append_44 rfl ?_
  refine g_av (wr := [(h0, .inr (5, [.ref h2, .ref h3, .ref h4, .ref h5, .int 0])), (h3, .inr (8, [.ref h8, .int wp4100123])), (h8, .inl (y 1, 200, .inr (.inl wf4100124))), (h5, .inr (8, [.ref h11, .int wp4100125])), (h11, .inl (y 1, 3, .inr (.inl (fun _ => 0))))]) (va_runV (As := [.int 0, .long ((p1 - p1 / 10 * 10).toInt64)]) (rest := []) ⟨hx, hb, hml, hown, hg⟩ (k_X8_set_45 l D y aS H.size h2 ((p1 - p1 / 10 * 10).toInt64) h6 1 (vp_updL wf4100122 ((0 : Int32).toNatClampNeg) 0)) (cwV 2 hg ggV_RX5_29_X8_set rfl rfl rfl (by decide +kernel) ⟨Nat.le_of_ble_eq_true rfl, Nat.le_of_ble_eq_true rfl⟩) (g_preV (q := (RX8, TX8, 2)) hK hP hD [5, 6] rfl (by decide) (ci := 8) (q0 := 5) rfl rfl) rfl rfl hl.1 rfl (lv_room (Nat.le_of_ble_eq_true rfl)) dX5_append_45 ⟨Nat.le_of_ble_eq_true rfl, Nat.le_of_ble_eq_true rfl⟩) hP hD hS hA [5, 6] [0, 1, 2, 3, 4] rfl rfl (by decide) (by decide) ?_
  clear hP hD hS H locs
  refine fun u H locs hq hP hD hS => ?_
  replace hP : va_P D vwCl [(h0, .inr (5, [.ref h2, .ref h3, .ref h4, .ref h5, .int 0])), (h3, .inr (8, [.ref h8, .int wp4100123])), (h8, .inl (y 1, 200, .inr (.inl wf4100124))), (h5, .inr (8, [.ref h11, .int wp4100125])), (h11, .inl (y 1, 3, .inr (.inl (fun _ => 0)))), (h2, .inr (8, [.ref h6, .int 1])), (h6, .inl (y 1, 200, .inr (.inl (vp_updL (vp_updL wf4100122 ((0 : Int32).toNatClampNeg) 0) ((0 : Int32).toNatClampNeg) ((p1 - p1 / 10 * 10).toInt64)))))] H := hP
  replace hD : va_D A [(h0, .inr (5, [.ref h2, .ref h3, .ref h4, .ref h5, .int 0])), (h3, .inr (8, [.ref h8, .int wp4100123])), (h8, .inl (y 1, 200, .inr (.inl wf4100124))), (h5, .inr (8, [.ref h11, .int wp4100125])), (h11, .inl (y 1, 3, .inr (.inl (fun _ => 0)))), (h2, .inr (8, [.ref h6, .int 1])), (h6, .inl (y 1, 200, .inr (.inl (vp_updL (vp_updL wf4100122 ((0 : Int32).toNatClampNeg) 0) ((0 : Int32).toNatClampNeg) ((p1 - p1 / 10 * 10).toInt64)))))] := hD
  refine lv_iload hx hb dX5_append_48 (lv_at hl 1 rfl) ?_
  refine lv_bipush (v := 10) hx hb dX5_append_50 (by decide +kernel) ?_
  refine lv_idiv hx hb dX5_append_52 (by decide +kernel) ?_
  refine lv_istore (lv' := [(4, .int (p1 / 10)), (5, .int 0), (3, .int 0), (0, .ref h0), (1, .int p1), (2, .int 1)]) hx hb dX5_append_53 hl (by decide) rfl ?_
  clear hl
  clear ls
  intro ls hl
  refine lv_iinc (v := (-1)) (lv' := [(5, .int (-1)), (4, .int (p1 / 10)), (3, .int 0), (0, .ref h0), (1, .int p1), (2, .int 1)]) hx hb dX5_append_55 hl (k := 1) rfl (by decide +kernel) (by decide) rfl ?_
  clear hl
  clear ls
  intro ls hl
  refine lv_goto (tgt := 27) hx hb dX5_append_58 (by decide) ?_
  refine lv_iload hx hb dX5_append_27 (lv_at hl 0 rfl) ?_
  refine lv_iload_n hx hb dX5_append_29 rfl (lv_at hl 2 rfl) ?_
  refine lv_icmp_lt (tgt := 61) hx hb dX5_append_30 (by decide) (fun _ => ?_) (fun c9 => absurd c9 (by decide +kernel))
  refine lv_aload_n hx hb dX5_append_61 rfl (lv_at hl 3 rfl) ?_
  refine g_av (wr := [(h6, .inl (y 1, 200, .inr (.inl (vp_updL (vp_updL wf4100122 ((0 : Int32).toNatClampNeg) 0) ((0 : Int32).toNatClampNeg) ((p1 - p1 / 10 * 10).toInt64)))))]) (va_runV (As := []) (rest := []) ⟨hx, hb, hml, hown, hg⟩ (k_X5_findOut_1 l D y aS H.size h0 h2 h3 h4 h5 0 h6 h8 wp4100123 wf4100124 h11 wp4100125) (cwV 0 hg ggV_RX5_33_X5_findOut rfl rfl rfl (by decide +kernel) ⟨Nat.le_of_ble_eq_true rfl, Nat.le_of_ble_eq_true rfl⟩) (g_preV (q := (RX5, TX5, 5)) hK hP hD [0, 5, 1, 2, 3, 4] rfl (by decide) (ci := 5) (q0 := 0) rfl rfl) rfl rfl hl.1 rfl (lv_room (Nat.le_of_ble_eq_true rfl)) dX5_append_62 ⟨Nat.le_of_ble_eq_true rfl, Nat.le_of_ble_eq_true rfl⟩) hP hD hS hA [0, 5, 1, 2, 3, 4] [6] rfl rfl (by decide) (by decide) ?_
  clear hP hD hS H locs
  refine fun u H locs hq hP hD hS => ?_
  replace hP : va_P D vwCl [(h6, .inl (y 1, 200, .inr (.inl (vp_updL (vp_updL wf4100122 ((0 : Int32).toNatClampNeg) 0) ((0 : Int32).toNatClampNeg) ((p1 - p1 / 10 * 10).toInt64))))), (h0, .inr (5, [.ref h2, .ref h3, .ref h4, .ref h5, .int 1])), (h2, .inr (8, [.ref h6, .int 1])), (h3, .inr (8, [.ref h8, .int wp4100123])), (h8, .inl (y 1, 200, .inr (.inl (vp_updL wf4100124 ((0 : Int32).toNatClampNeg) 0)))), (h5, .inr (8, [.ref h11, .int wp4100125])), (h11, .inl (y 1, 3, .inr (.inl (fun _ => 0))))] H := hP
  replace hD : va_D A [(h6, .inl (y 1, 200, .inr (.inl (vp_updL (vp_updL wf4100122 ((0 : Int32).toNatClampNeg) 0) ((0 : Int32).toNatClampNeg) ((p1 - p1 / 10 * 10).toInt64))))), (h0, .inr (5, [.ref h2, .ref h3, .ref h4, .ref h5, .int 1])), (h2, .inr (8, [.ref h6, .int 1])), (h3, .inr (8, [.ref h8, .int wp4100123])), (h8, .inl (y 1, 200, .inr (.inl (vp_updL wf4100124 ((0 : Int32).toNatClampNeg) 0)))), (h5, .inr (8, [.ref h11, .int wp4100125])), (h11, .inl (y 1, 3, .inr (.inl (fun _ => 0))))] := hD
  refine lv_aload_n hx hb dX5_append_65 rfl (lv_at hl 3 rfl) ?_
  refine gm_get (D := D) (ci := 5) (v := .int 1) (C := RX5) (T := TX5) (N := 5) hx hb hg inlX5 hown hK.1 hP 1 rfl rfl 4 (by decide) tX5_4 (hg _ gw_1442) rfl dX5_append_66 ?_
  exact g_iret hx hb hr hlocks () (hP.sub [1, 2, 0, 3, 4, 5, 6] rfl) (hD.sub [1, 2, 0, 3, 4, 5, 6] (by decide +kernel) rfl) hS rfl rfl (Nat.le_of_ble_eq_true rfl) (Nat.le_of_ble_eq_true rfl) dX5_append_69
theorem ggV_RX11_354_X5_append : GoodIn wsL_law (wsV RX11 354 RX5 yX5_append (Cond.code yX5_append cX5_append 6 (some .int) :: wsL_law)) := g_gi (fun _ h => h) gW_good (List.forall_mem_cons.mpr ⟨⟨gw_1467, rfl⟩, List.forall_mem_cons.mpr ⟨⟨gw_1468, rfl⟩, List.forall_mem_cons.mpr ⟨⟨gw_1469, rfl⟩, List.forall_mem_cons.mpr ⟨⟨gw_39, rfl⟩, fun _ h => nomatch h⟩⟩⟩⟩) ⟨gw_1470, rfl⟩
set_option maxRecDepth 100000 in
set_option maxHeartbeats 4000000 in
theorem k_X8_add_29 (l : Launch) (D : va_G) (y : Nat → ClassId) (aS : Nat → Nat) (sz : Nat) (h0 : Nat) (h1 : Nat) (wf4100135 : Nat → Int64) : Met l yX8_add (Cond.code yX8_add cX8_add 3 none :: wsL_law) ({ frames := 0, cells := 0, slots := 0, locals := 0 } : Room) (va_Pc [.ref h0, .long 0] (gI D y aS [(h0, .inr (8, [.ref h1, .int 1])), (h1, .inl (y 1, 200, .inr (.inl wf4100135)))] sz)) (va_Qv (fun (u : Unit) => True) (fun u => gO D (va_A [(h0, .inr (8, [.ref h1, .int 1])), (h1, .inl (y 1, 200, .inr (.inl wf4100135)))] sz) [(h0, .inr (8, [.ref h1, .int 2])), (h1, .inl (y 1, 200, .inr (.inl (vp_updL wf4100135 ((1 : Int32).toNatClampNeg) 0))))]) (va_A [(h0, .inr (8, [.ref h1, .int 1])), (h1, .inl (y 1, 200, .inr (.inl wf4100135)))] sz)) 0 0 (va_A [(h0, .inr (8, [.ref h1, .int 1])), (h1, .inl (y 1, 200, .inr (.inl wf4100135)))] sz) := by
  refine g_of (by decide) (Nat.le_of_ble_eq_true rfl) ?_
  intro p e s m below meth c ls A hx hb hr hml hown hg hlocks hin hsz hK hP hD hS hA hAe hl
  rw [← hAe]
  replace hown : s.vm.findClass RX8 = some m.cls := hown
  replace hl : lv_has ls 3 [(0, .ref h0), (1, .long 0)] := hl
  refine lv_aload_n hx hb dX8_add_0 rfl (lv_at hl 0 rfl) ?_
  refine gm_get (D := D) (ci := 8) (v := .int 1) (C := RX8) (T := TX8) (N := 2) hx hb hg inlX8 hown hK.1 hP 0 rfl rfl 1 (by decide) tX8_1 (hg _ gw_155) rfl dX8_add_1 ?_
  refine lv_if_lt (tgt := 39) hx hb dX8_add_4 (by decide) (fun c9 => absurd c9 (by decide +kernel)) (fun _ => ?_)
  refine lv_aload_n hx hb dX8_add_7 rfl (lv_at hl 0 rfl) ?_
  refine gm_get (D := D) (ci := 8) (v := .int 1) (C := RX8) (T := TX8) (N := 2) hx hb hg inlX8 hown hK.1 hP 0 rfl rfl 1 (by decide) tX8_1 (hg _ gw_155) rfl dX8_add_8 ?_
  refine lv_aload_n hx hb dX8_add_11 rfl (lv_at hl 0 rfl) ?_
  refine gm_get (D := D) (ci := 8) (v := .ref h1) (C := RX8) (T := TX8) (N := 2) hx hb hg inlX8 hown hK.1 hP 0 rfl rfl 0 (by decide) tX8_0 (hg _ gw_98) rfl dX8_add_12 ?_
  refine va_alen hx hb hK.1 hP 1 1 rfl rfl (v := 200) rfl dX8_add_15 ?_
  refine lv_icmp_ge (tgt := 39) hx hb dX8_add_16 (by decide) (fun c9 => absurd c9 (by decide +kernel)) (fun _ => ?_)
  refine lv_aload_n hx hb dX8_add_19 rfl (lv_at hl 0 rfl) ?_
  refine gm_get (D := D) (ci := 8) (v := .ref h1) (C := RX8) (T := TX8) (N := 2) hx hb hg inlX8 hown hK.1 hP 0 rfl rfl 0 (by decide) tX8_0 (hg _ gw_98) rfl dX8_add_20 ?_
  refine lv_aload_n hx hb dX8_add_23 rfl (lv_at hl 0 rfl) ?_
  refine gm_get (D := D) (ci := 8) (v := .int 1) (C := RX8) (T := TX8) (N := 2) hx hb hg inlX8 hown hK.1 hP 0 rfl rfl 1 (by decide) tX8_1 (hg _ gw_155) rfl dX8_add_24 ?_
  refine lv_lload_n hx hb dX8_add_27 rfl (lv_at hl 1 rfl) ?_
  refine va_last hx hb hK.1 hP hD hS 1 1 rfl rfl (by unfold vp_in; decide +kernel) dX8_add_28 ?_
  clear hP hD hS
  refine fun H locs (hP : va_P D vwCl [(h0, .inr (8, [.ref h1, .int 1])), (h1, .inl (y 1, 200, .inr (.inl (vp_updL wf4100135 ((1 : Int32).toNatClampNeg) 0))))] H) (hD : va_D A [(h0, .inr (8, [.ref h1, .int 1])), (h1, .inl (y 1, 200, .inr (.inl (vp_updL wf4100135 ((1 : Int32).toNatClampNeg) 0))))]) hS => ?_
  refine lv_aload_n hx hb dX8_add_29 rfl (lv_at hl 0 rfl) ?_
  refine lv_dup hx hb dX8_add_30 rfl ?_
  refine gm_get (D := D) (ci := 8) (v := .int 1) (C := RX8) (T := TX8) (N := 2) hx hb hg inlX8 hown hK.1 hP 0 rfl rfl 1 (by decide) tX8_1 (hg _ gw_155) rfl dX8_add_31 ?_
  refine lv_iconst (v := 1) hx hb dX8_add_34 (by decide) ?_
  refine lv_iadd hx hb dX8_add_35 ?_
  refine g_fi (v := 2) (by decide +kernel) ?_
  refine gm_put (D := D) (ci := 8) (v := .int 2) (ty := .int) (C := RX8) (T := TX8) (N := 2) hx hb hg inlX8 tyX8 tyX8_ok nmX8 hown hK.1 hP hD hS 0 rfl rfl 1 (by decide) tX8_1 (hg _ gw_155) (by decide +kernel) rfl rfl (Nat.le_of_ble_eq_true rfl) dX8_add_36 ?_
  clear hP hD hS H locs
  refine fun H locs (hP : va_P D vwCl [(h0, .inr (8, [.ref h1, .int 2])), (h1, .inl (y 1, 200, .inr (.inl (vp_updL wf4100135 ((1 : Int32).toNatClampNeg) 0))))] H) (hD : va_D A [(h0, .inr (8, [.ref h1, .int 2])), (h1, .inl (y 1, 200, .inr (.inl (vp_updL wf4100135 ((1 : Int32).toNatClampNeg) 0))))]) hS => ?_
  exact g_vret hx hb hr hlocks () hP hD hS trivial (Nat.le_of_ble_eq_true rfl) (Nat.le_of_ble_eq_true rfl) dX8_add_39
set_option maxRecDepth 100000 in
set_option maxHeartbeats 4000000 in
theorem k_X8_addMany_5 (l : Launch) (D : va_G) (y : Nat → ClassId) (aS : Nat → Nat) (sz : Nat) (h0 : Nat) (h1 : Nat) (wf4100137 : Nat → Int64) : Met l yX8_addMany (Cond.code yX8_addMany cX8_addMany 5 none :: wsL_law) ({ frames := 1, cells := 0, slots := 0, locals := 22 } : Room) (va_Pc [.ref h0, .int 2, .long 0] (gI D y aS [(h0, .inr (8, [.ref h1, .int 0])), (h1, .inl (y 1, 200, .inr (.inl wf4100137)))] sz)) (va_Qv (fun (u : Unit) => True) (fun u => gO D (va_A [(h0, .inr (8, [.ref h1, .int 0])), (h1, .inl (y 1, 200, .inr (.inl wf4100137)))] sz) [(h0, .inr (8, [.ref h1, .int 2])), (h1, .inl (y 1, 200, .inr (.inl (vp_updL (vp_updL wf4100137 ((0 : Int32).toNatClampNeg) 0) ((1 : Int32).toNatClampNeg) 0))))]) (va_A [(h0, .inr (8, [.ref h1, .int 0])), (h1, .inl (y 1, 200, .inr (.inl wf4100137)))] sz)) 0 0 (va_A [(h0, .inr (8, [.ref h1, .int 0])), (h1, .inl (y 1, 200, .inr (.inl wf4100137)))] sz) := by
  refine g_of (by decide) (Nat.le_of_ble_eq_true rfl) ?_
  intro p e s m below meth c ls A hx hb hr hml hown hg hlocks hin hsz hK hP hD hS hA hAe hl
  rw [← hAe]
  replace hown : s.vm.findClass RX8 = some m.cls := hown
  replace hl : lv_has ls 5 [(0, .ref h0), (1, .int 2), (2, .long 0)] := hl
  refine lv_iconst (v := 0) hx hb dX8_addMany_0 (by decide) ?_
  refine lv_istore (lv' := [(4, .int 0), (0, .ref h0), (1, .int 2), (2, .long 0)]) hx hb dX8_addMany_1 hl (by decide) rfl ?_
  clear hl
  clear ls
  intro ls hl
  refine lv_iload hx hb dX8_addMany_3 (lv_at hl 0 rfl) ?_
  refine lv_iload_n hx hb dX8_addMany_5 rfl (lv_at hl 2 rfl) ?_
  refine lv_icmp_ge (tgt := 30) hx hb dX8_addMany_6 (by decide) (fun c9 => absurd c9 (by decide +kernel)) (fun _ => ?_)
  refine lv_iload hx hb dX8_addMany_9 (lv_at hl 0 rfl) ?_
  refine lv_aload_n hx hb dX8_addMany_11 rfl (lv_at hl 1 rfl) ?_
  refine gm_get (D := D) (ci := 8) (v := .ref h1) (C := RX8) (T := TX8) (N := 2) hx hb hg inlX8 hown hK.1 hP 0 rfl rfl 0 (by decide) tX8_0 (hg _ gw_98) rfl dX8_addMany_12 ?_
  refine va_alen hx hb hK.1 hP 1 1 rfl rfl (v := 200) rfl dX8_addMany_15 ?_
  refine lv_icmp_ge (tgt := 30) hx hb dX8_addMany_16 (by decide) (fun c9 => absurd c9 (by decide +kernel)) (fun _ => ?_)
  refine lv_aload_n hx hb dX8_addMany_19 rfl (lv_at hl 1 rfl) ?_
  refine lv_lload_n hx hb dX8_addMany_20 rfl (lv_at hl 3 rfl) ?_
  refine g_av (wr := []) (va_runV (As := [.long 0]) (rest := []) ⟨hx, hb, hml, hown, hg⟩ (k_X8_add_28 l D y aS s.heap.size h0 h1 wf4100137) (cwV 1 hg ghV_RX8_19_X8_add rfl rfl rfl (by decide +kernel) ⟨Nat.le_of_ble_eq_true rfl, Nat.le_of_ble_eq_true rfl⟩) (g_preV (q := (RX8, TX8, 2)) hK hP hD [0, 1] rfl (by decide) (ci := 8) (q0 := 0) rfl rfl) rfl rfl hl.1 rfl (lv_room (Nat.le_of_ble_eq_true rfl)) dX8_addMany_21 ⟨Nat.le_of_ble_eq_true rfl, Nat.le_of_ble_eq_true rfl⟩) hP hD hS hA [0, 1] [] rfl rfl (by decide) (by decide) ?_
  clear hP hD hS
  refine fun u H locs hq hP hD hS => ?_
  replace hP : va_P D vwCl [(h0, .inr (8, [.ref h1, .int 1])), (h1, .inl (y 1, 200, .inr (.inl (vp_updL wf4100137 ((0 : Int32).toNatClampNeg) 0))))] H := hP
  replace hD : va_D A [(h0, .inr (8, [.ref h1, .int 1])), (h1, .inl (y 1, 200, .inr (.inl (vp_updL wf4100137 ((0 : Int32).toNatClampNeg) 0))))] := hD
  refine lv_iinc (v := 1) (lv' := [(4, .int 1), (0, .ref h0), (1, .int 2), (2, .long 0)]) hx hb dX8_addMany_24 hl (k := 0) rfl (by decide +kernel) (by decide) rfl ?_
  clear hl
  clear ls
  intro ls hl
  refine lv_goto (tgt := 3) hx hb dX8_addMany_27 (by decide) ?_
  refine lv_iload hx hb dX8_addMany_3 (lv_at hl 0 rfl) ?_
  refine lv_iload_n hx hb dX8_addMany_5 rfl (lv_at hl 2 rfl) ?_
  refine lv_icmp_ge (tgt := 30) hx hb dX8_addMany_6 (by decide) (fun c9 => absurd c9 (by decide +kernel)) (fun _ => ?_)
  refine lv_iload hx hb dX8_addMany_9 (lv_at hl 0 rfl) ?_
  refine lv_aload_n hx hb dX8_addMany_11 rfl (lv_at hl 1 rfl) ?_
  refine gm_get (D := D) (ci := 8) (v := .ref h1) (C := RX8) (T := TX8) (N := 2) hx hb hg inlX8 hown hK.1 hP 0 rfl rfl 0 (by decide) tX8_0 (hg _ gw_98) rfl dX8_addMany_12 ?_
  refine va_alen hx hb hK.1 hP 1 1 rfl rfl (v := 200) rfl dX8_addMany_15 ?_
  refine lv_icmp_ge (tgt := 30) hx hb dX8_addMany_16 (by decide) (fun c9 => absurd c9 (by decide +kernel)) (fun _ => ?_)
  refine lv_aload_n hx hb dX8_addMany_19 rfl (lv_at hl 1 rfl) ?_
  refine lv_lload_n hx hb dX8_addMany_20 rfl (lv_at hl 3 rfl) ?_
  refine g_av (wr := []) (va_runV (As := [.long 0]) (rest := []) ⟨hx, hb, hml, hown, hg⟩ (k_X8_add_29 l D y aS H.size h0 h1 (vp_updL wf4100137 ((0 : Int32).toNatClampNeg) 0)) (cwV 1 hg ghV_RX8_19_X8_add rfl rfl rfl (by decide +kernel) ⟨Nat.le_of_ble_eq_true rfl, Nat.le_of_ble_eq_true rfl⟩) (g_preV (q := (RX8, TX8, 2)) hK hP hD [0, 1] rfl (by decide) (ci := 8) (q0 := 0) rfl rfl) rfl rfl hl.1 rfl (lv_room (Nat.le_of_ble_eq_true rfl)) dX8_addMany_21 ⟨Nat.le_of_ble_eq_true rfl, Nat.le_of_ble_eq_true rfl⟩) hP hD hS hA [0, 1] [] rfl rfl (by decide) (by decide) ?_
  clear hP hD hS H locs
  refine fun u H locs hq hP hD hS => ?_
  replace hP : va_P D vwCl [(h0, .inr (8, [.ref h1, .int 2])), (h1, .inl (y 1, 200, .inr (.inl (vp_updL (vp_updL wf4100137 ((0 : Int32).toNatClampNeg) 0) ((1 : Int32).toNatClampNeg) 0))))] H := hP
  replace hD : va_D A [(h0, .inr (8, [.ref h1, .int 2])), (h1, .inl (y 1, 200, .inr (.inl (vp_updL (vp_updL wf4100137 ((0 : Int32).toNatClampNeg) 0) ((1 : Int32).toNatClampNeg) 0))))] := hD
  refine lv_iinc (v := 2) (lv' := [(4, .int 2), (0, .ref h0), (1, .int 2), (2, .long 0)]) hx hb dX8_addMany_24 hl (k := 0) rfl (by decide +kernel) (by decide) rfl ?_
  clear hl
  clear ls
  intro ls hl
  refine lv_goto (tgt := 3) hx hb dX8_addMany_27 (by decide) ?_
  refine lv_iload hx hb dX8_addMany_3 (lv_at hl 0 rfl) ?_
  refine lv_iload_n hx hb dX8_addMany_5 rfl (lv_at hl 2 rfl) ?_
  refine lv_icmp_ge (tgt := 30) hx hb dX8_addMany_6 (by decide) (fun _ => ?_) (fun c9 => absurd c9 (by decide +kernel))
  exact g_vret hx hb hr hlocks () hP hD hS trivial (Nat.le_of_ble_eq_true rfl) (Nat.le_of_ble_eq_true rfl) dX8_addMany_30
set_option maxRecDepth 100000 in
set_option maxHeartbeats 4000000 in
theorem k_X8_set_46 (l : Launch) (D : va_G) (y : Nat → ClassId) (aS : Nat → Nat) (sz : Nat) (h0 : Nat) (p1 : Int64) (h2 : Nat) (wp4100142 : Int32) (wf4100143 : Nat → Int64) : Met l yX8_set (Cond.code yX8_set cX8_set 4 none :: wsL_law) ({ frames := 0, cells := 0, slots := 0, locals := 0 } : Room) (va_Pc [.ref h0, .int 1, .long p1] (gI D y aS [(h0, .inr (8, [.ref h2, .int wp4100142])), (h2, .inl (y 1, 200, .inr (.inl wf4100143)))] sz)) (va_Qv (fun (u : Unit) => True) (fun u => gO D (va_A [(h0, .inr (8, [.ref h2, .int wp4100142])), (h2, .inl (y 1, 200, .inr (.inl wf4100143)))] sz) [(h0, .inr (8, [.ref h2, .int wp4100142])), (h2, .inl (y 1, 200, .inr (.inl (vp_updL wf4100143 ((1 : Int32).toNatClampNeg) p1))))]) (va_A [(h0, .inr (8, [.ref h2, .int wp4100142])), (h2, .inl (y 1, 200, .inr (.inl wf4100143)))] sz)) 0 0 (va_A [(h0, .inr (8, [.ref h2, .int wp4100142])), (h2, .inl (y 1, 200, .inr (.inl wf4100143)))] sz) := by
  refine g_of (by decide) (Nat.le_of_ble_eq_true rfl) ?_
  intro p e s m below meth c ls A hx hb hr hml hown hg hlocks hin hsz hK hP hD hS hA hAe hl
  rw [← hAe]
  replace hown : s.vm.findClass RX8 = some m.cls := hown
  replace hl : lv_has ls 4 [(0, .ref h0), (1, .int 1), (2, .long p1)] := hl
  refine lv_iload_n hx hb dX8_set_0 rfl (lv_at hl 1 rfl) ?_
  refine lv_if_lt (tgt := 20) hx hb dX8_set_1 (by decide) (fun c9 => absurd c9 (by decide +kernel)) (fun _ => ?_)
  refine lv_iload_n hx hb dX8_set_4 rfl (lv_at hl 1 rfl) ?_
  refine lv_aload_n hx hb dX8_set_5 rfl (lv_at hl 0 rfl) ?_
  refine gm_get (D := D) (ci := 8) (v := .ref h2) (C := RX8) (T := TX8) (N := 2) hx hb hg inlX8 hown hK.1 hP 0 rfl rfl 0 (by decide) tX8_0 (hg _ gw_98) rfl dX8_set_6 ?_
  refine va_alen hx hb hK.1 hP 1 1 rfl rfl (v := 200) rfl dX8_set_9 ?_
  refine lv_icmp_ge (tgt := 20) hx hb dX8_set_10 (by decide) (fun c9 => absurd c9 (by decide +kernel)) (fun _ => ?_)
  refine lv_aload_n hx hb dX8_set_13 rfl (lv_at hl 0 rfl) ?_
  refine gm_get (D := D) (ci := 8) (v := .ref h2) (C := RX8) (T := TX8) (N := 2) hx hb hg inlX8 hown hK.1 hP 0 rfl rfl 0 (by decide) tX8_0 (hg _ gw_98) rfl dX8_set_14 ?_
  refine lv_iload_n hx hb dX8_set_17 rfl (lv_at hl 1 rfl) ?_
  refine lv_lload_n hx hb dX8_set_18 rfl (lv_at hl 2 rfl) ?_
  refine va_last hx hb hK.1 hP hD hS 1 1 rfl rfl (by unfold vp_in; decide +kernel) dX8_set_19 ?_
  clear hP hD hS
  refine fun H locs (hP : va_P D vwCl [(h0, .inr (8, [.ref h2, .int wp4100142])), (h2, .inl (y 1, 200, .inr (.inl (vp_updL wf4100143 ((1 : Int32).toNatClampNeg) p1))))] H) (hD : va_D A [(h0, .inr (8, [.ref h2, .int wp4100142])), (h2, .inl (y 1, 200, .inr (.inl (vp_updL wf4100143 ((1 : Int32).toNatClampNeg) p1))))]) hS => ?_
  exact g_vret hx hb hr hlocks () hP hD hS trivial (Nat.le_of_ble_eq_true rfl) (Nat.le_of_ble_eq_true rfl) dX8_set_20
set_option maxRecDepth 100000 in
set_option maxHeartbeats 4000000 in
theorem k_X5_find_3 (l : Launch) (D : va_G) (y : Nat → ClassId) (aS : Nat → Nat) (sz : Nat) (h0 : Nat) (h1 : Nat) (h2 : Nat) (h3 : Nat) (h4 : Nat) (wp4100152 : Int32) (h6 : Nat) (wp4100153 : Int32) : Met l yX5_find (Cond.code yX5_find cX5_find 6 none :: wsL_law) ({ frames := 1, cells := 0, slots := 0, locals := 21 } : Room) (va_Pc [.ref h0, .int 0, .int 1] (gI D y aS [(h0, .inr (5, [.ref h1, .ref h2, .ref h3, .ref h4, .int wp4100152])), (h4, .inr (8, [.ref h6, .int wp4100153])), (h6, .inl (y 1, 3, .inr (.inl (fun _ => 0))))] sz)) (va_Qv (fun (u : Unit) => True) (fun u => gO D (va_A [(h0, .inr (5, [.ref h1, .ref h2, .ref h3, .ref h4, .int wp4100152])), (h4, .inr (8, [.ref h6, .int wp4100153])), (h6, .inl (y 1, 3, .inr (.inl (fun _ => 0))))] sz) [(h0, .inr (5, [.ref h1, .ref h2, .ref h3, .ref h4, .int wp4100152])), (h4, .inr (8, [.ref h6, .int wp4100153])), (h6, .inl (y 1, 3, .inr (.inl (fun _ => 0))))]) (va_A [(h0, .inr (5, [.ref h1, .ref h2, .ref h3, .ref h4, .int wp4100152])), (h4, .inr (8, [.ref h6, .int wp4100153])), (h6, .inl (y 1, 3, .inr (.inl (fun _ => 0))))] sz)) 0 0 (va_A [(h0, .inr (5, [.ref h1, .ref h2, .ref h3, .ref h4, .int wp4100152])), (h4, .inr (8, [.ref h6, .int wp4100153])), (h6, .inl (y 1, 3, .inr (.inl (fun _ => 0))))] sz) := by
  refine g_of (by decide) (Nat.le_of_ble_eq_true rfl) ?_
  intro p e s m below meth c ls A hx hb hr hml hown hg hlocks hin hsz hK hP hD hS hA hAe hl
  rw [← hAe]
  replace hown : s.vm.findClass RX5 = some m.cls := hown
  replace hl : lv_has ls 6 [(0, .ref h0), (1, .int 0), (2, .int 1)] := hl
  refine lv_aload_n hx hb dX5_find_0 rfl (lv_at hl 0 rfl) ?_
  refine gm_get (D := D) (ci := 5) (v := .ref h4) (C := RX5) (T := TX5) (N := 5) hx hb hg inlX5 hown hK.1 hP 0 rfl rfl 3 (by decide) tX5_3 (hg _ gw_141) rfl dX5_find_1 ?_
  refine lv_iload_n hx hb dX5_find_4 rfl (lv_at hl 1 rfl) ?_
  refine g_ai (wr := [(h0, .inr (5, [.ref h1, .ref h2, .ref h3, .ref h4, .int wp4100152]))]) (va_runV (As := [.int 0]) (rest := []) ⟨hx, hb, hml, hown, hg⟩ (k_X8_whole_27 l D y aS s.heap.size h4 h6 wp4100153) (cwV 1 hg ggV_RX5_50_X8_whole rfl rfl rfl (by decide +kernel) ⟨Nat.le_of_ble_eq_true rfl, Nat.le_of_ble_eq_true rfl⟩) (g_preV (q := (RX8, TX8, 2)) hK hP hD [1, 2] rfl (by decide) (ci := 8) (q0 := 1) rfl rfl) rfl rfl hl.1 rfl (lv_room (Nat.le_of_ble_eq_true rfl)) dX5_find_5 ⟨Nat.le_of_ble_eq_true rfl, Nat.le_of_ble_eq_true rfl⟩) hP hD hS hA [1, 2] [0] rfl rfl (by decide) (by decide) ?_
  clear hP hD hS
  refine fun r4100154 u H locs hq hP hD hS => ?_
  subst hq
  replace hP : va_P D vwCl [(h0, .inr (5, [.ref h1, .ref h2, .ref h3, .ref h4, .int wp4100152])), (h4, .inr (8, [.ref h6, .int wp4100153])), (h6, .inl (y 1, 3, .inr (.inl (fun _ => 0))))] H := hP
  replace hD : va_D A [(h0, .inr (5, [.ref h1, .ref h2, .ref h3, .ref h4, .int wp4100152])), (h4, .inr (8, [.ref h6, .int wp4100153])), (h6, .inl (y 1, 3, .inr (.inl (fun _ => 0))))] := hD
  refine lv_istore_n (lv' := [(3, .int 0), (0, .ref h0), (1, .int 0), (2, .int 1)]) hx hb dX5_find_8 rfl hl (by decide) rfl ?_
  clear hl
  clear ls
  intro ls hl
  refine lv_iconst (v := 0) hx hb dX5_find_9 (by decide) ?_
  refine lv_istore (lv' := [(4, .int 0), (3, .int 0), (0, .ref h0), (1, .int 0), (2, .int 1)]) hx hb dX5_find_10 hl (by decide) rfl ?_
  clear hl
  clear ls
  intro ls hl
  refine lv_iload hx hb dX5_find_12 (lv_at hl 0 rfl) ?_
  refine lv_iload_n hx hb dX5_find_14 rfl (lv_at hl 1 rfl) ?_
  refine lv_icmp_ge (tgt := 67) hx hb dX5_find_15 (by decide) (fun _ => ?_) (fun c9 => absurd c9 (by decide +kernel))
  refine lv_iload_n hx hb dX5_find_67 rfl (lv_at hl 1 rfl) ?_
  refine lv_if_le (tgt := 107) hx hb dX5_find_68 (by decide) (fun _ => ?_) (fun c9 => absurd c9 (by decide +kernel))
  refine lv_iload hx hb dX5_find_107 (lv_at hl 0 rfl) ?_
  refine lv_if_le (tgt := 139) hx hb dX5_find_109 (by decide) (fun _ => ?_) (fun c9 => absurd c9 (by decide +kernel))
  exact g_vret hx hb hr hlocks () hP hD hS trivial (Nat.le_of_ble_eq_true rfl) (Nat.le_of_ble_eq_true rfl) dX5_find_139
set_option maxRecDepth 100000 in
set_option maxHeartbeats 4000000 in
theorem k_X5_find_4 (l : Launch) (D : va_G) (y : Nat → ClassId) (aS : Nat → Nat) (sz : Nat) (h0 : Nat) (h1 : Nat) (h2 : Nat) (h3 : Nat) (h4 : Nat) (wp4100157 : Int32) (h6 : Nat) (wp4100158 : Int32) : Met l yX5_find (Cond.code yX5_find cX5_find 6 none :: wsL_law) ({ frames := 1, cells := 0, slots := 0, locals := 21 } : Room) (va_Pc [.ref h0, .int 1, .int 1] (gI D y aS [(h0, .inr (5, [.ref h1, .ref h2, .ref h3, .ref h4, .int wp4100157])), (h4, .inr (8, [.ref h6, .int wp4100158])), (h6, .inl (y 1, 3, .inr (.inl (fun _ => 0))))] sz)) (va_Qv (fun (u : Unit) => True) (fun u => gO D (va_A [(h0, .inr (5, [.ref h1, .ref h2, .ref h3, .ref h4, .int wp4100157])), (h4, .inr (8, [.ref h6, .int wp4100158])), (h6, .inl (y 1, 3, .inr (.inl (fun _ => 0))))] sz) [(h0, .inr (5, [.ref h1, .ref h2, .ref h3, .ref h4, .int wp4100157])), (h4, .inr (8, [.ref h6, .int wp4100158])), (h6, .inl (y 1, 3, .inr (.inl (fun _ => 0))))]) (va_A [(h0, .inr (5, [.ref h1, .ref h2, .ref h3, .ref h4, .int wp4100157])), (h4, .inr (8, [.ref h6, .int wp4100158])), (h6, .inl (y 1, 3, .inr (.inl (fun _ => 0))))] sz)) 0 0 (va_A [(h0, .inr (5, [.ref h1, .ref h2, .ref h3, .ref h4, .int wp4100157])), (h4, .inr (8, [.ref h6, .int wp4100158])), (h6, .inl (y 1, 3, .inr (.inl (fun _ => 0))))] sz) := by
  refine g_of (by decide) (Nat.le_of_ble_eq_true rfl) ?_
  intro p e s m below meth c ls A hx hb hr hml hown hg hlocks hin hsz hK hP hD hS hA hAe hl
  rw [← hAe]
  replace hown : s.vm.findClass RX5 = some m.cls := hown
  replace hl : lv_has ls 6 [(0, .ref h0), (1, .int 1), (2, .int 1)] := hl
  refine lv_aload_n hx hb dX5_find_0 rfl (lv_at hl 0 rfl) ?_
  refine gm_get (D := D) (ci := 5) (v := .ref h4) (C := RX5) (T := TX5) (N := 5) hx hb hg inlX5 hown hK.1 hP 0 rfl rfl 3 (by decide) tX5_3 (hg _ gw_141) rfl dX5_find_1 ?_
  refine lv_iload_n hx hb dX5_find_4 rfl (lv_at hl 1 rfl) ?_
  refine g_ai (wr := [(h0, .inr (5, [.ref h1, .ref h2, .ref h3, .ref h4, .int wp4100157]))]) (va_runV (As := [.int 1]) (rest := []) ⟨hx, hb, hml, hown, hg⟩ (k_X8_whole_28 l D y aS s.heap.size h4 h6 wp4100158) (cwV 1 hg ggV_RX5_50_X8_whole rfl rfl rfl (by decide +kernel) ⟨Nat.le_of_ble_eq_true rfl, Nat.le_of_ble_eq_true rfl⟩) (g_preV (q := (RX8, TX8, 2)) hK hP hD [1, 2] rfl (by decide) (ci := 8) (q0 := 1) rfl rfl) rfl rfl hl.1 rfl (lv_room (Nat.le_of_ble_eq_true rfl)) dX5_find_5 ⟨Nat.le_of_ble_eq_true rfl, Nat.le_of_ble_eq_true rfl⟩) hP hD hS hA [1, 2] [0] rfl rfl (by decide) (by decide) ?_
  clear hP hD hS
  refine fun r4100159 u H locs hq hP hD hS => ?_
  subst hq
  replace hP : va_P D vwCl [(h0, .inr (5, [.ref h1, .ref h2, .ref h3, .ref h4, .int wp4100157])), (h4, .inr (8, [.ref h6, .int wp4100158])), (h6, .inl (y 1, 3, .inr (.inl (fun _ => 0))))] H := hP
  replace hD : va_D A [(h0, .inr (5, [.ref h1, .ref h2, .ref h3, .ref h4, .int wp4100157])), (h4, .inr (8, [.ref h6, .int wp4100158])), (h6, .inl (y 1, 3, .inr (.inl (fun _ => 0))))] := hD
  refine lv_istore_n (lv' := [(3, .int 0), (0, .ref h0), (1, .int 1), (2, .int 1)]) hx hb dX5_find_8 rfl hl (by decide) rfl ?_
  clear hl
  clear ls
  intro ls hl
  refine lv_iconst (v := 0) hx hb dX5_find_9 (by decide) ?_
  refine lv_istore (lv' := [(4, .int 0), (3, .int 0), (0, .ref h0), (1, .int 1), (2, .int 1)]) hx hb dX5_find_10 hl (by decide) rfl ?_
  clear hl
  clear ls
  intro ls hl
  refine lv_iload hx hb dX5_find_12 (lv_at hl 0 rfl) ?_
  refine lv_iload_n hx hb dX5_find_14 rfl (lv_at hl 1 rfl) ?_
  refine lv_icmp_ge (tgt := 67) hx hb dX5_find_15 (by decide) (fun _ => ?_) (fun c9 => absurd c9 (by decide +kernel))
  refine lv_iload_n hx hb dX5_find_67 rfl (lv_at hl 1 rfl) ?_
  refine lv_if_le (tgt := 107) hx hb dX5_find_68 (by decide) (fun _ => ?_) (fun c9 => absurd c9 (by decide +kernel))
  refine lv_iload hx hb dX5_find_107 (lv_at hl 0 rfl) ?_
  refine lv_if_le (tgt := 139) hx hb dX5_find_109 (by decide) (fun _ => ?_) (fun c9 => absurd c9 (by decide +kernel))
  exact g_vret hx hb hr hlocks () hP hD hS trivial (Nat.le_of_ble_eq_true rfl) (Nat.le_of_ble_eq_true rfl) dX5_find_139
set_option maxRecDepth 100000 in
set_option maxHeartbeats 4000000 in
theorem k_X5_find_5 (l : Launch) (D : va_G) (y : Nat → ClassId) (aS : Nat → Nat) (sz : Nat) (h0 : Nat) (h1 : Nat) (h2 : Nat) (h3 : Nat) (h4 : Nat) (wp4100162 : Int32) (h6 : Nat) (wp4100163 : Int32) : Met l yX5_find (Cond.code yX5_find cX5_find 6 none :: wsL_law) ({ frames := 1, cells := 0, slots := 0, locals := 21 } : Room) (va_Pc [.ref h0, .int 2, .int 1] (gI D y aS [(h0, .inr (5, [.ref h1, .ref h2, .ref h3, .ref h4, .int wp4100162])), (h4, .inr (8, [.ref h6, .int wp4100163])), (h6, .inl (y 1, 3, .inr (.inl (fun _ => 0))))] sz)) (va_Qv (fun (u : Unit) => True) (fun u => gO D (va_A [(h0, .inr (5, [.ref h1, .ref h2, .ref h3, .ref h4, .int wp4100162])), (h4, .inr (8, [.ref h6, .int wp4100163])), (h6, .inl (y 1, 3, .inr (.inl (fun _ => 0))))] sz) [(h0, .inr (5, [.ref h1, .ref h2, .ref h3, .ref h4, .int wp4100162])), (h4, .inr (8, [.ref h6, .int wp4100163])), (h6, .inl (y 1, 3, .inr (.inl (fun _ => 0))))]) (va_A [(h0, .inr (5, [.ref h1, .ref h2, .ref h3, .ref h4, .int wp4100162])), (h4, .inr (8, [.ref h6, .int wp4100163])), (h6, .inl (y 1, 3, .inr (.inl (fun _ => 0))))] sz)) 0 0 (va_A [(h0, .inr (5, [.ref h1, .ref h2, .ref h3, .ref h4, .int wp4100162])), (h4, .inr (8, [.ref h6, .int wp4100163])), (h6, .inl (y 1, 3, .inr (.inl (fun _ => 0))))] sz) := by
  refine g_of (by decide) (Nat.le_of_ble_eq_true rfl) ?_
  intro p e s m below meth c ls A hx hb hr hml hown hg hlocks hin hsz hK hP hD hS hA hAe hl
  rw [← hAe]
  replace hown : s.vm.findClass RX5 = some m.cls := hown
  replace hl : lv_has ls 6 [(0, .ref h0), (1, .int 2), (2, .int 1)] := hl
  refine lv_aload_n hx hb dX5_find_0 rfl (lv_at hl 0 rfl) ?_
  refine gm_get (D := D) (ci := 5) (v := .ref h4) (C := RX5) (T := TX5) (N := 5) hx hb hg inlX5 hown hK.1 hP 0 rfl rfl 3 (by decide) tX5_3 (hg _ gw_141) rfl dX5_find_1 ?_
  refine lv_iload_n hx hb dX5_find_4 rfl (lv_at hl 1 rfl) ?_
  refine g_ai (wr := [(h0, .inr (5, [.ref h1, .ref h2, .ref h3, .ref h4, .int wp4100162]))]) (va_runV (As := [.int 2]) (rest := []) ⟨hx, hb, hml, hown, hg⟩ (k_X8_whole_29 l D y aS s.heap.size h4 h6 wp4100163) (cwV 1 hg ggV_RX5_50_X8_whole rfl rfl rfl (by decide +kernel) ⟨Nat.le_of_ble_eq_true rfl, Nat.le_of_ble_eq_true rfl⟩) (g_preV (q := (RX8, TX8, 2)) hK hP hD [1, 2] rfl (by decide) (ci := 8) (q0 := 1) rfl rfl) rfl rfl hl.1 rfl (lv_room (Nat.le_of_ble_eq_true rfl)) dX5_find_5 ⟨Nat.le_of_ble_eq_true rfl, Nat.le_of_ble_eq_true rfl⟩) hP hD hS hA [1, 2] [0] rfl rfl (by decide) (by decide) ?_
  clear hP hD hS
  refine fun r4100164 u H locs hq hP hD hS => ?_
  subst hq
  replace hP : va_P D vwCl [(h0, .inr (5, [.ref h1, .ref h2, .ref h3, .ref h4, .int wp4100162])), (h4, .inr (8, [.ref h6, .int wp4100163])), (h6, .inl (y 1, 3, .inr (.inl (fun _ => 0))))] H := hP
  replace hD : va_D A [(h0, .inr (5, [.ref h1, .ref h2, .ref h3, .ref h4, .int wp4100162])), (h4, .inr (8, [.ref h6, .int wp4100163])), (h6, .inl (y 1, 3, .inr (.inl (fun _ => 0))))] := hD
  refine lv_istore_n (lv' := [(3, .int 0), (0, .ref h0), (1, .int 2), (2, .int 1)]) hx hb dX5_find_8 rfl hl (by decide) rfl ?_
  clear hl
  clear ls
  intro ls hl
  refine lv_iconst (v := 0) hx hb dX5_find_9 (by decide) ?_
  refine lv_istore (lv' := [(4, .int 0), (3, .int 0), (0, .ref h0), (1, .int 2), (2, .int 1)]) hx hb dX5_find_10 hl (by decide) rfl ?_
  clear hl
  clear ls
  intro ls hl
  refine lv_iload hx hb dX5_find_12 (lv_at hl 0 rfl) ?_
  refine lv_iload_n hx hb dX5_find_14 rfl (lv_at hl 1 rfl) ?_
  refine lv_icmp_ge (tgt := 67) hx hb dX5_find_15 (by decide) (fun _ => ?_) (fun c9 => absurd c9 (by decide +kernel))
  refine lv_iload_n hx hb dX5_find_67 rfl (lv_at hl 1 rfl) ?_
  refine lv_if_le (tgt := 107) hx hb dX5_find_68 (by decide) (fun _ => ?_) (fun c9 => absurd c9 (by decide +kernel))
  refine lv_iload hx hb dX5_find_107 (lv_at hl 0 rfl) ?_
  refine lv_if_le (tgt := 139) hx hb dX5_find_109 (by decide) (fun _ => ?_) (fun c9 => absurd c9 (by decide +kernel))
  exact g_vret hx hb hr hlocks () hP hD hS trivial (Nat.le_of_ble_eq_true rfl) (Nat.le_of_ble_eq_true rfl) dX5_find_139
set_option maxRecDepth 100000 in
set_option maxHeartbeats 4000000 in
theorem k_X5_findOut_2 (l : Launch) (D : va_G) (y : Nat → ClassId) (aS : Nat → Nat) (sz : Nat) (h0 : Nat) (h1 : Nat) (h2 : Nat) (h3 : Nat) (h4 : Nat) (wp4100166 : Int32) (h6 : Nat) (h7 : Nat) (wp4100167 : Int32) (wf4100168 : Nat → Int64) (h10 : Nat) (wp4100169 : Int32) : Met l yX5_findOut (Cond.code yX5_findOut cX5_findOut 3 none :: wsL_law) ({ frames := 2, cells := 0, slots := 0, locals := 46 } : Room) (va_Pc [.ref h0] (gI D y aS [(h0, .inr (5, [.ref h1, .ref h2, .ref h3, .ref h4, .int wp4100166])), (h1, .inr (8, [.ref h6, .int 2])), (h2, .inr (8, [.ref h7, .int wp4100167])), (h7, .inl (y 1, 200, .inr (.inl wf4100168))), (h4, .inr (8, [.ref h10, .int wp4100169])), (h10, .inl (y 1, 3, .inr (.inl (fun _ => 0))))] sz)) (va_Qv (fun (u : Unit) => True) (fun u => gO D (va_A [(h0, .inr (5, [.ref h1, .ref h2, .ref h3, .ref h4, .int wp4100166])), (h1, .inr (8, [.ref h6, .int 2])), (h2, .inr (8, [.ref h7, .int wp4100167])), (h7, .inl (y 1, 200, .inr (.inl wf4100168))), (h4, .inr (8, [.ref h10, .int wp4100169])), (h10, .inl (y 1, 3, .inr (.inl (fun _ => 0))))] sz) [(h0, .inr (5, [.ref h1, .ref h2, .ref h3, .ref h4, .int 2])), (h1, .inr (8, [.ref h6, .int 2])), (h2, .inr (8, [.ref h7, .int wp4100167])), (h7, .inl (y 1, 200, .inr (.inl (vp_updL (vp_updL wf4100168 ((0 : Int32).toNatClampNeg) 0) ((1 : Int32).toNatClampNeg) 0)))), (h4, .inr (8, [.ref h10, .int wp4100169])), (h10, .inl (y 1, 3, .inr (.inl (fun _ => 0))))]) (va_A [(h0, .inr (5, [.ref h1, .ref h2, .ref h3, .ref h4, .int wp4100166])), (h1, .inr (8, [.ref h6, .int 2])), (h2, .inr (8, [.ref h7, .int wp4100167])), (h7, .inl (y 1, 200, .inr (.inl wf4100168))), (h4, .inr (8, [.ref h10, .int wp4100169])), (h10, .inl (y 1, 3, .inr (.inl (fun _ => 0))))] sz)) 0 0 (va_A [(h0, .inr (5, [.ref h1, .ref h2, .ref h3, .ref h4, .int wp4100166])), (h1, .inr (8, [.ref h6, .int 2])), (h2, .inr (8, [.ref h7, .int wp4100167])), (h7, .inl (y 1, 200, .inr (.inl wf4100168))), (h4, .inr (8, [.ref h10, .int wp4100169])), (h10, .inl (y 1, 3, .inr (.inl (fun _ => 0))))] sz) := by
  refine g_of (by decide) (Nat.le_of_ble_eq_true rfl) ?_
  intro p e s m below meth c ls A hx hb hr hml hown hg hlocks hin hsz hK hP hD hS hA hAe hl
  rw [← hAe]
  replace hown : s.vm.findClass RX5 = some m.cls := hown
  replace hl : lv_has ls 3 [(0, .ref h0)] := hl
  refine lv_aload_n hx hb dX5_findOut_0 rfl (lv_at hl 0 rfl) ?_
  refine lv_aload_n hx hb dX5_findOut_1 rfl (lv_at hl 0 rfl) ?_
  refine gm_get (D := D) (ci := 5) (v := .ref h1) (C := RX5) (T := TX5) (N := 5) hx hb hg inlX5 hown hK.1 hP 0 rfl rfl 0 (by decide) tX5_0 (hg _ gw_138) rfl dX5_findOut_2 ?_
  refine gm_get (D := D) (ci := 8) (v := .int 2) (C := RX8) (T := TX8) (N := 2) hx hb hg inlX8 hown hK.1 hP 1 rfl rfl 1 (by decide) tX8_1 (hg _ gw_1441) rfl dX5_findOut_5 ?_
  refine gm_put (D := D) (ci := 5) (v := .int 2) (ty := .int) (C := RX5) (T := TX5) (N := 5) hx hb hg inlX5 tyX5 tyX5_ok nmX5 hown hK.1 hP hD hS 0 rfl rfl 4 (by decide) tX5_4 (hg _ gw_1442) (by decide +kernel) rfl rfl (Nat.le_of_ble_eq_true rfl) dX5_findOut_8 ?_
  clear hP hD hS
  refine fun H locs (hP : va_P D vwCl [(h0, .inr (5, [.ref h1, .ref h2, .ref h3, .ref h4, .int 2])), (h1, .inr (8, [.ref h6, .int 2])), (h2, .inr (8, [.ref h7, .int wp4100167])), (h7, .inl (y 1, 200, .inr (.inl wf4100168))), (h4, .inr (8, [.ref h10, .int wp4100169])), (h10, .inl (y 1, 3, .inr (.inl (fun _ => 0))))] H) (hD : va_D A [(h0, .inr (5, [.ref h1, .ref h2, .ref h3, .ref h4, .int 2])), (h1, .inr (8, [.ref h6, .int 2])), (h2, .inr (8, [.ref h7, .int wp4100167])), (h7, .inl (y 1, 200, .inr (.inl wf4100168))), (h4, .inr (8, [.ref h10, .int wp4100169])), (h10, .inl (y 1, 3, .inr (.inl (fun _ => 0))))]) hS => ?_
  refine lv_iconst (v := 0) hx hb dX5_findOut_11 (by decide) ?_
  refine lv_istore_n (lv' := [(1, .int 0), (0, .ref h0)]) hx hb dX5_findOut_12 rfl hl (by decide) rfl ?_
  clear hl
  clear ls
  intro ls hl
  refine lv_iload_n hx hb dX5_findOut_13 rfl (lv_at hl 0 rfl) ?_
  refine lv_aload_n hx hb dX5_findOut_14 rfl (lv_at hl 1 rfl) ?_
  refine gm_get (D := D) (ci := 5) (v := .ref h1) (C := RX5) (T := TX5) (N := 5) hx hb hg inlX5 hown hK.1 hP 0 rfl rfl 0 (by decide) tX5_0 (hg _ gw_138) rfl dX5_findOut_15 ?_
  refine gm_get (D := D) (ci := 8) (v := .int 2) (C := RX8) (T := TX8) (N := 2) hx hb hg inlX8 hown hK.1 hP 1 rfl rfl 1 (by decide) tX8_1 (hg _ gw_1441) rfl dX5_findOut_18 ?_
  refine lv_icmp_ge (tgt := 39) hx hb dX5_findOut_21 (by decide) (fun c9 => absurd c9 (by decide +kernel)) (fun _ => ?_)
  refine lv_aload_n hx hb dX5_findOut_24 rfl (lv_at hl 1 rfl) ?_
  refine gm_get (D := D) (ci := 5) (v := .ref h2) (C := RX5) (T := TX5) (N := 5) hx hb hg inlX5 hown hK.1 hP 0 rfl rfl 1 (by decide) tX5_1 (hg _ gw_139) rfl dX5_findOut_25 ?_
  refine lv_iload_n hx hb dX5_findOut_28 rfl (lv_at hl 0 rfl) ?_
  refine lv_lconst (v := 0) hx hb dX5_findOut_29 (by decide) ?_
  refine g_av (wr := [(h0, .inr (5, [.ref h1, .ref h2, .ref h3, .ref h4, .int 2])), (h1, .inr (8, [.ref h6, .int 2])), (h4, .inr (8, [.ref h10, .int wp4100169])), (h10, .inl (y 1, 3, .inr (.inl (fun _ => 0))))]) (va_runV (As := [.int 0, .long 0]) (rest := []) ⟨hx, hb, hml, hown, hg⟩ (k_X8_set_45 l D y aS H.size h2 0 h7 wp4100167 wf4100168) (cwV 2 hg ggV_RX5_29_X8_set rfl rfl rfl (by decide +kernel) ⟨Nat.le_of_ble_eq_true rfl, Nat.le_of_ble_eq_true rfl⟩) (g_preV (q := (RX8, TX8, 2)) hK hP hD [2, 3] rfl (by decide) (ci := 8) (q0 := 2) rfl rfl) rfl rfl hl.1 rfl (lv_room (Nat.le_of_ble_eq_true rfl)) dX5_findOut_30 ⟨Nat.le_of_ble_eq_true rfl, Nat.le_of_ble_eq_true rfl⟩) hP hD hS hA [2, 3] [0, 1, 4, 5] rfl rfl (by decide) (by decide) ?_
  clear hP hD hS H locs
  refine fun u H locs hq hP hD hS => ?_
  replace hP : va_P D vwCl [(h0, .inr (5, [.ref h1, .ref h2, .ref h3, .ref h4, .int 2])), (h1, .inr (8, [.ref h6, .int 2])), (h4, .inr (8, [.ref h10, .int wp4100169])), (h10, .inl (y 1, 3, .inr (.inl (fun _ => 0)))), (h2, .inr (8, [.ref h7, .int wp4100167])), (h7, .inl (y 1, 200, .inr (.inl (vp_updL wf4100168 ((0 : Int32).toNatClampNeg) 0))))] H := hP
  replace hD : va_D A [(h0, .inr (5, [.ref h1, .ref h2, .ref h3, .ref h4, .int 2])), (h1, .inr (8, [.ref h6, .int 2])), (h4, .inr (8, [.ref h10, .int wp4100169])), (h10, .inl (y 1, 3, .inr (.inl (fun _ => 0)))), (h2, .inr (8, [.ref h7, .int wp4100167])), (h7, .inl (y 1, 200, .inr (.inl (vp_updL wf4100168 ((0 : Int32).toNatClampNeg) 0))))] := hD
  refine lv_iinc (v := 1) (lv' := [(1, .int 1), (0, .ref h0)]) hx hb dX5_findOut_33 hl (k := 0) rfl (by decide +kernel) (by decide) rfl ?_
  clear hl
  clear ls
  intro ls hl
  refine lv_goto (tgt := 13) hx hb dX5_findOut_36 (by decide) ?_
  refine lv_iload_n hx hb dX5_findOut_13 rfl (lv_at hl 0 rfl) ?_
  refine lv_aload_n hx hb dX5_findOut_14 rfl (lv_at hl 1 rfl) ?_
  refine gm_get (D := D) (ci := 5) (v := .ref h1) (C := RX5) (T := TX5) (N := 5) hx hb hg inlX5 hown hK.1 hP 0 rfl rfl 0 (by decide) tX5_0 (hg _ gw_138) rfl dX5_findOut_15 ?_
  refine gm_get (D := D) (ci := 8) (v := .int 2) (C := RX8) (T := TX8) (N := 2) hx hb hg inlX8 hown hK.1 hP 1 rfl rfl 1 (by decide) tX8_1 (hg _ gw_1441) rfl dX5_findOut_18 ?_
  refine lv_icmp_ge (tgt := 39) hx hb dX5_findOut_21 (by decide) (fun c9 => absurd c9 (by decide +kernel)) (fun _ => ?_)
  refine lv_aload_n hx hb dX5_findOut_24 rfl (lv_at hl 1 rfl) ?_
  refine gm_get (D := D) (ci := 5) (v := .ref h2) (C := RX5) (T := TX5) (N := 5) hx hb hg inlX5 hown hK.1 hP 0 rfl rfl 1 (by decide) tX5_1 (hg _ gw_139) rfl dX5_findOut_25 ?_
  refine lv_iload_n hx hb dX5_findOut_28 rfl (lv_at hl 0 rfl) ?_
  refine lv_lconst (v := 0) hx hb dX5_findOut_29 (by decide) ?_
  refine g_av (wr := [(h0, .inr (5, [.ref h1, .ref h2, .ref h3, .ref h4, .int 2])), (h1, .inr (8, [.ref h6, .int 2])), (h4, .inr (8, [.ref h10, .int wp4100169])), (h10, .inl (y 1, 3, .inr (.inl (fun _ => 0))))]) (va_runV (As := [.int 1, .long 0]) (rest := []) ⟨hx, hb, hml, hown, hg⟩ (k_X8_set_46 l D y aS H.size h2 0 h7 wp4100167 (vp_updL wf4100168 ((0 : Int32).toNatClampNeg) 0)) (cwV 2 hg ggV_RX5_29_X8_set rfl rfl rfl (by decide +kernel) ⟨Nat.le_of_ble_eq_true rfl, Nat.le_of_ble_eq_true rfl⟩) (g_preV (q := (RX8, TX8, 2)) hK hP hD [4, 5] rfl (by decide) (ci := 8) (q0 := 4) rfl rfl) rfl rfl hl.1 rfl (lv_room (Nat.le_of_ble_eq_true rfl)) dX5_findOut_30 ⟨Nat.le_of_ble_eq_true rfl, Nat.le_of_ble_eq_true rfl⟩) hP hD hS hA [4, 5] [0, 1, 2, 3] rfl rfl (by decide) (by decide) ?_
  clear hP hD hS H locs
  refine fun u H locs hq hP hD hS => ?_
  replace hP : va_P D vwCl [(h0, .inr (5, [.ref h1, .ref h2, .ref h3, .ref h4, .int 2])), (h1, .inr (8, [.ref h6, .int 2])), (h4, .inr (8, [.ref h10, .int wp4100169])), (h10, .inl (y 1, 3, .inr (.inl (fun _ => 0)))), (h2, .inr (8, [.ref h7, .int wp4100167])), (h7, .inl (y 1, 200, .inr (.inl (vp_updL (vp_updL wf4100168 ((0 : Int32).toNatClampNeg) 0) ((1 : Int32).toNatClampNeg) 0))))] H := hP
  replace hD : va_D A [(h0, .inr (5, [.ref h1, .ref h2, .ref h3, .ref h4, .int 2])), (h1, .inr (8, [.ref h6, .int 2])), (h4, .inr (8, [.ref h10, .int wp4100169])), (h10, .inl (y 1, 3, .inr (.inl (fun _ => 0)))), (h2, .inr (8, [.ref h7, .int wp4100167])), (h7, .inl (y 1, 200, .inr (.inl (vp_updL (vp_updL wf4100168 ((0 : Int32).toNatClampNeg) 0) ((1 : Int32).toNatClampNeg) 0))))] := hD
  refine lv_iinc (v := 2) (lv' := [(1, .int 2), (0, .ref h0)]) hx hb dX5_findOut_33 hl (k := 0) rfl (by decide +kernel) (by decide) rfl ?_
  clear hl
  clear ls
  intro ls hl
  refine lv_goto (tgt := 13) hx hb dX5_findOut_36 (by decide) ?_
  refine lv_iload_n hx hb dX5_findOut_13 rfl (lv_at hl 0 rfl) ?_
  refine lv_aload_n hx hb dX5_findOut_14 rfl (lv_at hl 1 rfl) ?_
  refine gm_get (D := D) (ci := 5) (v := .ref h1) (C := RX5) (T := TX5) (N := 5) hx hb hg inlX5 hown hK.1 hP 0 rfl rfl 0 (by decide) tX5_0 (hg _ gw_138) rfl dX5_findOut_15 ?_
  refine gm_get (D := D) (ci := 8) (v := .int 2) (C := RX8) (T := TX8) (N := 2) hx hb hg inlX8 hown hK.1 hP 1 rfl rfl 1 (by decide) tX8_1 (hg _ gw_1441) rfl dX5_findOut_18 ?_
  refine lv_icmp_ge (tgt := 39) hx hb dX5_findOut_21 (by decide) (fun _ => ?_) (fun c9 => absurd c9 (by decide +kernel))
  refine lv_iconst (v := 0) hx hb dX5_findOut_39 (by decide) ?_
  refine lv_istore_n (lv' := [(1, .int 0), (0, .ref h0)]) hx hb dX5_findOut_40 rfl hl (by decide) rfl ?_
  clear hl
  clear ls
  intro ls hl
  refine lv_iload_n hx hb dX5_findOut_41 rfl (lv_at hl 0 rfl) ?_
  refine lv_aload_n hx hb dX5_findOut_42 rfl (lv_at hl 1 rfl) ?_
  refine gm_get (D := D) (ci := 5) (v := .ref h1) (C := RX5) (T := TX5) (N := 5) hx hb hg inlX5 hown hK.1 hP 0 rfl rfl 0 (by decide) tX5_0 (hg _ gw_138) rfl dX5_findOut_43 ?_
  refine gm_get (D := D) (ci := 8) (v := .int 2) (C := RX8) (T := TX8) (N := 2) hx hb hg inlX8 hown hK.1 hP 1 rfl rfl 1 (by decide) tX8_1 (hg _ gw_1441) rfl dX5_findOut_46 ?_
  refine lv_icmp_ge (tgt := 77) hx hb dX5_findOut_49 (by decide) (fun c9 => absurd c9 (by decide +kernel)) (fun _ => ?_)
  refine lv_iconst (v := 0) hx hb dX5_findOut_52 (by decide) ?_
  refine lv_istore_n (lv' := [(2, .int 0), (1, .int 0), (0, .ref h0)]) hx hb dX5_findOut_53 rfl hl (by decide) rfl ?_
  clear hl
  clear ls
  intro ls hl
  refine lv_iload_n hx hb dX5_findOut_54 rfl (lv_at hl 0 rfl) ?_
  refine lv_iconst (v := 3) hx hb dX5_findOut_55 (by decide) ?_
  refine lv_icmp_ge (tgt := 71) hx hb dX5_findOut_56 (by decide) (fun c9 => absurd c9 (by decide +kernel)) (fun _ => ?_)
  refine lv_aload_n hx hb dX5_findOut_59 rfl (lv_at hl 2 rfl) ?_
  refine lv_iload_n hx hb dX5_findOut_60 rfl (lv_at hl 0 rfl) ?_
  refine lv_iload_n hx hb dX5_findOut_61 rfl (lv_at hl 1 rfl) ?_
  refine g_av (wr := [(h1, .inr (8, [.ref h6, .int 2])), (h2, .inr (8, [.ref h7, .int wp4100167])), (h7, .inl (y 1, 200, .inr (.inl (vp_updL (vp_updL wf4100168 ((0 : Int32).toNatClampNeg) 0) ((1 : Int32).toNatClampNeg) 0))))]) (va_runV (As := [.int 0, .int 0]) (rest := []) ⟨hx, hb, hml, hown, hg⟩ (k_X5_find_0 l D y aS H.size h0 h1 h2 h3 h4 2 h10 wp4100169) (cwV 2 hg ggV_RX5_54_X5_find rfl rfl rfl (by decide +kernel) ⟨Nat.le_of_ble_eq_true rfl, Nat.le_of_ble_eq_true rfl⟩) (g_preV (q := (RX5, TX5, 5)) hK hP hD [0, 2, 3] rfl (by decide) (ci := 5) (q0 := 0) rfl rfl) rfl rfl hl.1 rfl (lv_room (Nat.le_of_ble_eq_true rfl)) dX5_findOut_62 ⟨Nat.le_of_ble_eq_true rfl, Nat.le_of_ble_eq_true rfl⟩) hP hD hS hA [0, 2, 3] [1, 4, 5] rfl rfl (by decide) (by decide) ?_
  clear hP hD hS H locs
  refine fun u H locs hq hP hD hS => ?_
  replace hP : va_P D vwCl [(h1, .inr (8, [.ref h6, .int 2])), (h2, .inr (8, [.ref h7, .int wp4100167])), (h7, .inl (y 1, 200, .inr (.inl (vp_updL (vp_updL wf4100168 ((0 : Int32).toNatClampNeg) 0) ((1 : Int32).toNatClampNeg) 0)))), (h0, .inr (5, [.ref h1, .ref h2, .ref h3, .ref h4, .int 2])), (h4, .inr (8, [.ref h10, .int wp4100169])), (h10, .inl (y 1, 3, .inr (.inl (fun _ => 0))))] H := hP
  replace hD : va_D A [(h1, .inr (8, [.ref h6, .int 2])), (h2, .inr (8, [.ref h7, .int wp4100167])), (h7, .inl (y 1, 200, .inr (.inl (vp_updL (vp_updL wf4100168 ((0 : Int32).toNatClampNeg) 0) ((1 : Int32).toNatClampNeg) 0)))), (h0, .inr (5, [.ref h1, .ref h2, .ref h3, .ref h4, .int 2])), (h4, .inr (8, [.ref h10, .int wp4100169])), (h10, .inl (y 1, 3, .inr (.inl (fun _ => 0))))] := hD
  refine lv_iinc (v := 1) (lv' := [(2, .int 1), (1, .int 0), (0, .ref h0)]) hx hb dX5_findOut_65 hl (k := 0) rfl (by decide +kernel) (by decide) rfl ?_
  clear hl
  clear ls
  intro ls hl
  refine lv_goto (tgt := 54) hx hb dX5_findOut_68 (by decide) ?_
  refine lv_iload_n hx hb dX5_findOut_54 rfl (lv_at hl 0 rfl) ?_
  refine lv_iconst (v := 3) hx hb dX5_findOut_55 (by decide) ?_
  refine lv_icmp_ge (tgt := 71) hx hb dX5_findOut_56 (by decide) (fun c9 => absurd c9 (by decide +kernel)) (fun _ => ?_)
  refine lv_aload_n hx hb dX5_findOut_59 rfl (lv_at hl 2 rfl) ?_
  refine lv_iload_n hx hb dX5_findOut_60 rfl (lv_at hl 0 rfl) ?_
  refine lv_iload_n hx hb dX5_findOut_61 rfl (lv_at hl 1 rfl) ?_
  refine g_av (wr := [(h1, .inr (8, [.ref h6, .int 2])), (h2, .inr (8, [.ref h7, .int wp4100167])), (h7, .inl (y 1, 200, .inr (.inl (vp_updL (vp_updL wf4100168 ((0 : Int32).toNatClampNeg) 0) ((1 : Int32).toNatClampNeg) 0))))]) (va_runV (As := [.int 1, .int 0]) (rest := []) ⟨hx, hb, hml, hown, hg⟩ (k_X5_find_1 l D y aS H.size h0 h1 h2 h3 h4 2 h10 wp4100169) (cwV 2 hg ggV_RX5_54_X5_find rfl rfl rfl (by decide +kernel) ⟨Nat.le_of_ble_eq_true rfl, Nat.le_of_ble_eq_true rfl⟩) (g_preV (q := (RX5, TX5, 5)) hK hP hD [3, 4, 5] rfl (by decide) (ci := 5) (q0 := 3) rfl rfl) rfl rfl hl.1 rfl (lv_room (Nat.le_of_ble_eq_true rfl)) dX5_findOut_62 ⟨Nat.le_of_ble_eq_true rfl, Nat.le_of_ble_eq_true rfl⟩) hP hD hS hA [3, 4, 5] [0, 1, 2] rfl rfl (by decide) (by decide) ?_
  clear hP hD hS H locs
  refine fun u H locs hq hP hD hS => ?_
  replace hP : va_P D vwCl [(h1, .inr (8, [.ref h6, .int 2])), (h2, .inr (8, [.ref h7, .int wp4100167])), (h7, .inl (y 1, 200, .inr (.inl (vp_updL (vp_updL wf4100168 ((0 : Int32).toNatClampNeg) 0) ((1 : Int32).toNatClampNeg) 0)))), (h0, .inr (5, [.ref h1, .ref h2, .ref h3, .ref h4, .int 2])), (h4, .inr (8, [.ref h10, .int wp4100169])), (h10, .inl (y 1, 3, .inr (.inl (fun _ => 0))))] H := hP
  replace hD : va_D A [(h1, .inr (8, [.ref h6, .int 2])), (h2, .inr (8, [.ref h7, .int wp4100167])), (h7, .inl (y 1, 200, .inr (.inl (vp_updL (vp_updL wf4100168 ((0 : Int32).toNatClampNeg) 0) ((1 : Int32).toNatClampNeg) 0)))), (h0, .inr (5, [.ref h1, .ref h2, .ref h3, .ref h4, .int 2])), (h4, .inr (8, [.ref h10, .int wp4100169])), (h10, .inl (y 1, 3, .inr (.inl (fun _ => 0))))] := hD
  refine lv_iinc (v := 2) (lv' := [(2, .int 2), (1, .int 0), (0, .ref h0)]) hx hb dX5_findOut_65 hl (k := 0) rfl (by decide +kernel) (by decide) rfl ?_
  clear hl
  clear ls
  intro ls hl
  refine lv_goto (tgt := 54) hx hb dX5_findOut_68 (by decide) ?_
  refine lv_iload_n hx hb dX5_findOut_54 rfl (lv_at hl 0 rfl) ?_
  refine lv_iconst (v := 3) hx hb dX5_findOut_55 (by decide) ?_
  refine lv_icmp_ge (tgt := 71) hx hb dX5_findOut_56 (by decide) (fun c9 => absurd c9 (by decide +kernel)) (fun _ => ?_)
  refine lv_aload_n hx hb dX5_findOut_59 rfl (lv_at hl 2 rfl) ?_
  refine lv_iload_n hx hb dX5_findOut_60 rfl (lv_at hl 0 rfl) ?_
  refine lv_iload_n hx hb dX5_findOut_61 rfl (lv_at hl 1 rfl) ?_
  refine g_av (wr := [(h1, .inr (8, [.ref h6, .int 2])), (h2, .inr (8, [.ref h7, .int wp4100167])), (h7, .inl (y 1, 200, .inr (.inl (vp_updL (vp_updL wf4100168 ((0 : Int32).toNatClampNeg) 0) ((1 : Int32).toNatClampNeg) 0))))]) (va_runV (As := [.int 2, .int 0]) (rest := []) ⟨hx, hb, hml, hown, hg⟩ (k_X5_find_2 l D y aS H.size h0 h1 h2 h3 h4 2 h10 wp4100169) (cwV 2 hg ggV_RX5_54_X5_find rfl rfl rfl (by decide +kernel) ⟨Nat.le_of_ble_eq_true rfl, Nat.le_of_ble_eq_true rfl⟩) (g_preV (q := (RX5, TX5, 5)) hK hP hD [3, 4, 5] rfl (by decide) (ci := 5) (q0 := 3) rfl rfl) rfl rfl hl.1 rfl (lv_room (Nat.le_of_ble_eq_true rfl)) dX5_findOut_62 ⟨Nat.le_of_ble_eq_true rfl, Nat.le_of_ble_eq_true rfl⟩) hP hD hS hA [3, 4, 5] [0, 1, 2] rfl rfl (by decide) (by decide) ?_
  clear hP hD hS H locs
  refine fun u H locs hq hP hD hS => ?_
  replace hP : va_P D vwCl [(h1, .inr (8, [.ref h6, .int 2])), (h2, .inr (8, [.ref h7, .int wp4100167])), (h7, .inl (y 1, 200, .inr (.inl (vp_updL (vp_updL wf4100168 ((0 : Int32).toNatClampNeg) 0) ((1 : Int32).toNatClampNeg) 0)))), (h0, .inr (5, [.ref h1, .ref h2, .ref h3, .ref h4, .int 2])), (h4, .inr (8, [.ref h10, .int wp4100169])), (h10, .inl (y 1, 3, .inr (.inl (fun _ => 0))))] H := hP
  replace hD : va_D A [(h1, .inr (8, [.ref h6, .int 2])), (h2, .inr (8, [.ref h7, .int wp4100167])), (h7, .inl (y 1, 200, .inr (.inl (vp_updL (vp_updL wf4100168 ((0 : Int32).toNatClampNeg) 0) ((1 : Int32).toNatClampNeg) 0)))), (h0, .inr (5, [.ref h1, .ref h2, .ref h3, .ref h4, .int 2])), (h4, .inr (8, [.ref h10, .int wp4100169])), (h10, .inl (y 1, 3, .inr (.inl (fun _ => 0))))] := hD
  refine lv_iinc (v := 3) (lv' := [(2, .int 3), (1, .int 0), (0, .ref h0)]) hx hb dX5_findOut_65 hl (k := 0) rfl (by decide +kernel) (by decide) rfl ?_
  clear hl
  clear ls
  intro ls hl
  refine lv_goto (tgt := 54) hx hb dX5_findOut_68 (by decide) ?_
  refine lv_iload_n hx hb dX5_findOut_54 rfl (lv_at hl 0 rfl) ?_
  refine lv_iconst (v := 3) hx hb dX5_findOut_55 (by decide) ?_
  refine lv_icmp_ge (tgt := 71) hx hb dX5_findOut_56 (by decide) (fun _ => ?_) (fun c9 => absurd c9 (by decide +kernel))
  refine lv_iinc (v := 1) (lv' := [(1, .int 1), (2, .int 3), (0, .ref h0)]) hx hb dX5_findOut_71 hl (k := 1) rfl (by decide +kernel) (by decide) rfl ?_
  clear hl
  clear ls
  intro ls hl
  refine lv_goto (tgt := 41) hx hb dX5_findOut_74 (by decide) ?_
  refine lv_iload_n hx hb dX5_findOut_41 rfl (lv_at hl 0 rfl) ?_
  refine lv_aload_n hx hb dX5_findOut_42 rfl (lv_at hl 2 rfl) ?_
  refine gm_get (D := D) (ci := 5) (v := .ref h1) (C := RX5) (T := TX5) (N := 5) hx hb hg inlX5 hown hK.1 hP 3 rfl rfl 0 (by decide) tX5_0 (hg _ gw_138) rfl dX5_findOut_43 ?_
  refine gm_get (D := D) (ci := 8) (v := .int 2) (C := RX8) (T := TX8) (N := 2) hx hb hg inlX8 hown hK.1 hP 0 rfl rfl 1 (by decide) tX8_1 (hg _ gw_1441) rfl dX5_findOut_46 ?_
  refine lv_icmp_ge (tgt := 77) hx hb dX5_findOut_49 (by decide) (fun c9 => absurd c9 (by decide +kernel)) (fun _ => ?_)
  refine lv_iconst (v := 0) hx hb dX5_findOut_52 (by decide) ?_
  refine lv_istore_n (lv' := [(2, .int 0), (1, .int 1), (0, .ref h0)]) hx hb dX5_findOut_53 rfl hl (by decide) rfl ?_
  clear hl
  clear ls
  intro ls hl
  refine lv_iload_n hx hb dX5_findOut_54 rfl (lv_at hl 0 rfl) ?_
  refine lv_iconst (v := 3) hx hb dX5_findOut_55 (by decide) ?_
  refine lv_icmp_ge (tgt := 71) hx hb dX5_findOut_56 (by decide) (fun c9 => absurd c9 (by decide +kernel)) (fun _ => ?_)
  refine lv_aload_n hx hb dX5_findOut_59 rfl (lv_at hl 2 rfl) ?_
  refine lv_iload_n hx hb dX5_findOut_60 rfl (lv_at hl 0 rfl) ?_
  refine lv_iload_n hx hb dX5_findOut_61 rfl (lv_at hl 1 rfl) ?_
  refine g_av (wr := [(h1, .inr (8, [.ref h6, .int 2])), (h2, .inr (8, [.ref h7, .int wp4100167])), (h7, .inl (y 1, 200, .inr (.inl (vp_updL (vp_updL wf4100168 ((0 : Int32).toNatClampNeg) 0) ((1 : Int32).toNatClampNeg) 0))))]) (va_runV (As := [.int 0, .int 1]) (rest := []) ⟨hx, hb, hml, hown, hg⟩ (k_X5_find_3 l D y aS H.size h0 h1 h2 h3 h4 2 h10 wp4100169) (cwV 2 hg ggV_RX5_54_X5_find rfl rfl rfl (by decide +kernel) ⟨Nat.le_of_ble_eq_true rfl, Nat.le_of_ble_eq_true rfl⟩) (g_preV (q := (RX5, TX5, 5)) hK hP hD [3, 4, 5] rfl (by decide) (ci := 5) (q0 := 3) rfl rfl) rfl rfl hl.1 rfl (lv_room (Nat.le_of_ble_eq_true rfl)) dX5_findOut_62 ⟨Nat.le_of_ble_eq_true rfl, Nat.le_of_ble_eq_true rfl⟩) hP hD hS hA [3, 4, 5] [0, 1, 2] rfl rfl (by decide) (by decide) ?_
  clear hP hD hS H locs
  refine fun u H locs hq hP hD hS => ?_
  replace hP : va_P D vwCl [(h1, .inr (8, [.ref h6, .int 2])), (h2, .inr (8, [.ref h7, .int wp4100167])), (h7, .inl (y 1, 200, .inr (.inl (vp_updL (vp_updL wf4100168 ((0 : Int32).toNatClampNeg) 0) ((1 : Int32).toNatClampNeg) 0)))), (h0, .inr (5, [.ref h1, .ref h2, .ref h3, .ref h4, .int 2])), (h4, .inr (8, [.ref h10, .int wp4100169])), (h10, .inl (y 1, 3, .inr (.inl (fun _ => 0))))] H := hP
  replace hD : va_D A [(h1, .inr (8, [.ref h6, .int 2])), (h2, .inr (8, [.ref h7, .int wp4100167])), (h7, .inl (y 1, 200, .inr (.inl (vp_updL (vp_updL wf4100168 ((0 : Int32).toNatClampNeg) 0) ((1 : Int32).toNatClampNeg) 0)))), (h0, .inr (5, [.ref h1, .ref h2, .ref h3, .ref h4, .int 2])), (h4, .inr (8, [.ref h10, .int wp4100169])), (h10, .inl (y 1, 3, .inr (.inl (fun _ => 0))))] := hD
  refine lv_iinc (v := 1) (lv' := [(2, .int 1), (1, .int 1), (0, .ref h0)]) hx hb dX5_findOut_65 hl (k := 0) rfl (by decide +kernel) (by decide) rfl ?_
  clear hl
  clear ls
  intro ls hl
  refine lv_goto (tgt := 54) hx hb dX5_findOut_68 (by decide) ?_
  refine lv_iload_n hx hb dX5_findOut_54 rfl (lv_at hl 0 rfl) ?_
  refine lv_iconst (v := 3) hx hb dX5_findOut_55 (by decide) ?_
  refine lv_icmp_ge (tgt := 71) hx hb dX5_findOut_56 (by decide) (fun c9 => absurd c9 (by decide +kernel)) (fun _ => ?_)
  refine lv_aload_n hx hb dX5_findOut_59 rfl (lv_at hl 2 rfl) ?_
  refine lv_iload_n hx hb dX5_findOut_60 rfl (lv_at hl 0 rfl) ?_
  refine lv_iload_n hx hb dX5_findOut_61 rfl (lv_at hl 1 rfl) ?_
  refine g_av (wr := [(h1, .inr (8, [.ref h6, .int 2])), (h2, .inr (8, [.ref h7, .int wp4100167])), (h7, .inl (y 1, 200, .inr (.inl (vp_updL (vp_updL wf4100168 ((0 : Int32).toNatClampNeg) 0) ((1 : Int32).toNatClampNeg) 0))))]) (va_runV (As := [.int 1, .int 1]) (rest := []) ⟨hx, hb, hml, hown, hg⟩ (k_X5_find_4 l D y aS H.size h0 h1 h2 h3 h4 2 h10 wp4100169) (cwV 2 hg ggV_RX5_54_X5_find rfl rfl rfl (by decide +kernel) ⟨Nat.le_of_ble_eq_true rfl, Nat.le_of_ble_eq_true rfl⟩) (g_preV (q := (RX5, TX5, 5)) hK hP hD [3, 4, 5] rfl (by decide) (ci := 5) (q0 := 3) rfl rfl) rfl rfl hl.1 rfl (lv_room (Nat.le_of_ble_eq_true rfl)) dX5_findOut_62 ⟨Nat.le_of_ble_eq_true rfl, Nat.le_of_ble_eq_true rfl⟩) hP hD hS hA [3, 4, 5] [0, 1, 2] rfl rfl (by decide) (by decide) ?_
  clear hP hD hS H locs
  refine fun u H locs hq hP hD hS => ?_
  replace hP : va_P D vwCl [(h1, .inr (8, [.ref h6, .int 2])), (h2, .inr (8, [.ref h7, .int wp4100167])), (h7, .inl (y 1, 200, .inr (.inl (vp_updL (vp_updL wf4100168 ((0 : Int32).toNatClampNeg) 0) ((1 : Int32).toNatClampNeg) 0)))), (h0, .inr (5, [.ref h1, .ref h2, .ref h3, .ref h4, .int 2])), (h4, .inr (8, [.ref h10, .int wp4100169])), (h10, .inl (y 1, 3, .inr (.inl (fun _ => 0))))] H := hP
  replace hD : va_D A [(h1, .inr (8, [.ref h6, .int 2])), (h2, .inr (8, [.ref h7, .int wp4100167])), (h7, .inl (y 1, 200, .inr (.inl (vp_updL (vp_updL wf4100168 ((0 : Int32).toNatClampNeg) 0) ((1 : Int32).toNatClampNeg) 0)))), (h0, .inr (5, [.ref h1, .ref h2, .ref h3, .ref h4, .int 2])), (h4, .inr (8, [.ref h10, .int wp4100169])), (h10, .inl (y 1, 3, .inr (.inl (fun _ => 0))))] := hD
  refine lv_iinc (v := 2) (lv' := [(2, .int 2), (1, .int 1), (0, .ref h0)]) hx hb dX5_findOut_65 hl (k := 0) rfl (by decide +kernel) (by decide) rfl ?_
  clear hl
  clear ls
  intro ls hl
  refine lv_goto (tgt := 54) hx hb dX5_findOut_68 (by decide) ?_
  refine lv_iload_n hx hb dX5_findOut_54 rfl (lv_at hl 0 rfl) ?_
  refine lv_iconst (v := 3) hx hb dX5_findOut_55 (by decide) ?_
  refine lv_icmp_ge (tgt := 71) hx hb dX5_findOut_56 (by decide) (fun c9 => absurd c9 (by decide +kernel)) (fun _ => ?_)
  refine lv_aload_n hx hb dX5_findOut_59 rfl (lv_at hl 2 rfl) ?_
  refine lv_iload_n hx hb dX5_findOut_60 rfl (lv_at hl 0 rfl) ?_
  refine lv_iload_n hx hb dX5_findOut_61 rfl (lv_at hl 1 rfl) ?_
  refine g_av (wr := [(h1, .inr (8, [.ref h6, .int 2])), (h2, .inr (8, [.ref h7, .int wp4100167])), (h7, .inl (y 1, 200, .inr (.inl (vp_updL (vp_updL wf4100168 ((0 : Int32).toNatClampNeg) 0) ((1 : Int32).toNatClampNeg) 0))))]) (va_runV (As := [.int 2, .int 1]) (rest := []) ⟨hx, hb, hml, hown, hg⟩ (k_X5_find_5 l D y aS H.size h0 h1 h2 h3 h4 2 h10 wp4100169) (cwV 2 hg ggV_RX5_54_X5_find rfl rfl rfl (by decide +kernel) ⟨Nat.le_of_ble_eq_true rfl, Nat.le_of_ble_eq_true rfl⟩) (g_preV (q := (RX5, TX5, 5)) hK hP hD [3, 4, 5] rfl (by decide) (ci := 5) (q0 := 3) rfl rfl) rfl rfl hl.1 rfl (lv_room (Nat.le_of_ble_eq_true rfl)) dX5_findOut_62 ⟨Nat.le_of_ble_eq_true rfl, Nat.le_of_ble_eq_true rfl⟩) hP hD hS hA [3, 4, 5] [0, 1, 2] rfl rfl (by decide) (by decide) ?_
  clear hP hD hS H locs
  refine fun u H locs hq hP hD hS => ?_
  replace hP : va_P D vwCl [(h1, .inr (8, [.ref h6, .int 2])), (h2, .inr (8, [.ref h7, .int wp4100167])), (h7, .inl (y 1, 200, .inr (.inl (vp_updL (vp_updL wf4100168 ((0 : Int32).toNatClampNeg) 0) ((1 : Int32).toNatClampNeg) 0)))), (h0, .inr (5, [.ref h1, .ref h2, .ref h3, .ref h4, .int 2])), (h4, .inr (8, [.ref h10, .int wp4100169])), (h10, .inl (y 1, 3, .inr (.inl (fun _ => 0))))] H := hP
  replace hD : va_D A [(h1, .inr (8, [.ref h6, .int 2])), (h2, .inr (8, [.ref h7, .int wp4100167])), (h7, .inl (y 1, 200, .inr (.inl (vp_updL (vp_updL wf4100168 ((0 : Int32).toNatClampNeg) 0) ((1 : Int32).toNatClampNeg) 0)))), (h0, .inr (5, [.ref h1, .ref h2, .ref h3, .ref h4, .int 2])), (h4, .inr (8, [.ref h10, .int wp4100169])), (h10, .inl (y 1, 3, .inr (.inl (fun _ => 0))))] := hD
  refine lv_iinc (v := 3) (lv' := [(2, .int 3), (1, .int 1), (0, .ref h0)]) hx hb dX5_findOut_65 hl (k := 0) rfl (by decide +kernel) (by decide) rfl ?_
  clear hl
  clear ls
  intro ls hl
  refine lv_goto (tgt := 54) hx hb dX5_findOut_68 (by decide) ?_
  refine lv_iload_n hx hb dX5_findOut_54 rfl (lv_at hl 0 rfl) ?_
  refine lv_iconst (v := 3) hx hb dX5_findOut_55 (by decide) ?_
  refine lv_icmp_ge (tgt := 71) hx hb dX5_findOut_56 (by decide) (fun _ => ?_) (fun c9 => absurd c9 (by decide +kernel))
  refine lv_iinc (v := 2) (lv' := [(1, .int 2), (2, .int 3), (0, .ref h0)]) hx hb dX5_findOut_71 hl (k := 1) rfl (by decide +kernel) (by decide) rfl ?_
  clear hl
  clear ls
  intro ls hl
  refine lv_goto (tgt := 41) hx hb dX5_findOut_74 (by decide) ?_
  refine lv_iload_n hx hb dX5_findOut_41 rfl (lv_at hl 0 rfl) ?_
  refine lv_aload_n hx hb dX5_findOut_42 rfl (lv_at hl 2 rfl) ?_
  refine gm_get (D := D) (ci := 5) (v := .ref h1) (C := RX5) (T := TX5) (N := 5) hx hb hg inlX5 hown hK.1 hP 3 rfl rfl 0 (by decide) tX5_0 (hg _ gw_138) rfl dX5_findOut_43 ?_
  refine gm_get (D := D) (ci := 8) (v := .int 2) (C := RX8) (T := TX8) (N := 2) hx hb hg inlX8 hown hK.1 hP 0 rfl rfl 1 (by decide) tX8_1 (hg _ gw_1441) rfl dX5_findOut_46 ?_
  refine lv_icmp_ge (tgt := 77) hx hb dX5_findOut_49 (by decide) (fun _ => ?_) (fun c9 => absurd c9 (by decide +kernel))
  exact g_vret hx hb hr hlocks () (hP.sub [3, 0, 1, 2, 4, 5] rfl) (hD.sub [3, 0, 1, 2, 4, 5] (by decide +kernel) rfl) hS trivial (Nat.le_of_ble_eq_true rfl) (Nat.le_of_ble_eq_true rfl) dX5_findOut_77
set_option maxRecDepth 100000 in
set_option maxHeartbeats 4000000 in
theorem k_X5_append_1 (l : Launch) (D : va_G) (y : Nat → ClassId) (aS : Nat → Nat) (sz : Nat) (h0 : Nat) (p1 : Int32) (h2 : Nat) (h3 : Nat) (h4 : Nat) (h5 : Nat) (h6 : Nat) (wf4100179 : Nat → Int64) (h8 : Nat) (wp4100180 : Int32) (wf4100181 : Nat → Int64) (h11 : Nat) (wp4100182 : Int32) : Met l yX5_append (Cond.code yX5_append cX5_append 6 (some .int) :: wsL_law) ({ frames := 3, cells := 0, slots := 0, locals := 68 } : Room) (va_Pc [.ref h0, .int p1, .int 2] (gI D y aS [(h0, .inr (5, [.ref h2, .ref h3, .ref h4, .ref h5, .int 0])), (h2, .inr (8, [.ref h6, .int 0])), (h6, .inl (y 1, 200, .inr (.inl wf4100179))), (h3, .inr (8, [.ref h8, .int wp4100180])), (h8, .inl (y 1, 200, .inr (.inl wf4100181))), (h5, .inr (8, [.ref h11, .int wp4100182])), (h11, .inl (y 1, 3, .inr (.inl (fun _ => 0))))] sz)) (va_Qi (fun (r : Int32) (u : Unit) => 2 = r) (fun u => gO D (va_A [(h0, .inr (5, [.ref h2, .ref h3, .ref h4, .ref h5, .int 0])), (h2, .inr (8, [.ref h6, .int 0])), (h6, .inl (y 1, 200, .inr (.inl wf4100179))), (h3, .inr (8, [.ref h8, .int wp4100180])), (h8, .inl (y 1, 200, .inr (.inl wf4100181))), (h5, .inr (8, [.ref h11, .int wp4100182])), (h11, .inl (y 1, 3, .inr (.inl (fun _ => 0))))] sz) [(h0, .inr (5, [.ref h2, .ref h3, .ref h4, .ref h5, .int 2])), (h2, .inr (8, [.ref h6, .int 2])), (h6, .inl (y 1, 200, .inr (.inl (vp_updL (vp_updL (vp_updL (vp_updL wf4100179 ((0 : Int32).toNatClampNeg) 0) ((1 : Int32).toNatClampNeg) 0) ((1 : Int32).toNatClampNeg) ((p1 - p1 / 10 * 10).toInt64)) ((0 : Int32).toNatClampNeg) (((p1 / 10) - (p1 / 10) / 10 * 10).toInt64))))), (h3, .inr (8, [.ref h8, .int wp4100180])), (h8, .inl (y 1, 200, .inr (.inl (vp_updL (vp_updL wf4100181 ((0 : Int32).toNatClampNeg) 0) ((1 : Int32).toNatClampNeg) 0)))), (h5, .inr (8, [.ref h11, .int wp4100182])), (h11, .inl (y 1, 3, .inr (.inl (fun _ => 0))))]) (va_A [(h0, .inr (5, [.ref h2, .ref h3, .ref h4, .ref h5, .int 0])), (h2, .inr (8, [.ref h6, .int 0])), (h6, .inl (y 1, 200, .inr (.inl wf4100179))), (h3, .inr (8, [.ref h8, .int wp4100180])), (h8, .inl (y 1, 200, .inr (.inl wf4100181))), (h5, .inr (8, [.ref h11, .int wp4100182])), (h11, .inl (y 1, 3, .inr (.inl (fun _ => 0))))] sz)) 0 0 (va_A [(h0, .inr (5, [.ref h2, .ref h3, .ref h4, .ref h5, .int 0])), (h2, .inr (8, [.ref h6, .int 0])), (h6, .inl (y 1, 200, .inr (.inl wf4100179))), (h3, .inr (8, [.ref h8, .int wp4100180])), (h8, .inl (y 1, 200, .inr (.inl wf4100181))), (h5, .inr (8, [.ref h11, .int wp4100182])), (h11, .inl (y 1, 3, .inr (.inl (fun _ => 0))))] sz) := by
  refine g_of (by decide) (Nat.le_of_ble_eq_true rfl) ?_
  intro p e s m below meth c ls A hx hb hr hml hown hg hlocks hin hsz hK hP hD hS hA hAe hl
  rw [← hAe]
  replace hown : s.vm.findClass RX5 = some m.cls := hown
  replace hl : lv_has ls 6 [(0, .ref h0), (1, .int p1), (2, .int 2)] := hl
  refine lv_aload_n hx hb dX5_append_0 rfl (lv_at hl 0 rfl) ?_
  refine gm_get (D := D) (ci := 5) (v := .ref h2) (C := RX5) (T := TX5) (N := 5) hx hb hg inlX5 hown hK.1 hP 0 rfl rfl 0 (by decide) tX5_0 (hg _ gw_138) rfl dX5_append_1 ?_
  refine gm_get (D := D) (ci := 8) (v := .int 0) (C := RX8) (T := TX8) (N := 2) hx hb hg inlX8 hown hK.1 hP 1 rfl rfl 1 (by decide) tX8_1 (hg _ gw_1441) rfl dX5_append_4 ?_
  refine lv_istore_n (lv' := [(3, .int 0), (0, .ref h0), (1, .int p1), (2, .int 2)]) hx hb dX5_append_7 rfl hl (by decide) rfl ?_
  clear hl
  clear ls
  intro ls hl
  refine lv_aload_n hx hb dX5_append_8 rfl (lv_at hl 1 rfl) ?_
  refine gm_get (D := D) (ci := 5) (v := .ref h2) (C := RX5) (T := TX5) (N := 5) hx hb hg inlX5 hown hK.1 hP 0 rfl rfl 0 (by decide) tX5_0 (hg _ gw_138) rfl dX5_append_9 ?_
  refine lv_iload_n hx hb dX5_append_12 rfl (lv_at hl 3 rfl) ?_
  refine lv_lconst (v := 0) hx hb dX5_append_13 (by decide) ?_
  refine g_av (wr := [(h0, .inr (5, [.ref h2, .ref h3, .ref h4, .ref h5, .int 0])), (h3, .inr (8, [.ref h8, .int wp4100180])), (h8, .inl (y 1, 200, .inr (.inl wf4100181))), (h5, .inr (8, [.ref h11, .int wp4100182])), (h11, .inl (y 1, 3, .inr (.inl (fun _ => 0))))]) (va_runV (As := [.int 2, .long 0]) (rest := []) ⟨hx, hb, hml, hown, hg⟩ (k_X8_addMany_5 l D y aS s.heap.size h2 h6 wf4100179) (cwV 2 hg ggV_RX5_44_X8_addMany rfl rfl rfl (by decide +kernel) ⟨Nat.le_of_ble_eq_true rfl, Nat.le_of_ble_eq_true rfl⟩) (g_preV (q := (RX8, TX8, 2)) hK hP hD [1, 2] rfl (by decide) (ci := 8) (q0 := 1) rfl rfl) rfl rfl hl.1 rfl (lv_room (Nat.le_of_ble_eq_true rfl)) dX5_append_14 ⟨Nat.le_of_ble_eq_true rfl, Nat.le_of_ble_eq_true rfl⟩) hP hD hS hA [1, 2] [0, 3, 4, 5, 6] rfl rfl (by decide) (by decide) ?_
  clear hP hD hS
  refine fun u H locs hq hP hD hS => ?_
  replace hP : va_P D vwCl [(h0, .inr (5, [.ref h2, .ref h3, .ref h4, .ref h5, .int 0])), (h3, .inr (8, [.ref h8, .int wp4100180])), (h8, .inl (y 1, 200, .inr (.inl wf4100181))), (h5, .inr (8, [.ref h11, .int wp4100182])), (h11, .inl (y 1, 3, .inr (.inl (fun _ => 0)))), (h2, .inr (8, [.ref h6, .int 2])), (h6, .inl (y 1, 200, .inr (.inl (vp_updL (vp_updL wf4100179 ((0 : Int32).toNatClampNeg) 0) ((1 : Int32).toNatClampNeg) 0))))] H := hP
  replace hD : va_D A [(h0, .inr (5, [.ref h2, .ref h3, .ref h4, .ref h5, .int 0])), (h3, .inr (8, [.ref h8, .int wp4100180])), (h8, .inl (y 1, 200, .inr (.inl wf4100181))), (h5, .inr (8, [.ref h11, .int wp4100182])), (h11, .inl (y 1, 3, .inr (.inl (fun _ => 0)))), (h2, .inr (8, [.ref h6, .int 2])), (h6, .inl (y 1, 200, .inr (.inl (vp_updL (vp_updL wf4100179 ((0 : Int32).toNatClampNeg) 0) ((1 : Int32).toNatClampNeg) 0))))] := hD
  refine lv_iload_n hx hb dX5_append_17 rfl (lv_at hl 2 rfl) ?_
  refine lv_istore (lv' := [(4, .int p1), (3, .int 0), (0, .ref h0), (1, .int p1), (2, .int 2)]) hx hb dX5_append_18 hl (by decide) rfl ?_
  clear hl
  clear ls
  intro ls hl
  refine lv_iload_n hx hb dX5_append_20 rfl (lv_at hl 1 rfl) ?_
  refine lv_iload_n hx hb dX5_append_21 rfl (lv_at hl 4 rfl) ?_
  refine lv_iadd hx hb dX5_append_22 ?_
  refine g_fi (v := 2) (by decide +kernel) ?_
  refine lv_iconst (v := 1) hx hb dX5_append_23 (by decide) ?_
  refine lv_isub hx hb dX5_append_24 ?_
  refine g_fi (v := 1) (by decide +kernel) ?_
  refine lv_istore (lv' := [(5, .int 1), (4, .int p1), (3, .int 0), (0, .ref h0), (1, .int p1), (2, .int 2)]) hx hb dX5_append_25 hl (by decide) rfl ?_
  clear hl
  clear ls
  intro ls hl
  refine lv_iload hx hb dX5_append_27 (lv_at hl 0 rfl) ?_
  refine lv_iload_n hx hb dX5_append_29 rfl (lv_at hl 2 rfl) ?_
  refine lv_icmp_lt (tgt := 61) hx hb dX5_append_30 (by decide) (fun c9 => absurd c9 (by decide +kernel)) (fun _ => ?_)
  refine lv_aload_n hx hb dX5_append_33 rfl (lv_at hl 3 rfl) ?_
  refine gm_get (D := D) (ci := 5) (v := .ref h2) (C := RX5) (T := TX5) (N := 5) hx hb hg inlX5 hown hK.1 hP 0 rfl rfl 0 (by decide) tX5_0 (hg _ gw_138) rfl dX5_append_34 ?_
  refine lv_iload hx hb dX5_append_37 (lv_at hl 0 rfl) ?_
  refine lv_iload hx hb dX5_append_39 (lv_at hl 1 rfl) ?_
  refine lv_bipush (v := 10) hx hb dX5_append_41 (by decide +kernel) ?_
  refine lv_irem hx hb dX5_append_43 (by decide +kernel) ?_
  refine lv_i2l (v := ((p1 - p1 / 10 * 10).toInt64)) hx hb dX5_append_44 rfl ?_
  refine g_av (wr := [(h0, .inr (5, [.ref h2, .ref h3, .ref h4, .ref h5, .int 0])), (h3, .inr (8, [.ref h8, .int wp4100180])), (h8, .inl (y 1, 200, .inr (.inl wf4100181))), (h5, .inr (8, [.ref h11, .int wp4100182])), (h11, .inl (y 1, 3, .inr (.inl (fun _ => 0))))]) (va_runV (As := [.int 1, .long ((p1 - p1 / 10 * 10).toInt64)]) (rest := []) ⟨hx, hb, hml, hown, hg⟩ (k_X8_set_46 l D y aS H.size h2 ((p1 - p1 / 10 * 10).toInt64) h6 2 (vp_updL (vp_updL wf4100179 ((0 : Int32).toNatClampNeg) 0) ((1 : Int32).toNatClampNeg) 0)) (cwV 2 hg ggV_RX5_29_X8_set rfl rfl rfl (by decide +kernel) ⟨Nat.le_of_ble_eq_true rfl, Nat.le_of_ble_eq_true rfl⟩) (g_preV (q := (RX8, TX8, 2)) hK hP hD [5, 6] rfl (by decide) (ci := 8) (q0 := 5) rfl rfl) rfl rfl hl.1 rfl (lv_room (Nat.le_of_ble_eq_true rfl)) dX5_append_45 ⟨Nat.le_of_ble_eq_true rfl, Nat.le_of_ble_eq_true rfl⟩) hP hD hS hA [5, 6] [0, 1, 2, 3, 4] rfl rfl (by decide) (by decide) ?_
  clear hP hD hS H locs
  refine fun u H locs hq hP hD hS => ?_
  replace hP : va_P D vwCl [(h0, .inr (5, [.ref h2, .ref h3, .ref h4, .ref h5, .int 0])), (h3, .inr (8, [.ref h8, .int wp4100180])), (h8, .inl (y 1, 200, .inr (.inl wf4100181))), (h5, .inr (8, [.ref h11, .int wp4100182])), (h11, .inl (y 1, 3, .inr (.inl (fun _ => 0)))), (h2, .inr (8, [.ref h6, .int 2])), (h6, .inl (y 1, 200, .inr (.inl (vp_updL (vp_updL (vp_updL wf4100179 ((0 : Int32).toNatClampNeg) 0) ((1 : Int32).toNatClampNeg) 0) ((1 : Int32).toNatClampNeg) ((p1 - p1 / 10 * 10).toInt64)))))] H := hP
  replace hD : va_D A [(h0, .inr (5, [.ref h2, .ref h3, .ref h4, .ref h5, .int 0])), (h3, .inr (8, [.ref h8, .int wp4100180])), (h8, .inl (y 1, 200, .inr (.inl wf4100181))), (h5, .inr (8, [.ref h11, .int wp4100182])), (h11, .inl (y 1, 3, .inr (.inl (fun _ => 0)))), (h2, .inr (8, [.ref h6, .int 2])), (h6, .inl (y 1, 200, .inr (.inl (vp_updL (vp_updL (vp_updL wf4100179 ((0 : Int32).toNatClampNeg) 0) ((1 : Int32).toNatClampNeg) 0) ((1 : Int32).toNatClampNeg) ((p1 - p1 / 10 * 10).toInt64)))))] := hD
  refine lv_iload hx hb dX5_append_48 (lv_at hl 1 rfl) ?_
  refine lv_bipush (v := 10) hx hb dX5_append_50 (by decide +kernel) ?_
  refine lv_idiv hx hb dX5_append_52 (by decide +kernel) ?_
  refine lv_istore (lv' := [(4, .int (p1 / 10)), (5, .int 1), (3, .int 0), (0, .ref h0), (1, .int p1), (2, .int 2)]) hx hb dX5_append_53 hl (by decide) rfl ?_
  clear hl
  clear ls
  intro ls hl
  refine lv_iinc (v := 0) (lv' := [(5, .int 0), (4, .int (p1 / 10)), (3, .int 0), (0, .ref h0), (1, .int p1), (2, .int 2)]) hx hb dX5_append_55 hl (k := 1) rfl (by decide +kernel) (by decide) rfl ?_
  clear hl
  clear ls
  intro ls hl
  refine lv_goto (tgt := 27) hx hb dX5_append_58 (by decide) ?_
  refine lv_iload hx hb dX5_append_27 (lv_at hl 0 rfl) ?_
  refine lv_iload_n hx hb dX5_append_29 rfl (lv_at hl 2 rfl) ?_
  refine lv_icmp_lt (tgt := 61) hx hb dX5_append_30 (by decide) (fun c9 => absurd c9 (by decide +kernel)) (fun _ => ?_)
  refine lv_aload_n hx hb dX5_append_33 rfl (lv_at hl 3 rfl) ?_
  refine gm_get (D := D) (ci := 5) (v := .ref h2) (C := RX5) (T := TX5) (N := 5) hx hb hg inlX5 hown hK.1 hP 0 rfl rfl 0 (by decide) tX5_0 (hg _ gw_138) rfl dX5_append_34 ?_
  refine lv_iload hx hb dX5_append_37 (lv_at hl 0 rfl) ?_
  refine lv_iload hx hb dX5_append_39 (lv_at hl 1 rfl) ?_
  refine lv_bipush (v := 10) hx hb dX5_append_41 (by decide +kernel) ?_
  refine lv_irem hx hb dX5_append_43 (by decide +kernel) ?_
  refine lv_i2l (v := (((p1 / 10) - (p1 / 10) / 10 * 10).toInt64)) hx hb dX5_append_44 rfl ?_
  refine g_av (wr := [(h0, .inr (5, [.ref h2, .ref h3, .ref h4, .ref h5, .int 0])), (h3, .inr (8, [.ref h8, .int wp4100180])), (h8, .inl (y 1, 200, .inr (.inl wf4100181))), (h5, .inr (8, [.ref h11, .int wp4100182])), (h11, .inl (y 1, 3, .inr (.inl (fun _ => 0))))]) (va_runV (As := [.int 0, .long (((p1 / 10) - (p1 / 10) / 10 * 10).toInt64)]) (rest := []) ⟨hx, hb, hml, hown, hg⟩ (k_X8_set_45 l D y aS H.size h2 (((p1 / 10) - (p1 / 10) / 10 * 10).toInt64) h6 2 (vp_updL (vp_updL (vp_updL wf4100179 ((0 : Int32).toNatClampNeg) 0) ((1 : Int32).toNatClampNeg) 0) ((1 : Int32).toNatClampNeg) ((p1 - p1 / 10 * 10).toInt64))) (cwV 2 hg ggV_RX5_29_X8_set rfl rfl rfl (by decide +kernel) ⟨Nat.le_of_ble_eq_true rfl, Nat.le_of_ble_eq_true rfl⟩) (g_preV (q := (RX8, TX8, 2)) hK hP hD [5, 6] rfl (by decide) (ci := 8) (q0 := 5) rfl rfl) rfl rfl hl.1 rfl (lv_room (Nat.le_of_ble_eq_true rfl)) dX5_append_45 ⟨Nat.le_of_ble_eq_true rfl, Nat.le_of_ble_eq_true rfl⟩) hP hD hS hA [5, 6] [0, 1, 2, 3, 4] rfl rfl (by decide) (by decide) ?_
  clear hP hD hS H locs
  refine fun u H locs hq hP hD hS => ?_
  replace hP : va_P D vwCl [(h0, .inr (5, [.ref h2, .ref h3, .ref h4, .ref h5, .int 0])), (h3, .inr (8, [.ref h8, .int wp4100180])), (h8, .inl (y 1, 200, .inr (.inl wf4100181))), (h5, .inr (8, [.ref h11, .int wp4100182])), (h11, .inl (y 1, 3, .inr (.inl (fun _ => 0)))), (h2, .inr (8, [.ref h6, .int 2])), (h6, .inl (y 1, 200, .inr (.inl (vp_updL (vp_updL (vp_updL (vp_updL wf4100179 ((0 : Int32).toNatClampNeg) 0) ((1 : Int32).toNatClampNeg) 0) ((1 : Int32).toNatClampNeg) ((p1 - p1 / 10 * 10).toInt64)) ((0 : Int32).toNatClampNeg) (((p1 / 10) - (p1 / 10) / 10 * 10).toInt64)))))] H := hP
  replace hD : va_D A [(h0, .inr (5, [.ref h2, .ref h3, .ref h4, .ref h5, .int 0])), (h3, .inr (8, [.ref h8, .int wp4100180])), (h8, .inl (y 1, 200, .inr (.inl wf4100181))), (h5, .inr (8, [.ref h11, .int wp4100182])), (h11, .inl (y 1, 3, .inr (.inl (fun _ => 0)))), (h2, .inr (8, [.ref h6, .int 2])), (h6, .inl (y 1, 200, .inr (.inl (vp_updL (vp_updL (vp_updL (vp_updL wf4100179 ((0 : Int32).toNatClampNeg) 0) ((1 : Int32).toNatClampNeg) 0) ((1 : Int32).toNatClampNeg) ((p1 - p1 / 10 * 10).toInt64)) ((0 : Int32).toNatClampNeg) (((p1 / 10) - (p1 / 10) / 10 * 10).toInt64)))))] := hD
  refine lv_iload hx hb dX5_append_48 (lv_at hl 1 rfl) ?_
  refine lv_bipush (v := 10) hx hb dX5_append_50 (by decide +kernel) ?_
  refine lv_idiv hx hb dX5_append_52 (by decide +kernel) ?_
  refine lv_istore (lv' := [(4, .int ((p1 / 10) / 10)), (5, .int 0), (3, .int 0), (0, .ref h0), (1, .int p1), (2, .int 2)]) hx hb dX5_append_53 hl (by decide) rfl ?_
  clear hl
  clear ls
  intro ls hl
  refine lv_iinc (v := (-1)) (lv' := [(5, .int (-1)), (4, .int ((p1 / 10) / 10)), (3, .int 0), (0, .ref h0), (1, .int p1), (2, .int 2)]) hx hb dX5_append_55 hl (k := 1) rfl (by decide +kernel) (by decide) rfl ?_
  clear hl
  clear ls
  intro ls hl
  refine lv_goto (tgt := 27) hx hb dX5_append_58 (by decide) ?_
  refine lv_iload hx hb dX5_append_27 (lv_at hl 0 rfl) ?_
  refine lv_iload_n hx hb dX5_append_29 rfl (lv_at hl 2 rfl) ?_
  refine lv_icmp_lt (tgt := 61) hx hb dX5_append_30 (by decide) (fun _ => ?_) (fun c9 => absurd c9 (by decide +kernel))
  refine lv_aload_n hx hb dX5_append_61 rfl (lv_at hl 3 rfl) ?_
  refine g_av (wr := [(h6, .inl (y 1, 200, .inr (.inl (vp_updL (vp_updL (vp_updL (vp_updL wf4100179 ((0 : Int32).toNatClampNeg) 0) ((1 : Int32).toNatClampNeg) 0) ((1 : Int32).toNatClampNeg) ((p1 - p1 / 10 * 10).toInt64)) ((0 : Int32).toNatClampNeg) (((p1 / 10) - (p1 / 10) / 10 * 10).toInt64)))))]) (va_runV (As := []) (rest := []) ⟨hx, hb, hml, hown, hg⟩ (k_X5_findOut_2 l D y aS H.size h0 h2 h3 h4 h5 0 h6 h8 wp4100180 wf4100181 h11 wp4100182) (cwV 0 hg ggV_RX5_33_X5_findOut rfl rfl rfl (by decide +kernel) ⟨Nat.le_of_ble_eq_true rfl, Nat.le_of_ble_eq_true rfl⟩) (g_preV (q := (RX5, TX5, 5)) hK hP hD [0, 5, 1, 2, 3, 4] rfl (by decide) (ci := 5) (q0 := 0) rfl rfl) rfl rfl hl.1 rfl (lv_room (Nat.le_of_ble_eq_true rfl)) dX5_append_62 ⟨Nat.le_of_ble_eq_true rfl, Nat.le_of_ble_eq_true rfl⟩) hP hD hS hA [0, 5, 1, 2, 3, 4] [6] rfl rfl (by decide) (by decide) ?_
  clear hP hD hS H locs
  refine fun u H locs hq hP hD hS => ?_
  replace hP : va_P D vwCl [(h6, .inl (y 1, 200, .inr (.inl (vp_updL (vp_updL (vp_updL (vp_updL wf4100179 ((0 : Int32).toNatClampNeg) 0) ((1 : Int32).toNatClampNeg) 0) ((1 : Int32).toNatClampNeg) ((p1 - p1 / 10 * 10).toInt64)) ((0 : Int32).toNatClampNeg) (((p1 / 10) - (p1 / 10) / 10 * 10).toInt64))))), (h0, .inr (5, [.ref h2, .ref h3, .ref h4, .ref h5, .int 2])), (h2, .inr (8, [.ref h6, .int 2])), (h3, .inr (8, [.ref h8, .int wp4100180])), (h8, .inl (y 1, 200, .inr (.inl (vp_updL (vp_updL wf4100181 ((0 : Int32).toNatClampNeg) 0) ((1 : Int32).toNatClampNeg) 0)))), (h5, .inr (8, [.ref h11, .int wp4100182])), (h11, .inl (y 1, 3, .inr (.inl (fun _ => 0))))] H := hP
  replace hD : va_D A [(h6, .inl (y 1, 200, .inr (.inl (vp_updL (vp_updL (vp_updL (vp_updL wf4100179 ((0 : Int32).toNatClampNeg) 0) ((1 : Int32).toNatClampNeg) 0) ((1 : Int32).toNatClampNeg) ((p1 - p1 / 10 * 10).toInt64)) ((0 : Int32).toNatClampNeg) (((p1 / 10) - (p1 / 10) / 10 * 10).toInt64))))), (h0, .inr (5, [.ref h2, .ref h3, .ref h4, .ref h5, .int 2])), (h2, .inr (8, [.ref h6, .int 2])), (h3, .inr (8, [.ref h8, .int wp4100180])), (h8, .inl (y 1, 200, .inr (.inl (vp_updL (vp_updL wf4100181 ((0 : Int32).toNatClampNeg) 0) ((1 : Int32).toNatClampNeg) 0)))), (h5, .inr (8, [.ref h11, .int wp4100182])), (h11, .inl (y 1, 3, .inr (.inl (fun _ => 0))))] := hD
  refine lv_aload_n hx hb dX5_append_65 rfl (lv_at hl 3 rfl) ?_
  refine gm_get (D := D) (ci := 5) (v := .int 2) (C := RX5) (T := TX5) (N := 5) hx hb hg inlX5 hown hK.1 hP 1 rfl rfl 4 (by decide) tX5_4 (hg _ gw_1442) rfl dX5_append_66 ?_
  exact g_iret hx hb hr hlocks () (hP.sub [1, 2, 0, 3, 4, 5, 6] rfl) (hD.sub [1, 2, 0, 3, 4, 5, 6] (by decide +kernel) rfl) hS rfl rfl (Nat.le_of_ble_eq_true rfl) (Nat.le_of_ble_eq_true rfl) dX5_append_69
set_option maxRecDepth 100000 in
set_option maxHeartbeats 4000000 in
theorem k_X8_add_30 (l : Launch) (D : va_G) (y : Nat → ClassId) (aS : Nat → Nat) (sz : Nat) (h0 : Nat) (h1 : Nat) (wf4100194 : Nat → Int64) : Met l yX8_add (Cond.code yX8_add cX8_add 3 none :: wsL_law) ({ frames := 0, cells := 0, slots := 0, locals := 0 } : Room) (va_Pc [.ref h0, .long 0] (gI D y aS [(h0, .inr (8, [.ref h1, .int 2])), (h1, .inl (y 1, 200, .inr (.inl wf4100194)))] sz)) (va_Qv (fun (u : Unit) => True) (fun u => gO D (va_A [(h0, .inr (8, [.ref h1, .int 2])), (h1, .inl (y 1, 200, .inr (.inl wf4100194)))] sz) [(h0, .inr (8, [.ref h1, .int 3])), (h1, .inl (y 1, 200, .inr (.inl (vp_updL wf4100194 ((2 : Int32).toNatClampNeg) 0))))]) (va_A [(h0, .inr (8, [.ref h1, .int 2])), (h1, .inl (y 1, 200, .inr (.inl wf4100194)))] sz)) 0 0 (va_A [(h0, .inr (8, [.ref h1, .int 2])), (h1, .inl (y 1, 200, .inr (.inl wf4100194)))] sz) := by
  refine g_of (by decide) (Nat.le_of_ble_eq_true rfl) ?_
  intro p e s m below meth c ls A hx hb hr hml hown hg hlocks hin hsz hK hP hD hS hA hAe hl
  rw [← hAe]
  replace hown : s.vm.findClass RX8 = some m.cls := hown
  replace hl : lv_has ls 3 [(0, .ref h0), (1, .long 0)] := hl
  refine lv_aload_n hx hb dX8_add_0 rfl (lv_at hl 0 rfl) ?_
  refine gm_get (D := D) (ci := 8) (v := .int 2) (C := RX8) (T := TX8) (N := 2) hx hb hg inlX8 hown hK.1 hP 0 rfl rfl 1 (by decide) tX8_1 (hg _ gw_155) rfl dX8_add_1 ?_
  refine lv_if_lt (tgt := 39) hx hb dX8_add_4 (by decide) (fun c9 => absurd c9 (by decide +kernel)) (fun _ => ?_)
  refine lv_aload_n hx hb dX8_add_7 rfl (lv_at hl 0 rfl) ?_
  refine gm_get (D := D) (ci := 8) (v := .int 2) (C := RX8) (T := TX8) (N := 2) hx hb hg inlX8 hown hK.1 hP 0 rfl rfl 1 (by decide) tX8_1 (hg _ gw_155) rfl dX8_add_8 ?_
  refine lv_aload_n hx hb dX8_add_11 rfl (lv_at hl 0 rfl) ?_
  refine gm_get (D := D) (ci := 8) (v := .ref h1) (C := RX8) (T := TX8) (N := 2) hx hb hg inlX8 hown hK.1 hP 0 rfl rfl 0 (by decide) tX8_0 (hg _ gw_98) rfl dX8_add_12 ?_
  refine va_alen hx hb hK.1 hP 1 1 rfl rfl (v := 200) rfl dX8_add_15 ?_
  refine lv_icmp_ge (tgt := 39) hx hb dX8_add_16 (by decide) (fun c9 => absurd c9 (by decide +kernel)) (fun _ => ?_)
  refine lv_aload_n hx hb dX8_add_19 rfl (lv_at hl 0 rfl) ?_
  refine gm_get (D := D) (ci := 8) (v := .ref h1) (C := RX8) (T := TX8) (N := 2) hx hb hg inlX8 hown hK.1 hP 0 rfl rfl 0 (by decide) tX8_0 (hg _ gw_98) rfl dX8_add_20 ?_
  refine lv_aload_n hx hb dX8_add_23 rfl (lv_at hl 0 rfl) ?_
  refine gm_get (D := D) (ci := 8) (v := .int 2) (C := RX8) (T := TX8) (N := 2) hx hb hg inlX8 hown hK.1 hP 0 rfl rfl 1 (by decide) tX8_1 (hg _ gw_155) rfl dX8_add_24 ?_
  refine lv_lload_n hx hb dX8_add_27 rfl (lv_at hl 1 rfl) ?_
  refine va_last hx hb hK.1 hP hD hS 1 1 rfl rfl (by unfold vp_in; decide +kernel) dX8_add_28 ?_
  clear hP hD hS
  refine fun H locs (hP : va_P D vwCl [(h0, .inr (8, [.ref h1, .int 2])), (h1, .inl (y 1, 200, .inr (.inl (vp_updL wf4100194 ((2 : Int32).toNatClampNeg) 0))))] H) (hD : va_D A [(h0, .inr (8, [.ref h1, .int 2])), (h1, .inl (y 1, 200, .inr (.inl (vp_updL wf4100194 ((2 : Int32).toNatClampNeg) 0))))]) hS => ?_
  refine lv_aload_n hx hb dX8_add_29 rfl (lv_at hl 0 rfl) ?_
  refine lv_dup hx hb dX8_add_30 rfl ?_
  refine gm_get (D := D) (ci := 8) (v := .int 2) (C := RX8) (T := TX8) (N := 2) hx hb hg inlX8 hown hK.1 hP 0 rfl rfl 1 (by decide) tX8_1 (hg _ gw_155) rfl dX8_add_31 ?_
  refine lv_iconst (v := 1) hx hb dX8_add_34 (by decide) ?_
  refine lv_iadd hx hb dX8_add_35 ?_
  refine g_fi (v := 3) (by decide +kernel) ?_
  refine gm_put (D := D) (ci := 8) (v := .int 3) (ty := .int) (C := RX8) (T := TX8) (N := 2) hx hb hg inlX8 tyX8 tyX8_ok nmX8 hown hK.1 hP hD hS 0 rfl rfl 1 (by decide) tX8_1 (hg _ gw_155) (by decide +kernel) rfl rfl (Nat.le_of_ble_eq_true rfl) dX8_add_36 ?_
  clear hP hD hS H locs
  refine fun H locs (hP : va_P D vwCl [(h0, .inr (8, [.ref h1, .int 3])), (h1, .inl (y 1, 200, .inr (.inl (vp_updL wf4100194 ((2 : Int32).toNatClampNeg) 0))))] H) (hD : va_D A [(h0, .inr (8, [.ref h1, .int 3])), (h1, .inl (y 1, 200, .inr (.inl (vp_updL wf4100194 ((2 : Int32).toNatClampNeg) 0))))]) hS => ?_
  exact g_vret hx hb hr hlocks () hP hD hS trivial (Nat.le_of_ble_eq_true rfl) (Nat.le_of_ble_eq_true rfl) dX8_add_39
set_option maxRecDepth 100000 in
set_option maxHeartbeats 4000000 in
theorem k_X8_addMany_6 (l : Launch) (D : va_G) (y : Nat → ClassId) (aS : Nat → Nat) (sz : Nat) (h0 : Nat) (h1 : Nat) (wf4100196 : Nat → Int64) : Met l yX8_addMany (Cond.code yX8_addMany cX8_addMany 5 none :: wsL_law) ({ frames := 1, cells := 0, slots := 0, locals := 22 } : Room) (va_Pc [.ref h0, .int 3, .long 0] (gI D y aS [(h0, .inr (8, [.ref h1, .int 0])), (h1, .inl (y 1, 200, .inr (.inl wf4100196)))] sz)) (va_Qv (fun (u : Unit) => True) (fun u => gO D (va_A [(h0, .inr (8, [.ref h1, .int 0])), (h1, .inl (y 1, 200, .inr (.inl wf4100196)))] sz) [(h0, .inr (8, [.ref h1, .int 3])), (h1, .inl (y 1, 200, .inr (.inl (vp_updL (vp_updL (vp_updL wf4100196 ((0 : Int32).toNatClampNeg) 0) ((1 : Int32).toNatClampNeg) 0) ((2 : Int32).toNatClampNeg) 0))))]) (va_A [(h0, .inr (8, [.ref h1, .int 0])), (h1, .inl (y 1, 200, .inr (.inl wf4100196)))] sz)) 0 0 (va_A [(h0, .inr (8, [.ref h1, .int 0])), (h1, .inl (y 1, 200, .inr (.inl wf4100196)))] sz) := by
  refine g_of (by decide) (Nat.le_of_ble_eq_true rfl) ?_
  intro p e s m below meth c ls A hx hb hr hml hown hg hlocks hin hsz hK hP hD hS hA hAe hl
  rw [← hAe]
  replace hown : s.vm.findClass RX8 = some m.cls := hown
  replace hl : lv_has ls 5 [(0, .ref h0), (1, .int 3), (2, .long 0)] := hl
  refine lv_iconst (v := 0) hx hb dX8_addMany_0 (by decide) ?_
  refine lv_istore (lv' := [(4, .int 0), (0, .ref h0), (1, .int 3), (2, .long 0)]) hx hb dX8_addMany_1 hl (by decide) rfl ?_
  clear hl
  clear ls
  intro ls hl
  refine lv_iload hx hb dX8_addMany_3 (lv_at hl 0 rfl) ?_
  refine lv_iload_n hx hb dX8_addMany_5 rfl (lv_at hl 2 rfl) ?_
  refine lv_icmp_ge (tgt := 30) hx hb dX8_addMany_6 (by decide) (fun c9 => absurd c9 (by decide +kernel)) (fun _ => ?_)
  refine lv_iload hx hb dX8_addMany_9 (lv_at hl 0 rfl) ?_
  refine lv_aload_n hx hb dX8_addMany_11 rfl (lv_at hl 1 rfl) ?_
  refine gm_get (D := D) (ci := 8) (v := .ref h1) (C := RX8) (T := TX8) (N := 2) hx hb hg inlX8 hown hK.1 hP 0 rfl rfl 0 (by decide) tX8_0 (hg _ gw_98) rfl dX8_addMany_12 ?_
  refine va_alen hx hb hK.1 hP 1 1 rfl rfl (v := 200) rfl dX8_addMany_15 ?_
  refine lv_icmp_ge (tgt := 30) hx hb dX8_addMany_16 (by decide) (fun c9 => absurd c9 (by decide +kernel)) (fun _ => ?_)
  refine lv_aload_n hx hb dX8_addMany_19 rfl (lv_at hl 1 rfl) ?_
  refine lv_lload_n hx hb dX8_addMany_20 rfl (lv_at hl 3 rfl) ?_
  refine g_av (wr := []) (va_runV (As := [.long 0]) (rest := []) ⟨hx, hb, hml, hown, hg⟩ (k_X8_add_28 l D y aS s.heap.size h0 h1 wf4100196) (cwV 1 hg ghV_RX8_19_X8_add rfl rfl rfl (by decide +kernel) ⟨Nat.le_of_ble_eq_true rfl, Nat.le_of_ble_eq_true rfl⟩) (g_preV (q := (RX8, TX8, 2)) hK hP hD [0, 1] rfl (by decide) (ci := 8) (q0 := 0) rfl rfl) rfl rfl hl.1 rfl (lv_room (Nat.le_of_ble_eq_true rfl)) dX8_addMany_21 ⟨Nat.le_of_ble_eq_true rfl, Nat.le_of_ble_eq_true rfl⟩) hP hD hS hA [0, 1] [] rfl rfl (by decide) (by decide) ?_
  clear hP hD hS
  refine fun u H locs hq hP hD hS => ?_
  replace hP : va_P D vwCl [(h0, .inr (8, [.ref h1, .int 1])), (h1, .inl (y 1, 200, .inr (.inl (vp_updL wf4100196 ((0 : Int32).toNatClampNeg) 0))))] H := hP
  replace hD : va_D A [(h0, .inr (8, [.ref h1, .int 1])), (h1, .inl (y 1, 200, .inr (.inl (vp_updL wf4100196 ((0 : Int32).toNatClampNeg) 0))))] := hD
  refine lv_iinc (v := 1) (lv' := [(4, .int 1), (0, .ref h0), (1, .int 3), (2, .long 0)]) hx hb dX8_addMany_24 hl (k := 0) rfl (by decide +kernel) (by decide) rfl ?_
  clear hl
  clear ls
  intro ls hl
  refine lv_goto (tgt := 3) hx hb dX8_addMany_27 (by decide) ?_
  refine lv_iload hx hb dX8_addMany_3 (lv_at hl 0 rfl) ?_
  refine lv_iload_n hx hb dX8_addMany_5 rfl (lv_at hl 2 rfl) ?_
  refine lv_icmp_ge (tgt := 30) hx hb dX8_addMany_6 (by decide) (fun c9 => absurd c9 (by decide +kernel)) (fun _ => ?_)
  refine lv_iload hx hb dX8_addMany_9 (lv_at hl 0 rfl) ?_
  refine lv_aload_n hx hb dX8_addMany_11 rfl (lv_at hl 1 rfl) ?_
  refine gm_get (D := D) (ci := 8) (v := .ref h1) (C := RX8) (T := TX8) (N := 2) hx hb hg inlX8 hown hK.1 hP 0 rfl rfl 0 (by decide) tX8_0 (hg _ gw_98) rfl dX8_addMany_12 ?_
  refine va_alen hx hb hK.1 hP 1 1 rfl rfl (v := 200) rfl dX8_addMany_15 ?_
  refine lv_icmp_ge (tgt := 30) hx hb dX8_addMany_16 (by decide) (fun c9 => absurd c9 (by decide +kernel)) (fun _ => ?_)
  refine lv_aload_n hx hb dX8_addMany_19 rfl (lv_at hl 1 rfl) ?_
  refine lv_lload_n hx hb dX8_addMany_20 rfl (lv_at hl 3 rfl) ?_
  refine g_av (wr := []) (va_runV (As := [.long 0]) (rest := []) ⟨hx, hb, hml, hown, hg⟩ (k_X8_add_29 l D y aS H.size h0 h1 (vp_updL wf4100196 ((0 : Int32).toNatClampNeg) 0)) (cwV 1 hg ghV_RX8_19_X8_add rfl rfl rfl (by decide +kernel) ⟨Nat.le_of_ble_eq_true rfl, Nat.le_of_ble_eq_true rfl⟩) (g_preV (q := (RX8, TX8, 2)) hK hP hD [0, 1] rfl (by decide) (ci := 8) (q0 := 0) rfl rfl) rfl rfl hl.1 rfl (lv_room (Nat.le_of_ble_eq_true rfl)) dX8_addMany_21 ⟨Nat.le_of_ble_eq_true rfl, Nat.le_of_ble_eq_true rfl⟩) hP hD hS hA [0, 1] [] rfl rfl (by decide) (by decide) ?_
  clear hP hD hS H locs
  refine fun u H locs hq hP hD hS => ?_
  replace hP : va_P D vwCl [(h0, .inr (8, [.ref h1, .int 2])), (h1, .inl (y 1, 200, .inr (.inl (vp_updL (vp_updL wf4100196 ((0 : Int32).toNatClampNeg) 0) ((1 : Int32).toNatClampNeg) 0))))] H := hP
  replace hD : va_D A [(h0, .inr (8, [.ref h1, .int 2])), (h1, .inl (y 1, 200, .inr (.inl (vp_updL (vp_updL wf4100196 ((0 : Int32).toNatClampNeg) 0) ((1 : Int32).toNatClampNeg) 0))))] := hD
  refine lv_iinc (v := 2) (lv' := [(4, .int 2), (0, .ref h0), (1, .int 3), (2, .long 0)]) hx hb dX8_addMany_24 hl (k := 0) rfl (by decide +kernel) (by decide) rfl ?_
  clear hl
  clear ls
  intro ls hl
  refine lv_goto (tgt := 3) hx hb dX8_addMany_27 (by decide) ?_
  refine lv_iload hx hb dX8_addMany_3 (lv_at hl 0 rfl) ?_
  refine lv_iload_n hx hb dX8_addMany_5 rfl (lv_at hl 2 rfl) ?_
  refine lv_icmp_ge (tgt := 30) hx hb dX8_addMany_6 (by decide) (fun c9 => absurd c9 (by decide +kernel)) (fun _ => ?_)
  refine lv_iload hx hb dX8_addMany_9 (lv_at hl 0 rfl) ?_
  refine lv_aload_n hx hb dX8_addMany_11 rfl (lv_at hl 1 rfl) ?_
  refine gm_get (D := D) (ci := 8) (v := .ref h1) (C := RX8) (T := TX8) (N := 2) hx hb hg inlX8 hown hK.1 hP 0 rfl rfl 0 (by decide) tX8_0 (hg _ gw_98) rfl dX8_addMany_12 ?_
  refine va_alen hx hb hK.1 hP 1 1 rfl rfl (v := 200) rfl dX8_addMany_15 ?_
  refine lv_icmp_ge (tgt := 30) hx hb dX8_addMany_16 (by decide) (fun c9 => absurd c9 (by decide +kernel)) (fun _ => ?_)
  refine lv_aload_n hx hb dX8_addMany_19 rfl (lv_at hl 1 rfl) ?_
  refine lv_lload_n hx hb dX8_addMany_20 rfl (lv_at hl 3 rfl) ?_
  refine g_av (wr := []) (va_runV (As := [.long 0]) (rest := []) ⟨hx, hb, hml, hown, hg⟩ (k_X8_add_30 l D y aS H.size h0 h1 (vp_updL (vp_updL wf4100196 ((0 : Int32).toNatClampNeg) 0) ((1 : Int32).toNatClampNeg) 0)) (cwV 1 hg ghV_RX8_19_X8_add rfl rfl rfl (by decide +kernel) ⟨Nat.le_of_ble_eq_true rfl, Nat.le_of_ble_eq_true rfl⟩) (g_preV (q := (RX8, TX8, 2)) hK hP hD [0, 1] rfl (by decide) (ci := 8) (q0 := 0) rfl rfl) rfl rfl hl.1 rfl (lv_room (Nat.le_of_ble_eq_true rfl)) dX8_addMany_21 ⟨Nat.le_of_ble_eq_true rfl, Nat.le_of_ble_eq_true rfl⟩) hP hD hS hA [0, 1] [] rfl rfl (by decide) (by decide) ?_
  clear hP hD hS H locs
  refine fun u H locs hq hP hD hS => ?_
  replace hP : va_P D vwCl [(h0, .inr (8, [.ref h1, .int 3])), (h1, .inl (y 1, 200, .inr (.inl (vp_updL (vp_updL (vp_updL wf4100196 ((0 : Int32).toNatClampNeg) 0) ((1 : Int32).toNatClampNeg) 0) ((2 : Int32).toNatClampNeg) 0))))] H := hP
  replace hD : va_D A [(h0, .inr (8, [.ref h1, .int 3])), (h1, .inl (y 1, 200, .inr (.inl (vp_updL (vp_updL (vp_updL wf4100196 ((0 : Int32).toNatClampNeg) 0) ((1 : Int32).toNatClampNeg) 0) ((2 : Int32).toNatClampNeg) 0))))] := hD
  refine lv_iinc (v := 3) (lv' := [(4, .int 3), (0, .ref h0), (1, .int 3), (2, .long 0)]) hx hb dX8_addMany_24 hl (k := 0) rfl (by decide +kernel) (by decide) rfl ?_
  clear hl
  clear ls
  intro ls hl
  refine lv_goto (tgt := 3) hx hb dX8_addMany_27 (by decide) ?_
  refine lv_iload hx hb dX8_addMany_3 (lv_at hl 0 rfl) ?_
  refine lv_iload_n hx hb dX8_addMany_5 rfl (lv_at hl 2 rfl) ?_
  refine lv_icmp_ge (tgt := 30) hx hb dX8_addMany_6 (by decide) (fun _ => ?_) (fun c9 => absurd c9 (by decide +kernel))
  exact g_vret hx hb hr hlocks () hP hD hS trivial (Nat.le_of_ble_eq_true rfl) (Nat.le_of_ble_eq_true rfl) dX8_addMany_30
set_option maxRecDepth 100000 in
set_option maxHeartbeats 4000000 in
theorem k_X8_set_47 (l : Launch) (D : va_G) (y : Nat → ClassId) (aS : Nat → Nat) (sz : Nat) (h0 : Nat) (p1 : Int64) (h2 : Nat) (wp4100202 : Int32) (wf4100203 : Nat → Int64) : Met l yX8_set (Cond.code yX8_set cX8_set 4 none :: wsL_law) ({ frames := 0, cells := 0, slots := 0, locals := 0 } : Room) (va_Pc [.ref h0, .int 2, .long p1] (gI D y aS [(h0, .inr (8, [.ref h2, .int wp4100202])), (h2, .inl (y 1, 200, .inr (.inl wf4100203)))] sz)) (va_Qv (fun (u : Unit) => True) (fun u => gO D (va_A [(h0, .inr (8, [.ref h2, .int wp4100202])), (h2, .inl (y 1, 200, .inr (.inl wf4100203)))] sz) [(h0, .inr (8, [.ref h2, .int wp4100202])), (h2, .inl (y 1, 200, .inr (.inl (vp_updL wf4100203 ((2 : Int32).toNatClampNeg) p1))))]) (va_A [(h0, .inr (8, [.ref h2, .int wp4100202])), (h2, .inl (y 1, 200, .inr (.inl wf4100203)))] sz)) 0 0 (va_A [(h0, .inr (8, [.ref h2, .int wp4100202])), (h2, .inl (y 1, 200, .inr (.inl wf4100203)))] sz) := by
  refine g_of (by decide) (Nat.le_of_ble_eq_true rfl) ?_
  intro p e s m below meth c ls A hx hb hr hml hown hg hlocks hin hsz hK hP hD hS hA hAe hl
  rw [← hAe]
  replace hown : s.vm.findClass RX8 = some m.cls := hown
  replace hl : lv_has ls 4 [(0, .ref h0), (1, .int 2), (2, .long p1)] := hl
  refine lv_iload_n hx hb dX8_set_0 rfl (lv_at hl 1 rfl) ?_
  refine lv_if_lt (tgt := 20) hx hb dX8_set_1 (by decide) (fun c9 => absurd c9 (by decide +kernel)) (fun _ => ?_)
  refine lv_iload_n hx hb dX8_set_4 rfl (lv_at hl 1 rfl) ?_
  refine lv_aload_n hx hb dX8_set_5 rfl (lv_at hl 0 rfl) ?_
  refine gm_get (D := D) (ci := 8) (v := .ref h2) (C := RX8) (T := TX8) (N := 2) hx hb hg inlX8 hown hK.1 hP 0 rfl rfl 0 (by decide) tX8_0 (hg _ gw_98) rfl dX8_set_6 ?_
  refine va_alen hx hb hK.1 hP 1 1 rfl rfl (v := 200) rfl dX8_set_9 ?_
  refine lv_icmp_ge (tgt := 20) hx hb dX8_set_10 (by decide) (fun c9 => absurd c9 (by decide +kernel)) (fun _ => ?_)
  refine lv_aload_n hx hb dX8_set_13 rfl (lv_at hl 0 rfl) ?_
  refine gm_get (D := D) (ci := 8) (v := .ref h2) (C := RX8) (T := TX8) (N := 2) hx hb hg inlX8 hown hK.1 hP 0 rfl rfl 0 (by decide) tX8_0 (hg _ gw_98) rfl dX8_set_14 ?_
  refine lv_iload_n hx hb dX8_set_17 rfl (lv_at hl 1 rfl) ?_
  refine lv_lload_n hx hb dX8_set_18 rfl (lv_at hl 2 rfl) ?_
  refine va_last hx hb hK.1 hP hD hS 1 1 rfl rfl (by unfold vp_in; decide +kernel) dX8_set_19 ?_
  clear hP hD hS
  refine fun H locs (hP : va_P D vwCl [(h0, .inr (8, [.ref h2, .int wp4100202])), (h2, .inl (y 1, 200, .inr (.inl (vp_updL wf4100203 ((2 : Int32).toNatClampNeg) p1))))] H) (hD : va_D A [(h0, .inr (8, [.ref h2, .int wp4100202])), (h2, .inl (y 1, 200, .inr (.inl (vp_updL wf4100203 ((2 : Int32).toNatClampNeg) p1))))]) hS => ?_
  exact g_vret hx hb hr hlocks () hP hD hS trivial (Nat.le_of_ble_eq_true rfl) (Nat.le_of_ble_eq_true rfl) dX8_set_20
set_option maxRecDepth 100000 in
set_option maxHeartbeats 4000000 in
theorem k_X5_find_6 (l : Launch) (D : va_G) (y : Nat → ClassId) (aS : Nat → Nat) (sz : Nat) (h0 : Nat) (h1 : Nat) (h2 : Nat) (h3 : Nat) (h4 : Nat) (wp4100217 : Int32) (h6 : Nat) (wp4100218 : Int32) : Met l yX5_find (Cond.code yX5_find cX5_find 6 none :: wsL_law) ({ frames := 1, cells := 0, slots := 0, locals := 21 } : Room) (va_Pc [.ref h0, .int 0, .int 2] (gI D y aS [(h0, .inr (5, [.ref h1, .ref h2, .ref h3, .ref h4, .int wp4100217])), (h4, .inr (8, [.ref h6, .int wp4100218])), (h6, .inl (y 1, 3, .inr (.inl (fun _ => 0))))] sz)) (va_Qv (fun (u : Unit) => True) (fun u => gO D (va_A [(h0, .inr (5, [.ref h1, .ref h2, .ref h3, .ref h4, .int wp4100217])), (h4, .inr (8, [.ref h6, .int wp4100218])), (h6, .inl (y 1, 3, .inr (.inl (fun _ => 0))))] sz) [(h0, .inr (5, [.ref h1, .ref h2, .ref h3, .ref h4, .int wp4100217])), (h4, .inr (8, [.ref h6, .int wp4100218])), (h6, .inl (y 1, 3, .inr (.inl (fun _ => 0))))]) (va_A [(h0, .inr (5, [.ref h1, .ref h2, .ref h3, .ref h4, .int wp4100217])), (h4, .inr (8, [.ref h6, .int wp4100218])), (h6, .inl (y 1, 3, .inr (.inl (fun _ => 0))))] sz)) 0 0 (va_A [(h0, .inr (5, [.ref h1, .ref h2, .ref h3, .ref h4, .int wp4100217])), (h4, .inr (8, [.ref h6, .int wp4100218])), (h6, .inl (y 1, 3, .inr (.inl (fun _ => 0))))] sz) := by
  refine g_of (by decide) (Nat.le_of_ble_eq_true rfl) ?_
  intro p e s m below meth c ls A hx hb hr hml hown hg hlocks hin hsz hK hP hD hS hA hAe hl
  rw [← hAe]
  replace hown : s.vm.findClass RX5 = some m.cls := hown
  replace hl : lv_has ls 6 [(0, .ref h0), (1, .int 0), (2, .int 2)] := hl
  refine lv_aload_n hx hb dX5_find_0 rfl (lv_at hl 0 rfl) ?_
  refine gm_get (D := D) (ci := 5) (v := .ref h4) (C := RX5) (T := TX5) (N := 5) hx hb hg inlX5 hown hK.1 hP 0 rfl rfl 3 (by decide) tX5_3 (hg _ gw_141) rfl dX5_find_1 ?_
  refine lv_iload_n hx hb dX5_find_4 rfl (lv_at hl 1 rfl) ?_
  refine g_ai (wr := [(h0, .inr (5, [.ref h1, .ref h2, .ref h3, .ref h4, .int wp4100217]))]) (va_runV (As := [.int 0]) (rest := []) ⟨hx, hb, hml, hown, hg⟩ (k_X8_whole_27 l D y aS s.heap.size h4 h6 wp4100218) (cwV 1 hg ggV_RX5_50_X8_whole rfl rfl rfl (by decide +kernel) ⟨Nat.le_of_ble_eq_true rfl, Nat.le_of_ble_eq_true rfl⟩) (g_preV (q := (RX8, TX8, 2)) hK hP hD [1, 2] rfl (by decide) (ci := 8) (q0 := 1) rfl rfl) rfl rfl hl.1 rfl (lv_room (Nat.le_of_ble_eq_true rfl)) dX5_find_5 ⟨Nat.le_of_ble_eq_true rfl, Nat.le_of_ble_eq_true rfl⟩) hP hD hS hA [1, 2] [0] rfl rfl (by decide) (by decide) ?_
  clear hP hD hS
  refine fun r4100219 u H locs hq hP hD hS => ?_
  subst hq
  replace hP : va_P D vwCl [(h0, .inr (5, [.ref h1, .ref h2, .ref h3, .ref h4, .int wp4100217])), (h4, .inr (8, [.ref h6, .int wp4100218])), (h6, .inl (y 1, 3, .inr (.inl (fun _ => 0))))] H := hP
  replace hD : va_D A [(h0, .inr (5, [.ref h1, .ref h2, .ref h3, .ref h4, .int wp4100217])), (h4, .inr (8, [.ref h6, .int wp4100218])), (h6, .inl (y 1, 3, .inr (.inl (fun _ => 0))))] := hD
  refine lv_istore_n (lv' := [(3, .int 0), (0, .ref h0), (1, .int 0), (2, .int 2)]) hx hb dX5_find_8 rfl hl (by decide) rfl ?_
  clear hl
  clear ls
  intro ls hl
  refine lv_iconst (v := 0) hx hb dX5_find_9 (by decide) ?_
  refine lv_istore (lv' := [(4, .int 0), (3, .int 0), (0, .ref h0), (1, .int 0), (2, .int 2)]) hx hb dX5_find_10 hl (by decide) rfl ?_
  clear hl
  clear ls
  intro ls hl
  refine lv_iload hx hb dX5_find_12 (lv_at hl 0 rfl) ?_
  refine lv_iload_n hx hb dX5_find_14 rfl (lv_at hl 1 rfl) ?_
  refine lv_icmp_ge (tgt := 67) hx hb dX5_find_15 (by decide) (fun _ => ?_) (fun c9 => absurd c9 (by decide +kernel))
  refine lv_iload_n hx hb dX5_find_67 rfl (lv_at hl 1 rfl) ?_
  refine lv_if_le (tgt := 107) hx hb dX5_find_68 (by decide) (fun _ => ?_) (fun c9 => absurd c9 (by decide +kernel))
  refine lv_iload hx hb dX5_find_107 (lv_at hl 0 rfl) ?_
  refine lv_if_le (tgt := 139) hx hb dX5_find_109 (by decide) (fun _ => ?_) (fun c9 => absurd c9 (by decide +kernel))
  exact g_vret hx hb hr hlocks () hP hD hS trivial (Nat.le_of_ble_eq_true rfl) (Nat.le_of_ble_eq_true rfl) dX5_find_139
set_option maxRecDepth 100000 in
set_option maxHeartbeats 4000000 in
theorem k_X5_find_7 (l : Launch) (D : va_G) (y : Nat → ClassId) (aS : Nat → Nat) (sz : Nat) (h0 : Nat) (h1 : Nat) (h2 : Nat) (h3 : Nat) (h4 : Nat) (wp4100222 : Int32) (h6 : Nat) (wp4100223 : Int32) : Met l yX5_find (Cond.code yX5_find cX5_find 6 none :: wsL_law) ({ frames := 1, cells := 0, slots := 0, locals := 21 } : Room) (va_Pc [.ref h0, .int 1, .int 2] (gI D y aS [(h0, .inr (5, [.ref h1, .ref h2, .ref h3, .ref h4, .int wp4100222])), (h4, .inr (8, [.ref h6, .int wp4100223])), (h6, .inl (y 1, 3, .inr (.inl (fun _ => 0))))] sz)) (va_Qv (fun (u : Unit) => True) (fun u => gO D (va_A [(h0, .inr (5, [.ref h1, .ref h2, .ref h3, .ref h4, .int wp4100222])), (h4, .inr (8, [.ref h6, .int wp4100223])), (h6, .inl (y 1, 3, .inr (.inl (fun _ => 0))))] sz) [(h0, .inr (5, [.ref h1, .ref h2, .ref h3, .ref h4, .int wp4100222])), (h4, .inr (8, [.ref h6, .int wp4100223])), (h6, .inl (y 1, 3, .inr (.inl (fun _ => 0))))]) (va_A [(h0, .inr (5, [.ref h1, .ref h2, .ref h3, .ref h4, .int wp4100222])), (h4, .inr (8, [.ref h6, .int wp4100223])), (h6, .inl (y 1, 3, .inr (.inl (fun _ => 0))))] sz)) 0 0 (va_A [(h0, .inr (5, [.ref h1, .ref h2, .ref h3, .ref h4, .int wp4100222])), (h4, .inr (8, [.ref h6, .int wp4100223])), (h6, .inl (y 1, 3, .inr (.inl (fun _ => 0))))] sz) := by
  refine g_of (by decide) (Nat.le_of_ble_eq_true rfl) ?_
  intro p e s m below meth c ls A hx hb hr hml hown hg hlocks hin hsz hK hP hD hS hA hAe hl
  rw [← hAe]
  replace hown : s.vm.findClass RX5 = some m.cls := hown
  replace hl : lv_has ls 6 [(0, .ref h0), (1, .int 1), (2, .int 2)] := hl
  refine lv_aload_n hx hb dX5_find_0 rfl (lv_at hl 0 rfl) ?_
  refine gm_get (D := D) (ci := 5) (v := .ref h4) (C := RX5) (T := TX5) (N := 5) hx hb hg inlX5 hown hK.1 hP 0 rfl rfl 3 (by decide) tX5_3 (hg _ gw_141) rfl dX5_find_1 ?_
  refine lv_iload_n hx hb dX5_find_4 rfl (lv_at hl 1 rfl) ?_
  refine g_ai (wr := [(h0, .inr (5, [.ref h1, .ref h2, .ref h3, .ref h4, .int wp4100222]))]) (va_runV (As := [.int 1]) (rest := []) ⟨hx, hb, hml, hown, hg⟩ (k_X8_whole_28 l D y aS s.heap.size h4 h6 wp4100223) (cwV 1 hg ggV_RX5_50_X8_whole rfl rfl rfl (by decide +kernel) ⟨Nat.le_of_ble_eq_true rfl, Nat.le_of_ble_eq_true rfl⟩) (g_preV (q := (RX8, TX8, 2)) hK hP hD [1, 2] rfl (by decide) (ci := 8) (q0 := 1) rfl rfl) rfl rfl hl.1 rfl (lv_room (Nat.le_of_ble_eq_true rfl)) dX5_find_5 ⟨Nat.le_of_ble_eq_true rfl, Nat.le_of_ble_eq_true rfl⟩) hP hD hS hA [1, 2] [0] rfl rfl (by decide) (by decide) ?_
  clear hP hD hS
  refine fun r4100224 u H locs hq hP hD hS => ?_
  subst hq
  replace hP : va_P D vwCl [(h0, .inr (5, [.ref h1, .ref h2, .ref h3, .ref h4, .int wp4100222])), (h4, .inr (8, [.ref h6, .int wp4100223])), (h6, .inl (y 1, 3, .inr (.inl (fun _ => 0))))] H := hP
  replace hD : va_D A [(h0, .inr (5, [.ref h1, .ref h2, .ref h3, .ref h4, .int wp4100222])), (h4, .inr (8, [.ref h6, .int wp4100223])), (h6, .inl (y 1, 3, .inr (.inl (fun _ => 0))))] := hD
  refine lv_istore_n (lv' := [(3, .int 0), (0, .ref h0), (1, .int 1), (2, .int 2)]) hx hb dX5_find_8 rfl hl (by decide) rfl ?_
  clear hl
  clear ls
  intro ls hl
  refine lv_iconst (v := 0) hx hb dX5_find_9 (by decide) ?_
  refine lv_istore (lv' := [(4, .int 0), (3, .int 0), (0, .ref h0), (1, .int 1), (2, .int 2)]) hx hb dX5_find_10 hl (by decide) rfl ?_
  clear hl
  clear ls
  intro ls hl
  refine lv_iload hx hb dX5_find_12 (lv_at hl 0 rfl) ?_
  refine lv_iload_n hx hb dX5_find_14 rfl (lv_at hl 1 rfl) ?_
  refine lv_icmp_ge (tgt := 67) hx hb dX5_find_15 (by decide) (fun _ => ?_) (fun c9 => absurd c9 (by decide +kernel))
  refine lv_iload_n hx hb dX5_find_67 rfl (lv_at hl 1 rfl) ?_
  refine lv_if_le (tgt := 107) hx hb dX5_find_68 (by decide) (fun _ => ?_) (fun c9 => absurd c9 (by decide +kernel))
  refine lv_iload hx hb dX5_find_107 (lv_at hl 0 rfl) ?_
  refine lv_if_le (tgt := 139) hx hb dX5_find_109 (by decide) (fun _ => ?_) (fun c9 => absurd c9 (by decide +kernel))
  exact g_vret hx hb hr hlocks () hP hD hS trivial (Nat.le_of_ble_eq_true rfl) (Nat.le_of_ble_eq_true rfl) dX5_find_139
set_option maxRecDepth 100000 in
set_option maxHeartbeats 4000000 in
theorem k_X5_find_8 (l : Launch) (D : va_G) (y : Nat → ClassId) (aS : Nat → Nat) (sz : Nat) (h0 : Nat) (h1 : Nat) (h2 : Nat) (h3 : Nat) (h4 : Nat) (wp4100227 : Int32) (h6 : Nat) (wp4100228 : Int32) : Met l yX5_find (Cond.code yX5_find cX5_find 6 none :: wsL_law) ({ frames := 1, cells := 0, slots := 0, locals := 21 } : Room) (va_Pc [.ref h0, .int 2, .int 2] (gI D y aS [(h0, .inr (5, [.ref h1, .ref h2, .ref h3, .ref h4, .int wp4100227])), (h4, .inr (8, [.ref h6, .int wp4100228])), (h6, .inl (y 1, 3, .inr (.inl (fun _ => 0))))] sz)) (va_Qv (fun (u : Unit) => True) (fun u => gO D (va_A [(h0, .inr (5, [.ref h1, .ref h2, .ref h3, .ref h4, .int wp4100227])), (h4, .inr (8, [.ref h6, .int wp4100228])), (h6, .inl (y 1, 3, .inr (.inl (fun _ => 0))))] sz) [(h0, .inr (5, [.ref h1, .ref h2, .ref h3, .ref h4, .int wp4100227])), (h4, .inr (8, [.ref h6, .int wp4100228])), (h6, .inl (y 1, 3, .inr (.inl (fun _ => 0))))]) (va_A [(h0, .inr (5, [.ref h1, .ref h2, .ref h3, .ref h4, .int wp4100227])), (h4, .inr (8, [.ref h6, .int wp4100228])), (h6, .inl (y 1, 3, .inr (.inl (fun _ => 0))))] sz)) 0 0 (va_A [(h0, .inr (5, [.ref h1, .ref h2, .ref h3, .ref h4, .int wp4100227])), (h4, .inr (8, [.ref h6, .int wp4100228])), (h6, .inl (y 1, 3, .inr (.inl (fun _ => 0))))] sz) := by
  refine g_of (by decide) (Nat.le_of_ble_eq_true rfl) ?_
  intro p e s m below meth c ls A hx hb hr hml hown hg hlocks hin hsz hK hP hD hS hA hAe hl
  rw [← hAe]
  replace hown : s.vm.findClass RX5 = some m.cls := hown
  replace hl : lv_has ls 6 [(0, .ref h0), (1, .int 2), (2, .int 2)] := hl
  refine lv_aload_n hx hb dX5_find_0 rfl (lv_at hl 0 rfl) ?_
  refine gm_get (D := D) (ci := 5) (v := .ref h4) (C := RX5) (T := TX5) (N := 5) hx hb hg inlX5 hown hK.1 hP 0 rfl rfl 3 (by decide) tX5_3 (hg _ gw_141) rfl dX5_find_1 ?_
  refine lv_iload_n hx hb dX5_find_4 rfl (lv_at hl 1 rfl) ?_
  refine g_ai (wr := [(h0, .inr (5, [.ref h1, .ref h2, .ref h3, .ref h4, .int wp4100227]))]) (va_runV (As := [.int 2]) (rest := []) ⟨hx, hb, hml, hown, hg⟩ (k_X8_whole_29 l D y aS s.heap.size h4 h6 wp4100228) (cwV 1 hg ggV_RX5_50_X8_whole rfl rfl rfl (by decide +kernel) ⟨Nat.le_of_ble_eq_true rfl, Nat.le_of_ble_eq_true rfl⟩) (g_preV (q := (RX8, TX8, 2)) hK hP hD [1, 2] rfl (by decide) (ci := 8) (q0 := 1) rfl rfl) rfl rfl hl.1 rfl (lv_room (Nat.le_of_ble_eq_true rfl)) dX5_find_5 ⟨Nat.le_of_ble_eq_true rfl, Nat.le_of_ble_eq_true rfl⟩) hP hD hS hA [1, 2] [0] rfl rfl (by decide) (by decide) ?_
  clear hP hD hS
  refine fun r4100229 u H locs hq hP hD hS => ?_
  subst hq
  replace hP : va_P D vwCl [(h0, .inr (5, [.ref h1, .ref h2, .ref h3, .ref h4, .int wp4100227])), (h4, .inr (8, [.ref h6, .int wp4100228])), (h6, .inl (y 1, 3, .inr (.inl (fun _ => 0))))] H := hP
  replace hD : va_D A [(h0, .inr (5, [.ref h1, .ref h2, .ref h3, .ref h4, .int wp4100227])), (h4, .inr (8, [.ref h6, .int wp4100228])), (h6, .inl (y 1, 3, .inr (.inl (fun _ => 0))))] := hD
  refine lv_istore_n (lv' := [(3, .int 0), (0, .ref h0), (1, .int 2), (2, .int 2)]) hx hb dX5_find_8 rfl hl (by decide) rfl ?_
  clear hl
  clear ls
  intro ls hl
  refine lv_iconst (v := 0) hx hb dX5_find_9 (by decide) ?_
  refine lv_istore (lv' := [(4, .int 0), (3, .int 0), (0, .ref h0), (1, .int 2), (2, .int 2)]) hx hb dX5_find_10 hl (by decide) rfl ?_
  clear hl
  clear ls
  intro ls hl
  refine lv_iload hx hb dX5_find_12 (lv_at hl 0 rfl) ?_
  refine lv_iload_n hx hb dX5_find_14 rfl (lv_at hl 1 rfl) ?_
  refine lv_icmp_ge (tgt := 67) hx hb dX5_find_15 (by decide) (fun _ => ?_) (fun c9 => absurd c9 (by decide +kernel))
  refine lv_iload_n hx hb dX5_find_67 rfl (lv_at hl 1 rfl) ?_
  refine lv_if_le (tgt := 107) hx hb dX5_find_68 (by decide) (fun _ => ?_) (fun c9 => absurd c9 (by decide +kernel))
  refine lv_iload hx hb dX5_find_107 (lv_at hl 0 rfl) ?_
  refine lv_if_le (tgt := 139) hx hb dX5_find_109 (by decide) (fun _ => ?_) (fun c9 => absurd c9 (by decide +kernel))
  exact g_vret hx hb hr hlocks () hP hD hS trivial (Nat.le_of_ble_eq_true rfl) (Nat.le_of_ble_eq_true rfl) dX5_find_139
set_option maxRecDepth 100000 in
set_option maxHeartbeats 4000000 in
theorem k_X5_findOut_3 (l : Launch) (D : va_G) (y : Nat → ClassId) (aS : Nat → Nat) (sz : Nat) (h0 : Nat) (h1 : Nat) (h2 : Nat) (h3 : Nat) (h4 : Nat) (wp4100231 : Int32) (h6 : Nat) (h7 : Nat) (wp4100232 : Int32) (wf4100233 : Nat → Int64) (h10 : Nat) (wp4100234 : Int32) : Met l yX5_findOut (Cond.code yX5_findOut cX5_findOut 3 none :: wsL_law) ({ frames := 2, cells := 0, slots := 0, locals := 46 } : Room) (va_Pc [.ref h0] (gI D y aS [(h0, .inr (5, [.ref h1, .ref h2, .ref h3, .ref h4, .int wp4100231])), (h1, .inr (8, [.ref h6, .int 3])), (h2, .inr (8, [.ref h7, .int wp4100232])), (h7, .inl (y 1, 200, .inr (.inl wf4100233))), (h4, .inr (8, [.ref h10, .int wp4100234])), (h10, .inl (y 1, 3, .inr (.inl (fun _ => 0))))] sz)) (va_Qv (fun (u : Unit) => True) (fun u => gO D (va_A [(h0, .inr (5, [.ref h1, .ref h2, .ref h3, .ref h4, .int wp4100231])), (h1, .inr (8, [.ref h6, .int 3])), (h2, .inr (8, [.ref h7, .int wp4100232])), (h7, .inl (y 1, 200, .inr (.inl wf4100233))), (h4, .inr (8, [.ref h10, .int wp4100234])), (h10, .inl (y 1, 3, .inr (.inl (fun _ => 0))))] sz) [(h0, .inr (5, [.ref h1, .ref h2, .ref h3, .ref h4, .int 3])), (h1, .inr (8, [.ref h6, .int 3])), (h2, .inr (8, [.ref h7, .int wp4100232])), (h7, .inl (y 1, 200, .inr (.inl (vp_updL (vp_updL (vp_updL wf4100233 ((0 : Int32).toNatClampNeg) 0) ((1 : Int32).toNatClampNeg) 0) ((2 : Int32).toNatClampNeg) 0)))), (h4, .inr (8, [.ref h10, .int wp4100234])), (h10, .inl (y 1, 3, .inr (.inl (fun _ => 0))))]) (va_A [(h0, .inr (5, [.ref h1, .ref h2, .ref h3, .ref h4, .int wp4100231])), (h1, .inr (8, [.ref h6, .int 3])), (h2, .inr (8, [.ref h7, .int wp4100232])), (h7, .inl (y 1, 200, .inr (.inl wf4100233))), (h4, .inr (8, [.ref h10, .int wp4100234])), (h10, .inl (y 1, 3, .inr (.inl (fun _ => 0))))] sz)) 0 0 (va_A [(h0, .inr (5, [.ref h1, .ref h2, .ref h3, .ref h4, .int wp4100231])), (h1, .inr (8, [.ref h6, .int 3])), (h2, .inr (8, [.ref h7, .int wp4100232])), (h7, .inl (y 1, 200, .inr (.inl wf4100233))), (h4, .inr (8, [.ref h10, .int wp4100234])), (h10, .inl (y 1, 3, .inr (.inl (fun _ => 0))))] sz) := by
  refine g_of (by decide) (Nat.le_of_ble_eq_true rfl) ?_
  intro p e s m below meth c ls A hx hb hr hml hown hg hlocks hin hsz hK hP hD hS hA hAe hl
  rw [← hAe]
  replace hown : s.vm.findClass RX5 = some m.cls := hown
  replace hl : lv_has ls 3 [(0, .ref h0)] := hl
  refine lv_aload_n hx hb dX5_findOut_0 rfl (lv_at hl 0 rfl) ?_
  refine lv_aload_n hx hb dX5_findOut_1 rfl (lv_at hl 0 rfl) ?_
  refine gm_get (D := D) (ci := 5) (v := .ref h1) (C := RX5) (T := TX5) (N := 5) hx hb hg inlX5 hown hK.1 hP 0 rfl rfl 0 (by decide) tX5_0 (hg _ gw_138) rfl dX5_findOut_2 ?_
  refine gm_get (D := D) (ci := 8) (v := .int 3) (C := RX8) (T := TX8) (N := 2) hx hb hg inlX8 hown hK.1 hP 1 rfl rfl 1 (by decide) tX8_1 (hg _ gw_1441) rfl dX5_findOut_5 ?_
  refine gm_put (D := D) (ci := 5) (v := .int 3) (ty := .int) (C := RX5) (T := TX5) (N := 5) hx hb hg inlX5 tyX5 tyX5_ok nmX5 hown hK.1 hP hD hS 0 rfl rfl 4 (by decide) tX5_4 (hg _ gw_1442) (by decide +kernel) rfl rfl (Nat.le_of_ble_eq_true rfl) dX5_findOut_8 ?_
  clear hP hD hS
  refine fun H locs (hP : va_P D vwCl [(h0, .inr (5, [.ref h1, .ref h2, .ref h3, .ref h4, .int 3])), (h1, .inr (8, [.ref h6, .int 3])), (h2, .inr (8, [.ref h7, .int wp4100232])), (h7, .inl (y 1, 200, .inr (.inl wf4100233))), (h4, .inr (8, [.ref h10, .int wp4100234])), (h10, .inl (y 1, 3, .inr (.inl (fun _ => 0))))] H) (hD : va_D A [(h0, .inr (5, [.ref h1, .ref h2, .ref h3, .ref h4, .int 3])), (h1, .inr (8, [.ref h6, .int 3])), (h2, .inr (8, [.ref h7, .int wp4100232])), (h7, .inl (y 1, 200, .inr (.inl wf4100233))), (h4, .inr (8, [.ref h10, .int wp4100234])), (h10, .inl (y 1, 3, .inr (.inl (fun _ => 0))))]) hS => ?_
  refine lv_iconst (v := 0) hx hb dX5_findOut_11 (by decide) ?_
  refine lv_istore_n (lv' := [(1, .int 0), (0, .ref h0)]) hx hb dX5_findOut_12 rfl hl (by decide) rfl ?_
  clear hl
  clear ls
  intro ls hl
  refine lv_iload_n hx hb dX5_findOut_13 rfl (lv_at hl 0 rfl) ?_
  refine lv_aload_n hx hb dX5_findOut_14 rfl (lv_at hl 1 rfl) ?_
  refine gm_get (D := D) (ci := 5) (v := .ref h1) (C := RX5) (T := TX5) (N := 5) hx hb hg inlX5 hown hK.1 hP 0 rfl rfl 0 (by decide) tX5_0 (hg _ gw_138) rfl dX5_findOut_15 ?_
  refine gm_get (D := D) (ci := 8) (v := .int 3) (C := RX8) (T := TX8) (N := 2) hx hb hg inlX8 hown hK.1 hP 1 rfl rfl 1 (by decide) tX8_1 (hg _ gw_1441) rfl dX5_findOut_18 ?_
  refine lv_icmp_ge (tgt := 39) hx hb dX5_findOut_21 (by decide) (fun c9 => absurd c9 (by decide +kernel)) (fun _ => ?_)
  refine lv_aload_n hx hb dX5_findOut_24 rfl (lv_at hl 1 rfl) ?_
  refine gm_get (D := D) (ci := 5) (v := .ref h2) (C := RX5) (T := TX5) (N := 5) hx hb hg inlX5 hown hK.1 hP 0 rfl rfl 1 (by decide) tX5_1 (hg _ gw_139) rfl dX5_findOut_25 ?_
  refine lv_iload_n hx hb dX5_findOut_28 rfl (lv_at hl 0 rfl) ?_
  refine lv_lconst (v := 0) hx hb dX5_findOut_29 (by decide) ?_
  refine g_av (wr := [(h0, .inr (5, [.ref h1, .ref h2, .ref h3, .ref h4, .int 3])), (h1, .inr (8, [.ref h6, .int 3])), (h4, .inr (8, [.ref h10, .int wp4100234])), (h10, .inl (y 1, 3, .inr (.inl (fun _ => 0))))]) (va_runV (As := [.int 0, .long 0]) (rest := []) ⟨hx, hb, hml, hown, hg⟩ (k_X8_set_45 l D y aS H.size h2 0 h7 wp4100232 wf4100233) (cwV 2 hg ggV_RX5_29_X8_set rfl rfl rfl (by decide +kernel) ⟨Nat.le_of_ble_eq_true rfl, Nat.le_of_ble_eq_true rfl⟩) (g_preV (q := (RX8, TX8, 2)) hK hP hD [2, 3] rfl (by decide) (ci := 8) (q0 := 2) rfl rfl) rfl rfl hl.1 rfl (lv_room (Nat.le_of_ble_eq_true rfl)) dX5_findOut_30 ⟨Nat.le_of_ble_eq_true rfl, Nat.le_of_ble_eq_true rfl⟩) hP hD hS hA [2, 3] [0, 1, 4, 5] rfl rfl (by decide) (by decide) ?_
  clear hP hD hS H locs
  refine fun u H locs hq hP hD hS => ?_
  replace hP : va_P D vwCl [(h0, .inr (5, [.ref h1, .ref h2, .ref h3, .ref h4, .int 3])), (h1, .inr (8, [.ref h6, .int 3])), (h4, .inr (8, [.ref h10, .int wp4100234])), (h10, .inl (y 1, 3, .inr (.inl (fun _ => 0)))), (h2, .inr (8, [.ref h7, .int wp4100232])), (h7, .inl (y 1, 200, .inr (.inl (vp_updL wf4100233 ((0 : Int32).toNatClampNeg) 0))))] H := hP
  replace hD : va_D A [(h0, .inr (5, [.ref h1, .ref h2, .ref h3, .ref h4, .int 3])), (h1, .inr (8, [.ref h6, .int 3])), (h4, .inr (8, [.ref h10, .int wp4100234])), (h10, .inl (y 1, 3, .inr (.inl (fun _ => 0)))), (h2, .inr (8, [.ref h7, .int wp4100232])), (h7, .inl (y 1, 200, .inr (.inl (vp_updL wf4100233 ((0 : Int32).toNatClampNeg) 0))))] := hD
  refine lv_iinc (v := 1) (lv' := [(1, .int 1), (0, .ref h0)]) hx hb dX5_findOut_33 hl (k := 0) rfl (by decide +kernel) (by decide) rfl ?_
  clear hl
  clear ls
  intro ls hl
  refine lv_goto (tgt := 13) hx hb dX5_findOut_36 (by decide) ?_
  refine lv_iload_n hx hb dX5_findOut_13 rfl (lv_at hl 0 rfl) ?_
  refine lv_aload_n hx hb dX5_findOut_14 rfl (lv_at hl 1 rfl) ?_
  refine gm_get (D := D) (ci := 5) (v := .ref h1) (C := RX5) (T := TX5) (N := 5) hx hb hg inlX5 hown hK.1 hP 0 rfl rfl 0 (by decide) tX5_0 (hg _ gw_138) rfl dX5_findOut_15 ?_
  refine gm_get (D := D) (ci := 8) (v := .int 3) (C := RX8) (T := TX8) (N := 2) hx hb hg inlX8 hown hK.1 hP 1 rfl rfl 1 (by decide) tX8_1 (hg _ gw_1441) rfl dX5_findOut_18 ?_
  refine lv_icmp_ge (tgt := 39) hx hb dX5_findOut_21 (by decide) (fun c9 => absurd c9 (by decide +kernel)) (fun _ => ?_)
  refine lv_aload_n hx hb dX5_findOut_24 rfl (lv_at hl 1 rfl) ?_
  refine gm_get (D := D) (ci := 5) (v := .ref h2) (C := RX5) (T := TX5) (N := 5) hx hb hg inlX5 hown hK.1 hP 0 rfl rfl 1 (by decide) tX5_1 (hg _ gw_139) rfl dX5_findOut_25 ?_
  refine lv_iload_n hx hb dX5_findOut_28 rfl (lv_at hl 0 rfl) ?_
  refine lv_lconst (v := 0) hx hb dX5_findOut_29 (by decide) ?_
  refine g_av (wr := [(h0, .inr (5, [.ref h1, .ref h2, .ref h3, .ref h4, .int 3])), (h1, .inr (8, [.ref h6, .int 3])), (h4, .inr (8, [.ref h10, .int wp4100234])), (h10, .inl (y 1, 3, .inr (.inl (fun _ => 0))))]) (va_runV (As := [.int 1, .long 0]) (rest := []) ⟨hx, hb, hml, hown, hg⟩ (k_X8_set_46 l D y aS H.size h2 0 h7 wp4100232 (vp_updL wf4100233 ((0 : Int32).toNatClampNeg) 0)) (cwV 2 hg ggV_RX5_29_X8_set rfl rfl rfl (by decide +kernel) ⟨Nat.le_of_ble_eq_true rfl, Nat.le_of_ble_eq_true rfl⟩) (g_preV (q := (RX8, TX8, 2)) hK hP hD [4, 5] rfl (by decide) (ci := 8) (q0 := 4) rfl rfl) rfl rfl hl.1 rfl (lv_room (Nat.le_of_ble_eq_true rfl)) dX5_findOut_30 ⟨Nat.le_of_ble_eq_true rfl, Nat.le_of_ble_eq_true rfl⟩) hP hD hS hA [4, 5] [0, 1, 2, 3] rfl rfl (by decide) (by decide) ?_
  clear hP hD hS H locs
  refine fun u H locs hq hP hD hS => ?_
  replace hP : va_P D vwCl [(h0, .inr (5, [.ref h1, .ref h2, .ref h3, .ref h4, .int 3])), (h1, .inr (8, [.ref h6, .int 3])), (h4, .inr (8, [.ref h10, .int wp4100234])), (h10, .inl (y 1, 3, .inr (.inl (fun _ => 0)))), (h2, .inr (8, [.ref h7, .int wp4100232])), (h7, .inl (y 1, 200, .inr (.inl (vp_updL (vp_updL wf4100233 ((0 : Int32).toNatClampNeg) 0) ((1 : Int32).toNatClampNeg) 0))))] H := hP
  replace hD : va_D A [(h0, .inr (5, [.ref h1, .ref h2, .ref h3, .ref h4, .int 3])), (h1, .inr (8, [.ref h6, .int 3])), (h4, .inr (8, [.ref h10, .int wp4100234])), (h10, .inl (y 1, 3, .inr (.inl (fun _ => 0)))), (h2, .inr (8, [.ref h7, .int wp4100232])), (h7, .inl (y 1, 200, .inr (.inl (vp_updL (vp_updL wf4100233 ((0 : Int32).toNatClampNeg) 0) ((1 : Int32).toNatClampNeg) 0))))] := hD
  refine lv_iinc (v := 2) (lv' := [(1, .int 2), (0, .ref h0)]) hx hb dX5_findOut_33 hl (k := 0) rfl (by decide +kernel) (by decide) rfl ?_
  clear hl
  clear ls
  intro ls hl
  refine lv_goto (tgt := 13) hx hb dX5_findOut_36 (by decide) ?_
  refine lv_iload_n hx hb dX5_findOut_13 rfl (lv_at hl 0 rfl) ?_
  refine lv_aload_n hx hb dX5_findOut_14 rfl (lv_at hl 1 rfl) ?_
  refine gm_get (D := D) (ci := 5) (v := .ref h1) (C := RX5) (T := TX5) (N := 5) hx hb hg inlX5 hown hK.1 hP 0 rfl rfl 0 (by decide) tX5_0 (hg _ gw_138) rfl dX5_findOut_15 ?_
  refine gm_get (D := D) (ci := 8) (v := .int 3) (C := RX8) (T := TX8) (N := 2) hx hb hg inlX8 hown hK.1 hP 1 rfl rfl 1 (by decide) tX8_1 (hg _ gw_1441) rfl dX5_findOut_18 ?_
  refine lv_icmp_ge (tgt := 39) hx hb dX5_findOut_21 (by decide) (fun c9 => absurd c9 (by decide +kernel)) (fun _ => ?_)
  refine lv_aload_n hx hb dX5_findOut_24 rfl (lv_at hl 1 rfl) ?_
  refine gm_get (D := D) (ci := 5) (v := .ref h2) (C := RX5) (T := TX5) (N := 5) hx hb hg inlX5 hown hK.1 hP 0 rfl rfl 1 (by decide) tX5_1 (hg _ gw_139) rfl dX5_findOut_25 ?_
  refine lv_iload_n hx hb dX5_findOut_28 rfl (lv_at hl 0 rfl) ?_
  refine lv_lconst (v := 0) hx hb dX5_findOut_29 (by decide) ?_
  refine g_av (wr := [(h0, .inr (5, [.ref h1, .ref h2, .ref h3, .ref h4, .int 3])), (h1, .inr (8, [.ref h6, .int 3])), (h4, .inr (8, [.ref h10, .int wp4100234])), (h10, .inl (y 1, 3, .inr (.inl (fun _ => 0))))]) (va_runV (As := [.int 2, .long 0]) (rest := []) ⟨hx, hb, hml, hown, hg⟩ (k_X8_set_47 l D y aS H.size h2 0 h7 wp4100232 (vp_updL (vp_updL wf4100233 ((0 : Int32).toNatClampNeg) 0) ((1 : Int32).toNatClampNeg) 0)) (cwV 2 hg ggV_RX5_29_X8_set rfl rfl rfl (by decide +kernel) ⟨Nat.le_of_ble_eq_true rfl, Nat.le_of_ble_eq_true rfl⟩) (g_preV (q := (RX8, TX8, 2)) hK hP hD [4, 5] rfl (by decide) (ci := 8) (q0 := 4) rfl rfl) rfl rfl hl.1 rfl (lv_room (Nat.le_of_ble_eq_true rfl)) dX5_findOut_30 ⟨Nat.le_of_ble_eq_true rfl, Nat.le_of_ble_eq_true rfl⟩) hP hD hS hA [4, 5] [0, 1, 2, 3] rfl rfl (by decide) (by decide) ?_
  clear hP hD hS H locs
  refine fun u H locs hq hP hD hS => ?_
  replace hP : va_P D vwCl [(h0, .inr (5, [.ref h1, .ref h2, .ref h3, .ref h4, .int 3])), (h1, .inr (8, [.ref h6, .int 3])), (h4, .inr (8, [.ref h10, .int wp4100234])), (h10, .inl (y 1, 3, .inr (.inl (fun _ => 0)))), (h2, .inr (8, [.ref h7, .int wp4100232])), (h7, .inl (y 1, 200, .inr (.inl (vp_updL (vp_updL (vp_updL wf4100233 ((0 : Int32).toNatClampNeg) 0) ((1 : Int32).toNatClampNeg) 0) ((2 : Int32).toNatClampNeg) 0))))] H := hP
  replace hD : va_D A [(h0, .inr (5, [.ref h1, .ref h2, .ref h3, .ref h4, .int 3])), (h1, .inr (8, [.ref h6, .int 3])), (h4, .inr (8, [.ref h10, .int wp4100234])), (h10, .inl (y 1, 3, .inr (.inl (fun _ => 0)))), (h2, .inr (8, [.ref h7, .int wp4100232])), (h7, .inl (y 1, 200, .inr (.inl (vp_updL (vp_updL (vp_updL wf4100233 ((0 : Int32).toNatClampNeg) 0) ((1 : Int32).toNatClampNeg) 0) ((2 : Int32).toNatClampNeg) 0))))] := hD
  refine lv_iinc (v := 3) (lv' := [(1, .int 3), (0, .ref h0)]) hx hb dX5_findOut_33 hl (k := 0) rfl (by decide +kernel) (by decide) rfl ?_
  clear hl
  clear ls
  intro ls hl
  refine lv_goto (tgt := 13) hx hb dX5_findOut_36 (by decide) ?_
  refine lv_iload_n hx hb dX5_findOut_13 rfl (lv_at hl 0 rfl) ?_
  refine lv_aload_n hx hb dX5_findOut_14 rfl (lv_at hl 1 rfl) ?_
  refine gm_get (D := D) (ci := 5) (v := .ref h1) (C := RX5) (T := TX5) (N := 5) hx hb hg inlX5 hown hK.1 hP 0 rfl rfl 0 (by decide) tX5_0 (hg _ gw_138) rfl dX5_findOut_15 ?_
  refine gm_get (D := D) (ci := 8) (v := .int 3) (C := RX8) (T := TX8) (N := 2) hx hb hg inlX8 hown hK.1 hP 1 rfl rfl 1 (by decide) tX8_1 (hg _ gw_1441) rfl dX5_findOut_18 ?_
  refine lv_icmp_ge (tgt := 39) hx hb dX5_findOut_21 (by decide) (fun _ => ?_) (fun c9 => absurd c9 (by decide +kernel))
  refine lv_iconst (v := 0) hx hb dX5_findOut_39 (by decide) ?_
  refine lv_istore_n (lv' := [(1, .int 0), (0, .ref h0)]) hx hb dX5_findOut_40 rfl hl (by decide) rfl ?_
  clear hl
  clear ls
  intro ls hl
  refine lv_iload_n hx hb dX5_findOut_41 rfl (lv_at hl 0 rfl) ?_
  refine lv_aload_n hx hb dX5_findOut_42 rfl (lv_at hl 1 rfl) ?_
  refine gm_get (D := D) (ci := 5) (v := .ref h1) (C := RX5) (T := TX5) (N := 5) hx hb hg inlX5 hown hK.1 hP 0 rfl rfl 0 (by decide) tX5_0 (hg _ gw_138) rfl dX5_findOut_43 ?_
  refine gm_get (D := D) (ci := 8) (v := .int 3) (C := RX8) (T := TX8) (N := 2) hx hb hg inlX8 hown hK.1 hP 1 rfl rfl 1 (by decide) tX8_1 (hg _ gw_1441) rfl dX5_findOut_46 ?_
  refine lv_icmp_ge (tgt := 77) hx hb dX5_findOut_49 (by decide) (fun c9 => absurd c9 (by decide +kernel)) (fun _ => ?_)
  refine lv_iconst (v := 0) hx hb dX5_findOut_52 (by decide) ?_
  refine lv_istore_n (lv' := [(2, .int 0), (1, .int 0), (0, .ref h0)]) hx hb dX5_findOut_53 rfl hl (by decide) rfl ?_
  clear hl
  clear ls
  intro ls hl
  refine lv_iload_n hx hb dX5_findOut_54 rfl (lv_at hl 0 rfl) ?_
  refine lv_iconst (v := 3) hx hb dX5_findOut_55 (by decide) ?_
  refine lv_icmp_ge (tgt := 71) hx hb dX5_findOut_56 (by decide) (fun c9 => absurd c9 (by decide +kernel)) (fun _ => ?_)
  refine lv_aload_n hx hb dX5_findOut_59 rfl (lv_at hl 2 rfl) ?_
  refine lv_iload_n hx hb dX5_findOut_60 rfl (lv_at hl 0 rfl) ?_
  refine lv_iload_n hx hb dX5_findOut_61 rfl (lv_at hl 1 rfl) ?_
  refine g_av (wr := [(h1, .inr (8, [.ref h6, .int 3])), (h2, .inr (8, [.ref h7, .int wp4100232])), (h7, .inl (y 1, 200, .inr (.inl (vp_updL (vp_updL (vp_updL wf4100233 ((0 : Int32).toNatClampNeg) 0) ((1 : Int32).toNatClampNeg) 0) ((2 : Int32).toNatClampNeg) 0))))]) (va_runV (As := [.int 0, .int 0]) (rest := []) ⟨hx, hb, hml, hown, hg⟩ (k_X5_find_0 l D y aS H.size h0 h1 h2 h3 h4 3 h10 wp4100234) (cwV 2 hg ggV_RX5_54_X5_find rfl rfl rfl (by decide +kernel) ⟨Nat.le_of_ble_eq_true rfl, Nat.le_of_ble_eq_true rfl⟩) (g_preV (q := (RX5, TX5, 5)) hK hP hD [0, 2, 3] rfl (by decide) (ci := 5) (q0 := 0) rfl rfl) rfl rfl hl.1 rfl (lv_room (Nat.le_of_ble_eq_true rfl)) dX5_findOut_62 ⟨Nat.le_of_ble_eq_true rfl, Nat.le_of_ble_eq_true rfl⟩) hP hD hS hA [0, 2, 3] [1, 4, 5] rfl rfl (by decide) (by decide) ?_
  clear hP hD hS H locs
  refine fun u H locs hq hP hD hS => ?_
  replace hP : va_P D vwCl [(h1, .inr (8, [.ref h6, .int 3])), (h2, .inr (8, [.ref h7, .int wp4100232])), (h7, .inl (y 1, 200, .inr (.inl (vp_updL (vp_updL (vp_updL wf4100233 ((0 : Int32).toNatClampNeg) 0) ((1 : Int32).toNatClampNeg) 0) ((2 : Int32).toNatClampNeg) 0)))), (h0, .inr (5, [.ref h1, .ref h2, .ref h3, .ref h4, .int 3])), (h4, .inr (8, [.ref h10, .int wp4100234])), (h10, .inl (y 1, 3, .inr (.inl (fun _ => 0))))] H := hP
  replace hD : va_D A [(h1, .inr (8, [.ref h6, .int 3])), (h2, .inr (8, [.ref h7, .int wp4100232])), (h7, .inl (y 1, 200, .inr (.inl (vp_updL (vp_updL (vp_updL wf4100233 ((0 : Int32).toNatClampNeg) 0) ((1 : Int32).toNatClampNeg) 0) ((2 : Int32).toNatClampNeg) 0)))), (h0, .inr (5, [.ref h1, .ref h2, .ref h3, .ref h4, .int 3])), (h4, .inr (8, [.ref h10, .int wp4100234])), (h10, .inl (y 1, 3, .inr (.inl (fun _ => 0))))] := hD
  refine lv_iinc (v := 1) (lv' := [(2, .int 1), (1, .int 0), (0, .ref h0)]) hx hb dX5_findOut_65 hl (k := 0) rfl (by decide +kernel) (by decide) rfl ?_
  clear hl
  clear ls
  intro ls hl
  refine lv_goto (tgt := 54) hx hb dX5_findOut_68 (by decide) ?_
  refine lv_iload_n hx hb dX5_findOut_54 rfl (lv_at hl 0 rfl) ?_
  refine lv_iconst (v := 3) hx hb dX5_findOut_55 (by decide) ?_
  refine lv_icmp_ge (tgt := 71) hx hb dX5_findOut_56 (by decide) (fun c9 => absurd c9 (by decide +kernel)) (fun _ => ?_)
  refine lv_aload_n hx hb dX5_findOut_59 rfl (lv_at hl 2 rfl) ?_
  refine lv_iload_n hx hb dX5_findOut_60 rfl (lv_at hl 0 rfl) ?_
  refine lv_iload_n hx hb dX5_findOut_61 rfl (lv_at hl 1 rfl) ?_
  refine g_av (wr := [(h1, .inr (8, [.ref h6, .int 3])), (h2, .inr (8, [.ref h7, .int wp4100232])), (h7, .inl (y 1, 200, .inr (.inl (vp_updL (vp_updL (vp_updL wf4100233 ((0 : Int32).toNatClampNeg) 0) ((1 : Int32).toNatClampNeg) 0) ((2 : Int32).toNatClampNeg) 0))))]) (va_runV (As := [.int 1, .int 0]) (rest := []) ⟨hx, hb, hml, hown, hg⟩ (k_X5_find_1 l D y aS H.size h0 h1 h2 h3 h4 3 h10 wp4100234) (cwV 2 hg ggV_RX5_54_X5_find rfl rfl rfl (by decide +kernel) ⟨Nat.le_of_ble_eq_true rfl, Nat.le_of_ble_eq_true rfl⟩) (g_preV (q := (RX5, TX5, 5)) hK hP hD [3, 4, 5] rfl (by decide) (ci := 5) (q0 := 3) rfl rfl) rfl rfl hl.1 rfl (lv_room (Nat.le_of_ble_eq_true rfl)) dX5_findOut_62 ⟨Nat.le_of_ble_eq_true rfl, Nat.le_of_ble_eq_true rfl⟩) hP hD hS hA [3, 4, 5] [0, 1, 2] rfl rfl (by decide) (by decide) ?_
  clear hP hD hS H locs
  refine fun u H locs hq hP hD hS => ?_
  replace hP : va_P D vwCl [(h1, .inr (8, [.ref h6, .int 3])), (h2, .inr (8, [.ref h7, .int wp4100232])), (h7, .inl (y 1, 200, .inr (.inl (vp_updL (vp_updL (vp_updL wf4100233 ((0 : Int32).toNatClampNeg) 0) ((1 : Int32).toNatClampNeg) 0) ((2 : Int32).toNatClampNeg) 0)))), (h0, .inr (5, [.ref h1, .ref h2, .ref h3, .ref h4, .int 3])), (h4, .inr (8, [.ref h10, .int wp4100234])), (h10, .inl (y 1, 3, .inr (.inl (fun _ => 0))))] H := hP
  replace hD : va_D A [(h1, .inr (8, [.ref h6, .int 3])), (h2, .inr (8, [.ref h7, .int wp4100232])), (h7, .inl (y 1, 200, .inr (.inl (vp_updL (vp_updL (vp_updL wf4100233 ((0 : Int32).toNatClampNeg) 0) ((1 : Int32).toNatClampNeg) 0) ((2 : Int32).toNatClampNeg) 0)))), (h0, .inr (5, [.ref h1, .ref h2, .ref h3, .ref h4, .int 3])), (h4, .inr (8, [.ref h10, .int wp4100234])), (h10, .inl (y 1, 3, .inr (.inl (fun _ => 0))))] := hD
  refine lv_iinc (v := 2) (lv' := [(2, .int 2), (1, .int 0), (0, .ref h0)]) hx hb dX5_findOut_65 hl (k := 0) rfl (by decide +kernel) (by decide) rfl ?_
  clear hl
  clear ls
  intro ls hl
  refine lv_goto (tgt := 54) hx hb dX5_findOut_68 (by decide) ?_
  refine lv_iload_n hx hb dX5_findOut_54 rfl (lv_at hl 0 rfl) ?_
  refine lv_iconst (v := 3) hx hb dX5_findOut_55 (by decide) ?_
  refine lv_icmp_ge (tgt := 71) hx hb dX5_findOut_56 (by decide) (fun c9 => absurd c9 (by decide +kernel)) (fun _ => ?_)
  refine lv_aload_n hx hb dX5_findOut_59 rfl (lv_at hl 2 rfl) ?_
  refine lv_iload_n hx hb dX5_findOut_60 rfl (lv_at hl 0 rfl) ?_
  refine lv_iload_n hx hb dX5_findOut_61 rfl (lv_at hl 1 rfl) ?_
  refine g_av (wr := [(h1, .inr (8, [.ref h6, .int 3])), (h2, .inr (8, [.ref h7, .int wp4100232])), (h7, .inl (y 1, 200, .inr (.inl (vp_updL (vp_updL (vp_updL wf4100233 ((0 : Int32).toNatClampNeg) 0) ((1 : Int32).toNatClampNeg) 0) ((2 : Int32).toNatClampNeg) 0))))]) (va_runV (As := [.int 2, .int 0]) (rest := []) ⟨hx, hb, hml, hown, hg⟩ (k_X5_find_2 l D y aS H.size h0 h1 h2 h3 h4 3 h10 wp4100234) (cwV 2 hg ggV_RX5_54_X5_find rfl rfl rfl (by decide +kernel) ⟨Nat.le_of_ble_eq_true rfl, Nat.le_of_ble_eq_true rfl⟩) (g_preV (q := (RX5, TX5, 5)) hK hP hD [3, 4, 5] rfl (by decide) (ci := 5) (q0 := 3) rfl rfl) rfl rfl hl.1 rfl (lv_room (Nat.le_of_ble_eq_true rfl)) dX5_findOut_62 ⟨Nat.le_of_ble_eq_true rfl, Nat.le_of_ble_eq_true rfl⟩) hP hD hS hA [3, 4, 5] [0, 1, 2] rfl rfl (by decide) (by decide) ?_
  clear hP hD hS H locs
  refine fun u H locs hq hP hD hS => ?_
  replace hP : va_P D vwCl [(h1, .inr (8, [.ref h6, .int 3])), (h2, .inr (8, [.ref h7, .int wp4100232])), (h7, .inl (y 1, 200, .inr (.inl (vp_updL (vp_updL (vp_updL wf4100233 ((0 : Int32).toNatClampNeg) 0) ((1 : Int32).toNatClampNeg) 0) ((2 : Int32).toNatClampNeg) 0)))), (h0, .inr (5, [.ref h1, .ref h2, .ref h3, .ref h4, .int 3])), (h4, .inr (8, [.ref h10, .int wp4100234])), (h10, .inl (y 1, 3, .inr (.inl (fun _ => 0))))] H := hP
  replace hD : va_D A [(h1, .inr (8, [.ref h6, .int 3])), (h2, .inr (8, [.ref h7, .int wp4100232])), (h7, .inl (y 1, 200, .inr (.inl (vp_updL (vp_updL (vp_updL wf4100233 ((0 : Int32).toNatClampNeg) 0) ((1 : Int32).toNatClampNeg) 0) ((2 : Int32).toNatClampNeg) 0)))), (h0, .inr (5, [.ref h1, .ref h2, .ref h3, .ref h4, .int 3])), (h4, .inr (8, [.ref h10, .int wp4100234])), (h10, .inl (y 1, 3, .inr (.inl (fun _ => 0))))] := hD
  refine lv_iinc (v := 3) (lv' := [(2, .int 3), (1, .int 0), (0, .ref h0)]) hx hb dX5_findOut_65 hl (k := 0) rfl (by decide +kernel) (by decide) rfl ?_
  clear hl
  clear ls
  intro ls hl
  refine lv_goto (tgt := 54) hx hb dX5_findOut_68 (by decide) ?_
  refine lv_iload_n hx hb dX5_findOut_54 rfl (lv_at hl 0 rfl) ?_
  refine lv_iconst (v := 3) hx hb dX5_findOut_55 (by decide) ?_
  refine lv_icmp_ge (tgt := 71) hx hb dX5_findOut_56 (by decide) (fun _ => ?_) (fun c9 => absurd c9 (by decide +kernel))
  refine lv_iinc (v := 1) (lv' := [(1, .int 1), (2, .int 3), (0, .ref h0)]) hx hb dX5_findOut_71 hl (k := 1) rfl (by decide +kernel) (by decide) rfl ?_
  clear hl
  clear ls
  intro ls hl
  refine lv_goto (tgt := 41) hx hb dX5_findOut_74 (by decide) ?_
  refine lv_iload_n hx hb dX5_findOut_41 rfl (lv_at hl 0 rfl) ?_
  refine lv_aload_n hx hb dX5_findOut_42 rfl (lv_at hl 2 rfl) ?_
  refine gm_get (D := D) (ci := 5) (v := .ref h1) (C := RX5) (T := TX5) (N := 5) hx hb hg inlX5 hown hK.1 hP 3 rfl rfl 0 (by decide) tX5_0 (hg _ gw_138) rfl dX5_findOut_43 ?_
  refine gm_get (D := D) (ci := 8) (v := .int 3) (C := RX8) (T := TX8) (N := 2) hx hb hg inlX8 hown hK.1 hP 0 rfl rfl 1 (by decide) tX8_1 (hg _ gw_1441) rfl dX5_findOut_46 ?_
  refine lv_icmp_ge (tgt := 77) hx hb dX5_findOut_49 (by decide) (fun c9 => absurd c9 (by decide +kernel)) (fun _ => ?_)
  refine lv_iconst (v := 0) hx hb dX5_findOut_52 (by decide) ?_
  refine lv_istore_n (lv' := [(2, .int 0), (1, .int 1), (0, .ref h0)]) hx hb dX5_findOut_53 rfl hl (by decide) rfl ?_
  clear hl
  clear ls
  intro ls hl
  refine lv_iload_n hx hb dX5_findOut_54 rfl (lv_at hl 0 rfl) ?_
  refine lv_iconst (v := 3) hx hb dX5_findOut_55 (by decide) ?_
  refine lv_icmp_ge (tgt := 71) hx hb dX5_findOut_56 (by decide) (fun c9 => absurd c9 (by decide +kernel)) (fun _ => ?_)
  refine lv_aload_n hx hb dX5_findOut_59 rfl (lv_at hl 2 rfl) ?_
  refine lv_iload_n hx hb dX5_findOut_60 rfl (lv_at hl 0 rfl) ?_
  refine lv_iload_n hx hb dX5_findOut_61 rfl (lv_at hl 1 rfl) ?_
  refine g_av (wr := [(h1, .inr (8, [.ref h6, .int 3])), (h2, .inr (8, [.ref h7, .int wp4100232])), (h7, .inl (y 1, 200, .inr (.inl (vp_updL (vp_updL (vp_updL wf4100233 ((0 : Int32).toNatClampNeg) 0) ((1 : Int32).toNatClampNeg) 0) ((2 : Int32).toNatClampNeg) 0))))]) (va_runV (As := [.int 0, .int 1]) (rest := []) ⟨hx, hb, hml, hown, hg⟩ (k_X5_find_3 l D y aS H.size h0 h1 h2 h3 h4 3 h10 wp4100234) (cwV 2 hg ggV_RX5_54_X5_find rfl rfl rfl (by decide +kernel) ⟨Nat.le_of_ble_eq_true rfl, Nat.le_of_ble_eq_true rfl⟩) (g_preV (q := (RX5, TX5, 5)) hK hP hD [3, 4, 5] rfl (by decide) (ci := 5) (q0 := 3) rfl rfl) rfl rfl hl.1 rfl (lv_room (Nat.le_of_ble_eq_true rfl)) dX5_findOut_62 ⟨Nat.le_of_ble_eq_true rfl, Nat.le_of_ble_eq_true rfl⟩) hP hD hS hA [3, 4, 5] [0, 1, 2] rfl rfl (by decide) (by decide) ?_
  clear hP hD hS H locs
  refine fun u H locs hq hP hD hS => ?_
  replace hP : va_P D vwCl [(h1, .inr (8, [.ref h6, .int 3])), (h2, .inr (8, [.ref h7, .int wp4100232])), (h7, .inl (y 1, 200, .inr (.inl (vp_updL (vp_updL (vp_updL wf4100233 ((0 : Int32).toNatClampNeg) 0) ((1 : Int32).toNatClampNeg) 0) ((2 : Int32).toNatClampNeg) 0)))), (h0, .inr (5, [.ref h1, .ref h2, .ref h3, .ref h4, .int 3])), (h4, .inr (8, [.ref h10, .int wp4100234])), (h10, .inl (y 1, 3, .inr (.inl (fun _ => 0))))] H := hP
  replace hD : va_D A [(h1, .inr (8, [.ref h6, .int 3])), (h2, .inr (8, [.ref h7, .int wp4100232])), (h7, .inl (y 1, 200, .inr (.inl (vp_updL (vp_updL (vp_updL wf4100233 ((0 : Int32).toNatClampNeg) 0) ((1 : Int32).toNatClampNeg) 0) ((2 : Int32).toNatClampNeg) 0)))), (h0, .inr (5, [.ref h1, .ref h2, .ref h3, .ref h4, .int 3])), (h4, .inr (8, [.ref h10, .int wp4100234])), (h10, .inl (y 1, 3, .inr (.inl (fun _ => 0))))] := hD
  refine lv_iinc (v := 1) (lv' := [(2, .int 1), (1, .int 1), (0, .ref h0)]) hx hb dX5_findOut_65 hl (k := 0) rfl (by decide +kernel) (by decide) rfl ?_
  clear hl
  clear ls
  intro ls hl
  refine lv_goto (tgt := 54) hx hb dX5_findOut_68 (by decide) ?_
  refine lv_iload_n hx hb dX5_findOut_54 rfl (lv_at hl 0 rfl) ?_
  refine lv_iconst (v := 3) hx hb dX5_findOut_55 (by decide) ?_
  refine lv_icmp_ge (tgt := 71) hx hb dX5_findOut_56 (by decide) (fun c9 => absurd c9 (by decide +kernel)) (fun _ => ?_)
  refine lv_aload_n hx hb dX5_findOut_59 rfl (lv_at hl 2 rfl) ?_
  refine lv_iload_n hx hb dX5_findOut_60 rfl (lv_at hl 0 rfl) ?_
  refine lv_iload_n hx hb dX5_findOut_61 rfl (lv_at hl 1 rfl) ?_
  refine g_av (wr := [(h1, .inr (8, [.ref h6, .int 3])), (h2, .inr (8, [.ref h7, .int wp4100232])), (h7, .inl (y 1, 200, .inr (.inl (vp_updL (vp_updL (vp_updL wf4100233 ((0 : Int32).toNatClampNeg) 0) ((1 : Int32).toNatClampNeg) 0) ((2 : Int32).toNatClampNeg) 0))))]) (va_runV (As := [.int 1, .int 1]) (rest := []) ⟨hx, hb, hml, hown, hg⟩ (k_X5_find_4 l D y aS H.size h0 h1 h2 h3 h4 3 h10 wp4100234) (cwV 2 hg ggV_RX5_54_X5_find rfl rfl rfl (by decide +kernel) ⟨Nat.le_of_ble_eq_true rfl, Nat.le_of_ble_eq_true rfl⟩) (g_preV (q := (RX5, TX5, 5)) hK hP hD [3, 4, 5] rfl (by decide) (ci := 5) (q0 := 3) rfl rfl) rfl rfl hl.1 rfl (lv_room (Nat.le_of_ble_eq_true rfl)) dX5_findOut_62 ⟨Nat.le_of_ble_eq_true rfl, Nat.le_of_ble_eq_true rfl⟩) hP hD hS hA [3, 4, 5] [0, 1, 2] rfl rfl (by decide) (by decide) ?_
  clear hP hD hS H locs
  refine fun u H locs hq hP hD hS => ?_
  replace hP : va_P D vwCl [(h1, .inr (8, [.ref h6, .int 3])), (h2, .inr (8, [.ref h7, .int wp4100232])), (h7, .inl (y 1, 200, .inr (.inl (vp_updL (vp_updL (vp_updL wf4100233 ((0 : Int32).toNatClampNeg) 0) ((1 : Int32).toNatClampNeg) 0) ((2 : Int32).toNatClampNeg) 0)))), (h0, .inr (5, [.ref h1, .ref h2, .ref h3, .ref h4, .int 3])), (h4, .inr (8, [.ref h10, .int wp4100234])), (h10, .inl (y 1, 3, .inr (.inl (fun _ => 0))))] H := hP
  replace hD : va_D A [(h1, .inr (8, [.ref h6, .int 3])), (h2, .inr (8, [.ref h7, .int wp4100232])), (h7, .inl (y 1, 200, .inr (.inl (vp_updL (vp_updL (vp_updL wf4100233 ((0 : Int32).toNatClampNeg) 0) ((1 : Int32).toNatClampNeg) 0) ((2 : Int32).toNatClampNeg) 0)))), (h0, .inr (5, [.ref h1, .ref h2, .ref h3, .ref h4, .int 3])), (h4, .inr (8, [.ref h10, .int wp4100234])), (h10, .inl (y 1, 3, .inr (.inl (fun _ => 0))))] := hD
  refine lv_iinc (v := 2) (lv' := [(2, .int 2), (1, .int 1), (0, .ref h0)]) hx hb dX5_findOut_65 hl (k := 0) rfl (by decide +kernel) (by decide) rfl ?_
  clear hl
  clear ls
  intro ls hl
  refine lv_goto (tgt := 54) hx hb dX5_findOut_68 (by decide) ?_
  refine lv_iload_n hx hb dX5_findOut_54 rfl (lv_at hl 0 rfl) ?_
  refine lv_iconst (v := 3) hx hb dX5_findOut_55 (by decide) ?_
  refine lv_icmp_ge (tgt := 71) hx hb dX5_findOut_56 (by decide) (fun c9 => absurd c9 (by decide +kernel)) (fun _ => ?_)
  refine lv_aload_n hx hb dX5_findOut_59 rfl (lv_at hl 2 rfl) ?_
  refine lv_iload_n hx hb dX5_findOut_60 rfl (lv_at hl 0 rfl) ?_
  refine lv_iload_n hx hb dX5_findOut_61 rfl (lv_at hl 1 rfl) ?_
  refine g_av (wr := [(h1, .inr (8, [.ref h6, .int 3])), (h2, .inr (8, [.ref h7, .int wp4100232])), (h7, .inl (y 1, 200, .inr (.inl (vp_updL (vp_updL (vp_updL wf4100233 ((0 : Int32).toNatClampNeg) 0) ((1 : Int32).toNatClampNeg) 0) ((2 : Int32).toNatClampNeg) 0))))]) (va_runV (As := [.int 2, .int 1]) (rest := []) ⟨hx, hb, hml, hown, hg⟩ (k_X5_find_5 l D y aS H.size h0 h1 h2 h3 h4 3 h10 wp4100234) (cwV 2 hg ggV_RX5_54_X5_find rfl rfl rfl (by decide +kernel) ⟨Nat.le_of_ble_eq_true rfl, Nat.le_of_ble_eq_true rfl⟩) (g_preV (q := (RX5, TX5, 5)) hK hP hD [3, 4, 5] rfl (by decide) (ci := 5) (q0 := 3) rfl rfl) rfl rfl hl.1 rfl (lv_room (Nat.le_of_ble_eq_true rfl)) dX5_findOut_62 ⟨Nat.le_of_ble_eq_true rfl, Nat.le_of_ble_eq_true rfl⟩) hP hD hS hA [3, 4, 5] [0, 1, 2] rfl rfl (by decide) (by decide) ?_
  clear hP hD hS H locs
  refine fun u H locs hq hP hD hS => ?_
  replace hP : va_P D vwCl [(h1, .inr (8, [.ref h6, .int 3])), (h2, .inr (8, [.ref h7, .int wp4100232])), (h7, .inl (y 1, 200, .inr (.inl (vp_updL (vp_updL (vp_updL wf4100233 ((0 : Int32).toNatClampNeg) 0) ((1 : Int32).toNatClampNeg) 0) ((2 : Int32).toNatClampNeg) 0)))), (h0, .inr (5, [.ref h1, .ref h2, .ref h3, .ref h4, .int 3])), (h4, .inr (8, [.ref h10, .int wp4100234])), (h10, .inl (y 1, 3, .inr (.inl (fun _ => 0))))] H := hP
  replace hD : va_D A [(h1, .inr (8, [.ref h6, .int 3])), (h2, .inr (8, [.ref h7, .int wp4100232])), (h7, .inl (y 1, 200, .inr (.inl (vp_updL (vp_updL (vp_updL wf4100233 ((0 : Int32).toNatClampNeg) 0) ((1 : Int32).toNatClampNeg) 0) ((2 : Int32).toNatClampNeg) 0)))), (h0, .inr (5, [.ref h1, .ref h2, .ref h3, .ref h4, .int 3])), (h4, .inr (8, [.ref h10, .int wp4100234])), (h10, .inl (y 1, 3, .inr (.inl (fun _ => 0))))] := hD
  refine lv_iinc (v := 3) (lv' := [(2, .int 3), (1, .int 1), (0, .ref h0)]) hx hb dX5_findOut_65 hl (k := 0) rfl (by decide +kernel) (by decide) rfl ?_
  clear hl
  clear ls
  intro ls hl
  refine lv_goto (tgt := 54) hx hb dX5_findOut_68 (by decide) ?_
  refine lv_iload_n hx hb dX5_findOut_54 rfl (lv_at hl 0 rfl) ?_
  refine lv_iconst (v := 3) hx hb dX5_findOut_55 (by decide) ?_
  refine lv_icmp_ge (tgt := 71) hx hb dX5_findOut_56 (by decide) (fun _ => ?_) (fun c9 => absurd c9 (by decide +kernel))
  refine lv_iinc (v := 2) (lv' := [(1, .int 2), (2, .int 3), (0, .ref h0)]) hx hb dX5_findOut_71 hl (k := 1) rfl (by decide +kernel) (by decide) rfl ?_
  clear hl
  clear ls
  intro ls hl
  refine lv_goto (tgt := 41) hx hb dX5_findOut_74 (by decide) ?_
  refine lv_iload_n hx hb dX5_findOut_41 rfl (lv_at hl 0 rfl) ?_
  refine lv_aload_n hx hb dX5_findOut_42 rfl (lv_at hl 2 rfl) ?_
  refine gm_get (D := D) (ci := 5) (v := .ref h1) (C := RX5) (T := TX5) (N := 5) hx hb hg inlX5 hown hK.1 hP 3 rfl rfl 0 (by decide) tX5_0 (hg _ gw_138) rfl dX5_findOut_43 ?_
  refine gm_get (D := D) (ci := 8) (v := .int 3) (C := RX8) (T := TX8) (N := 2) hx hb hg inlX8 hown hK.1 hP 0 rfl rfl 1 (by decide) tX8_1 (hg _ gw_1441) rfl dX5_findOut_46 ?_
  refine lv_icmp_ge (tgt := 77) hx hb dX5_findOut_49 (by decide) (fun c9 => absurd c9 (by decide +kernel)) (fun _ => ?_)
  refine lv_iconst (v := 0) hx hb dX5_findOut_52 (by decide) ?_
  refine lv_istore_n (lv' := [(2, .int 0), (1, .int 2), (0, .ref h0)]) hx hb dX5_findOut_53 rfl hl (by decide) rfl ?_
  clear hl
  clear ls
  intro ls hl
  refine lv_iload_n hx hb dX5_findOut_54 rfl (lv_at hl 0 rfl) ?_
  refine lv_iconst (v := 3) hx hb dX5_findOut_55 (by decide) ?_
  refine lv_icmp_ge (tgt := 71) hx hb dX5_findOut_56 (by decide) (fun c9 => absurd c9 (by decide +kernel)) (fun _ => ?_)
  refine lv_aload_n hx hb dX5_findOut_59 rfl (lv_at hl 2 rfl) ?_
  refine lv_iload_n hx hb dX5_findOut_60 rfl (lv_at hl 0 rfl) ?_
  refine lv_iload_n hx hb dX5_findOut_61 rfl (lv_at hl 1 rfl) ?_
  refine g_av (wr := [(h1, .inr (8, [.ref h6, .int 3])), (h2, .inr (8, [.ref h7, .int wp4100232])), (h7, .inl (y 1, 200, .inr (.inl (vp_updL (vp_updL (vp_updL wf4100233 ((0 : Int32).toNatClampNeg) 0) ((1 : Int32).toNatClampNeg) 0) ((2 : Int32).toNatClampNeg) 0))))]) (va_runV (As := [.int 0, .int 2]) (rest := []) ⟨hx, hb, hml, hown, hg⟩ (k_X5_find_6 l D y aS H.size h0 h1 h2 h3 h4 3 h10 wp4100234) (cwV 2 hg ggV_RX5_54_X5_find rfl rfl rfl (by decide +kernel) ⟨Nat.le_of_ble_eq_true rfl, Nat.le_of_ble_eq_true rfl⟩) (g_preV (q := (RX5, TX5, 5)) hK hP hD [3, 4, 5] rfl (by decide) (ci := 5) (q0 := 3) rfl rfl) rfl rfl hl.1 rfl (lv_room (Nat.le_of_ble_eq_true rfl)) dX5_findOut_62 ⟨Nat.le_of_ble_eq_true rfl, Nat.le_of_ble_eq_true rfl⟩) hP hD hS hA [3, 4, 5] [0, 1, 2] rfl rfl (by decide) (by decide) ?_
  clear hP hD hS H locs
  refine fun u H locs hq hP hD hS => ?_
  replace hP : va_P D vwCl [(h1, .inr (8, [.ref h6, .int 3])), (h2, .inr (8, [.ref h7, .int wp4100232])), (h7, .inl (y 1, 200, .inr (.inl (vp_updL (vp_updL (vp_updL wf4100233 ((0 : Int32).toNatClampNeg) 0) ((1 : Int32).toNatClampNeg) 0) ((2 : Int32).toNatClampNeg) 0)))), (h0, .inr (5, [.ref h1, .ref h2, .ref h3, .ref h4, .int 3])), (h4, .inr (8, [.ref h10, .int wp4100234])), (h10, .inl (y 1, 3, .inr (.inl (fun _ => 0))))] H := hP
  replace hD : va_D A [(h1, .inr (8, [.ref h6, .int 3])), (h2, .inr (8, [.ref h7, .int wp4100232])), (h7, .inl (y 1, 200, .inr (.inl (vp_updL (vp_updL (vp_updL wf4100233 ((0 : Int32).toNatClampNeg) 0) ((1 : Int32).toNatClampNeg) 0) ((2 : Int32).toNatClampNeg) 0)))), (h0, .inr (5, [.ref h1, .ref h2, .ref h3, .ref h4, .int 3])), (h4, .inr (8, [.ref h10, .int wp4100234])), (h10, .inl (y 1, 3, .inr (.inl (fun _ => 0))))] := hD
  refine lv_iinc (v := 1) (lv' := [(2, .int 1), (1, .int 2), (0, .ref h0)]) hx hb dX5_findOut_65 hl (k := 0) rfl (by decide +kernel) (by decide) rfl ?_
  clear hl
  clear ls
  intro ls hl
  refine lv_goto (tgt := 54) hx hb dX5_findOut_68 (by decide) ?_
  refine lv_iload_n hx hb dX5_findOut_54 rfl (lv_at hl 0 rfl) ?_
  refine lv_iconst (v := 3) hx hb dX5_findOut_55 (by decide) ?_
  refine lv_icmp_ge (tgt := 71) hx hb dX5_findOut_56 (by decide) (fun c9 => absurd c9 (by decide +kernel)) (fun _ => ?_)
  refine lv_aload_n hx hb dX5_findOut_59 rfl (lv_at hl 2 rfl) ?_
  refine lv_iload_n hx hb dX5_findOut_60 rfl (lv_at hl 0 rfl) ?_
  refine lv_iload_n hx hb dX5_findOut_61 rfl (lv_at hl 1 rfl) ?_
  refine g_av (wr := [(h1, .inr (8, [.ref h6, .int 3])), (h2, .inr (8, [.ref h7, .int wp4100232])), (h7, .inl (y 1, 200, .inr (.inl (vp_updL (vp_updL (vp_updL wf4100233 ((0 : Int32).toNatClampNeg) 0) ((1 : Int32).toNatClampNeg) 0) ((2 : Int32).toNatClampNeg) 0))))]) (va_runV (As := [.int 1, .int 2]) (rest := []) ⟨hx, hb, hml, hown, hg⟩ (k_X5_find_7 l D y aS H.size h0 h1 h2 h3 h4 3 h10 wp4100234) (cwV 2 hg ggV_RX5_54_X5_find rfl rfl rfl (by decide +kernel) ⟨Nat.le_of_ble_eq_true rfl, Nat.le_of_ble_eq_true rfl⟩) (g_preV (q := (RX5, TX5, 5)) hK hP hD [3, 4, 5] rfl (by decide) (ci := 5) (q0 := 3) rfl rfl) rfl rfl hl.1 rfl (lv_room (Nat.le_of_ble_eq_true rfl)) dX5_findOut_62 ⟨Nat.le_of_ble_eq_true rfl, Nat.le_of_ble_eq_true rfl⟩) hP hD hS hA [3, 4, 5] [0, 1, 2] rfl rfl (by decide) (by decide) ?_
  clear hP hD hS H locs
  refine fun u H locs hq hP hD hS => ?_
  replace hP : va_P D vwCl [(h1, .inr (8, [.ref h6, .int 3])), (h2, .inr (8, [.ref h7, .int wp4100232])), (h7, .inl (y 1, 200, .inr (.inl (vp_updL (vp_updL (vp_updL wf4100233 ((0 : Int32).toNatClampNeg) 0) ((1 : Int32).toNatClampNeg) 0) ((2 : Int32).toNatClampNeg) 0)))), (h0, .inr (5, [.ref h1, .ref h2, .ref h3, .ref h4, .int 3])), (h4, .inr (8, [.ref h10, .int wp4100234])), (h10, .inl (y 1, 3, .inr (.inl (fun _ => 0))))] H := hP
  replace hD : va_D A [(h1, .inr (8, [.ref h6, .int 3])), (h2, .inr (8, [.ref h7, .int wp4100232])), (h7, .inl (y 1, 200, .inr (.inl (vp_updL (vp_updL (vp_updL wf4100233 ((0 : Int32).toNatClampNeg) 0) ((1 : Int32).toNatClampNeg) 0) ((2 : Int32).toNatClampNeg) 0)))), (h0, .inr (5, [.ref h1, .ref h2, .ref h3, .ref h4, .int 3])), (h4, .inr (8, [.ref h10, .int wp4100234])), (h10, .inl (y 1, 3, .inr (.inl (fun _ => 0))))] := hD
  refine lv_iinc (v := 2) (lv' := [(2, .int 2), (1, .int 2), (0, .ref h0)]) hx hb dX5_findOut_65 hl (k := 0) rfl (by decide +kernel) (by decide) rfl ?_
  clear hl
  clear ls
  intro ls hl
  refine lv_goto (tgt := 54) hx hb dX5_findOut_68 (by decide) ?_
  refine lv_iload_n hx hb dX5_findOut_54 rfl (lv_at hl 0 rfl) ?_
  refine lv_iconst (v := 3) hx hb dX5_findOut_55 (by decide) ?_
  refine lv_icmp_ge (tgt := 71) hx hb dX5_findOut_56 (by decide) (fun c9 => absurd c9 (by decide +kernel)) (fun _ => ?_)
  refine lv_aload_n hx hb dX5_findOut_59 rfl (lv_at hl 2 rfl) ?_
  refine lv_iload_n hx hb dX5_findOut_60 rfl (lv_at hl 0 rfl) ?_
  refine lv_iload_n hx hb dX5_findOut_61 rfl (lv_at hl 1 rfl) ?_
  refine g_av (wr := [(h1, .inr (8, [.ref h6, .int 3])), (h2, .inr (8, [.ref h7, .int wp4100232])), (h7, .inl (y 1, 200, .inr (.inl (vp_updL (vp_updL (vp_updL wf4100233 ((0 : Int32).toNatClampNeg) 0) ((1 : Int32).toNatClampNeg) 0) ((2 : Int32).toNatClampNeg) 0))))]) (va_runV (As := [.int 2, .int 2]) (rest := []) ⟨hx, hb, hml, hown, hg⟩ (k_X5_find_8 l D y aS H.size h0 h1 h2 h3 h4 3 h10 wp4100234) (cwV 2 hg ggV_RX5_54_X5_find rfl rfl rfl (by decide +kernel) ⟨Nat.le_of_ble_eq_true rfl, Nat.le_of_ble_eq_true rfl⟩) (g_preV (q := (RX5, TX5, 5)) hK hP hD [3, 4, 5] rfl (by decide) (ci := 5) (q0 := 3) rfl rfl) rfl rfl hl.1 rfl (lv_room (Nat.le_of_ble_eq_true rfl)) dX5_findOut_62 ⟨Nat.le_of_ble_eq_true rfl, Nat.le_of_ble_eq_true rfl⟩) hP hD hS hA [3, 4, 5] [0, 1, 2] rfl rfl (by decide) (by decide) ?_
  clear hP hD hS H locs
  refine fun u H locs hq hP hD hS => ?_
  replace hP : va_P D vwCl [(h1, .inr (8, [.ref h6, .int 3])), (h2, .inr (8, [.ref h7, .int wp4100232])), (h7, .inl (y 1, 200, .inr (.inl (vp_updL (vp_updL (vp_updL wf4100233 ((0 : Int32).toNatClampNeg) 0) ((1 : Int32).toNatClampNeg) 0) ((2 : Int32).toNatClampNeg) 0)))), (h0, .inr (5, [.ref h1, .ref h2, .ref h3, .ref h4, .int 3])), (h4, .inr (8, [.ref h10, .int wp4100234])), (h10, .inl (y 1, 3, .inr (.inl (fun _ => 0))))] H := hP
  replace hD : va_D A [(h1, .inr (8, [.ref h6, .int 3])), (h2, .inr (8, [.ref h7, .int wp4100232])), (h7, .inl (y 1, 200, .inr (.inl (vp_updL (vp_updL (vp_updL wf4100233 ((0 : Int32).toNatClampNeg) 0) ((1 : Int32).toNatClampNeg) 0) ((2 : Int32).toNatClampNeg) 0)))), (h0, .inr (5, [.ref h1, .ref h2, .ref h3, .ref h4, .int 3])), (h4, .inr (8, [.ref h10, .int wp4100234])), (h10, .inl (y 1, 3, .inr (.inl (fun _ => 0))))] := hD
  refine lv_iinc (v := 3) (lv' := [(2, .int 3), (1, .int 2), (0, .ref h0)]) hx hb dX5_findOut_65 hl (k := 0) rfl (by decide +kernel) (by decide) rfl ?_
  clear hl
  clear ls
  intro ls hl
  refine lv_goto (tgt := 54) hx hb dX5_findOut_68 (by decide) ?_
  refine lv_iload_n hx hb dX5_findOut_54 rfl (lv_at hl 0 rfl) ?_
  refine lv_iconst (v := 3) hx hb dX5_findOut_55 (by decide) ?_
  refine lv_icmp_ge (tgt := 71) hx hb dX5_findOut_56 (by decide) (fun _ => ?_) (fun c9 => absurd c9 (by decide +kernel))
  refine lv_iinc (v := 3) (lv' := [(1, .int 3), (2, .int 3), (0, .ref h0)]) hx hb dX5_findOut_71 hl (k := 1) rfl (by decide +kernel) (by decide) rfl ?_
  clear hl
  clear ls
  intro ls hl
  refine lv_goto (tgt := 41) hx hb dX5_findOut_74 (by decide) ?_
  refine lv_iload_n hx hb dX5_findOut_41 rfl (lv_at hl 0 rfl) ?_
  refine lv_aload_n hx hb dX5_findOut_42 rfl (lv_at hl 2 rfl) ?_
  refine gm_get (D := D) (ci := 5) (v := .ref h1) (C := RX5) (T := TX5) (N := 5) hx hb hg inlX5 hown hK.1 hP 3 rfl rfl 0 (by decide) tX5_0 (hg _ gw_138) rfl dX5_findOut_43 ?_
  refine gm_get (D := D) (ci := 8) (v := .int 3) (C := RX8) (T := TX8) (N := 2) hx hb hg inlX8 hown hK.1 hP 0 rfl rfl 1 (by decide) tX8_1 (hg _ gw_1441) rfl dX5_findOut_46 ?_
  refine lv_icmp_ge (tgt := 77) hx hb dX5_findOut_49 (by decide) (fun _ => ?_) (fun c9 => absurd c9 (by decide +kernel))
  exact g_vret hx hb hr hlocks () (hP.sub [3, 0, 1, 2, 4, 5] rfl) (hD.sub [3, 0, 1, 2, 4, 5] (by decide +kernel) rfl) hS trivial (Nat.le_of_ble_eq_true rfl) (Nat.le_of_ble_eq_true rfl) dX5_findOut_77
set_option maxRecDepth 100000 in
set_option maxHeartbeats 4000000 in
theorem k_X5_append_2 (l : Launch) (D : va_G) (y : Nat → ClassId) (aS : Nat → Nat) (sz : Nat) (h0 : Nat) (p1 : Int32) (h2 : Nat) (h3 : Nat) (h4 : Nat) (h5 : Nat) (h6 : Nat) (wf4100248 : Nat → Int64) (h8 : Nat) (wp4100249 : Int32) (wf4100250 : Nat → Int64) (h11 : Nat) (wp4100251 : Int32) : Met l yX5_append (Cond.code yX5_append cX5_append 6 (some .int) :: wsL_law) ({ frames := 3, cells := 0, slots := 0, locals := 68 } : Room) (va_Pc [.ref h0, .int p1, .int 3] (gI D y aS [(h0, .inr (5, [.ref h2, .ref h3, .ref h4, .ref h5, .int 0])), (h2, .inr (8, [.ref h6, .int 0])), (h6, .inl (y 1, 200, .inr (.inl wf4100248))), (h3, .inr (8, [.ref h8, .int wp4100249])), (h8, .inl (y 1, 200, .inr (.inl wf4100250))), (h5, .inr (8, [.ref h11, .int wp4100251])), (h11, .inl (y 1, 3, .inr (.inl (fun _ => 0))))] sz)) (va_Qi (fun (r : Int32) (u : Unit) => 3 = r) (fun u => gO D (va_A [(h0, .inr (5, [.ref h2, .ref h3, .ref h4, .ref h5, .int 0])), (h2, .inr (8, [.ref h6, .int 0])), (h6, .inl (y 1, 200, .inr (.inl wf4100248))), (h3, .inr (8, [.ref h8, .int wp4100249])), (h8, .inl (y 1, 200, .inr (.inl wf4100250))), (h5, .inr (8, [.ref h11, .int wp4100251])), (h11, .inl (y 1, 3, .inr (.inl (fun _ => 0))))] sz) [(h0, .inr (5, [.ref h2, .ref h3, .ref h4, .ref h5, .int 3])), (h2, .inr (8, [.ref h6, .int 3])), (h6, .inl (y 1, 200, .inr (.inl (vp_updL (vp_updL (vp_updL (vp_updL (vp_updL (vp_updL wf4100248 ((0 : Int32).toNatClampNeg) 0) ((1 : Int32).toNatClampNeg) 0) ((2 : Int32).toNatClampNeg) 0) ((2 : Int32).toNatClampNeg) ((p1 - p1 / 10 * 10).toInt64)) ((1 : Int32).toNatClampNeg) (((p1 / 10) - (p1 / 10) / 10 * 10).toInt64)) ((0 : Int32).toNatClampNeg) ((((p1 / 10) / 10) - ((p1 / 10) / 10) / 10 * 10).toInt64))))), (h3, .inr (8, [.ref h8, .int wp4100249])), (h8, .inl (y 1, 200, .inr (.inl (vp_updL (vp_updL (vp_updL wf4100250 ((0 : Int32).toNatClampNeg) 0) ((1 : Int32).toNatClampNeg) 0) ((2 : Int32).toNatClampNeg) 0)))), (h5, .inr (8, [.ref h11, .int wp4100251])), (h11, .inl (y 1, 3, .inr (.inl (fun _ => 0))))]) (va_A [(h0, .inr (5, [.ref h2, .ref h3, .ref h4, .ref h5, .int 0])), (h2, .inr (8, [.ref h6, .int 0])), (h6, .inl (y 1, 200, .inr (.inl wf4100248))), (h3, .inr (8, [.ref h8, .int wp4100249])), (h8, .inl (y 1, 200, .inr (.inl wf4100250))), (h5, .inr (8, [.ref h11, .int wp4100251])), (h11, .inl (y 1, 3, .inr (.inl (fun _ => 0))))] sz)) 0 0 (va_A [(h0, .inr (5, [.ref h2, .ref h3, .ref h4, .ref h5, .int 0])), (h2, .inr (8, [.ref h6, .int 0])), (h6, .inl (y 1, 200, .inr (.inl wf4100248))), (h3, .inr (8, [.ref h8, .int wp4100249])), (h8, .inl (y 1, 200, .inr (.inl wf4100250))), (h5, .inr (8, [.ref h11, .int wp4100251])), (h11, .inl (y 1, 3, .inr (.inl (fun _ => 0))))] sz) := by
  refine g_of (by decide) (Nat.le_of_ble_eq_true rfl) ?_
  intro p e s m below meth c ls A hx hb hr hml hown hg hlocks hin hsz hK hP hD hS hA hAe hl
  rw [← hAe]
  replace hown : s.vm.findClass RX5 = some m.cls := hown
  replace hl : lv_has ls 6 [(0, .ref h0), (1, .int p1), (2, .int 3)] := hl
  refine lv_aload_n hx hb dX5_append_0 rfl (lv_at hl 0 rfl) ?_
  refine gm_get (D := D) (ci := 5) (v := .ref h2) (C := RX5) (T := TX5) (N := 5) hx hb hg inlX5 hown hK.1 hP 0 rfl rfl 0 (by decide) tX5_0 (hg _ gw_138) rfl dX5_append_1 ?_
  refine gm_get (D := D) (ci := 8) (v := .int 0) (C := RX8) (T := TX8) (N := 2) hx hb hg inlX8 hown hK.1 hP 1 rfl rfl 1 (by decide) tX8_1 (hg _ gw_1441) rfl dX5_append_4 ?_
  refine lv_istore_n (lv' := [(3, .int 0), (0, .ref h0), (1, .int p1), (2, .int 3)]) hx hb dX5_append_7 rfl hl (by decide) rfl ?_
  clear hl
  clear ls
  intro ls hl
  refine lv_aload_n hx hb dX5_append_8 rfl (lv_at hl 1 rfl) ?_
  refine gm_get (D := D) (ci := 5) (v := .ref h2) (C := RX5) (T := TX5) (N := 5) hx hb hg inlX5 hown hK.1 hP 0 rfl rfl 0 (by decide) tX5_0 (hg _ gw_138) rfl dX5_append_9 ?_
  refine lv_iload_n hx hb dX5_append_12 rfl (lv_at hl 3 rfl) ?_
  refine lv_lconst (v := 0) hx hb dX5_append_13 (by decide) ?_
  refine g_av (wr := [(h0, .inr (5, [.ref h2, .ref h3, .ref h4, .ref h5, .int 0])), (h3, .inr (8, [.ref h8, .int wp4100249])), (h8, .inl (y 1, 200, .inr (.inl wf4100250))), (h5, .inr (8, [.ref h11, .int wp4100251])), (h11, .inl (y 1, 3, .inr (.inl (fun _ => 0))))]) (va_runV (As := [.int 3, .long 0]) (rest := []) ⟨hx, hb, hml, hown, hg⟩ (k_X8_addMany_6 l D y aS s.heap.size h2 h6 wf4100248) (cwV 2 hg ggV_RX5_44_X8_addMany rfl rfl rfl (by decide +kernel) ⟨Nat.le_of_ble_eq_true rfl, Nat.le_of_ble_eq_true rfl⟩) (g_preV (q := (RX8, TX8, 2)) hK hP hD [1, 2] rfl (by decide) (ci := 8) (q0 := 1) rfl rfl) rfl rfl hl.1 rfl (lv_room (Nat.le_of_ble_eq_true rfl)) dX5_append_14 ⟨Nat.le_of_ble_eq_true rfl, Nat.le_of_ble_eq_true rfl⟩) hP hD hS hA [1, 2] [0, 3, 4, 5, 6] rfl rfl (by decide) (by decide) ?_
  clear hP hD hS
  refine fun u H locs hq hP hD hS => ?_
  replace hP : va_P D vwCl [(h0, .inr (5, [.ref h2, .ref h3, .ref h4, .ref h5, .int 0])), (h3, .inr (8, [.ref h8, .int wp4100249])), (h8, .inl (y 1, 200, .inr (.inl wf4100250))), (h5, .inr (8, [.ref h11, .int wp4100251])), (h11, .inl (y 1, 3, .inr (.inl (fun _ => 0)))), (h2, .inr (8, [.ref h6, .int 3])), (h6, .inl (y 1, 200, .inr (.inl (vp_updL (vp_updL (vp_updL wf4100248 ((0 : Int32).toNatClampNeg) 0) ((1 : Int32).toNatClampNeg) 0) ((2 : Int32).toNatClampNeg) 0))))] H := hP
  replace hD : va_D A [(h0, .inr (5, [.ref h2, .ref h3, .ref h4, .ref h5, .int 0])), (h3, .inr (8, [.ref h8, .int wp4100249])), (h8, .inl (y 1, 200, .inr (.inl wf4100250))), (h5, .inr (8, [.ref h11, .int wp4100251])), (h11, .inl (y 1, 3, .inr (.inl (fun _ => 0)))), (h2, .inr (8, [.ref h6, .int 3])), (h6, .inl (y 1, 200, .inr (.inl (vp_updL (vp_updL (vp_updL wf4100248 ((0 : Int32).toNatClampNeg) 0) ((1 : Int32).toNatClampNeg) 0) ((2 : Int32).toNatClampNeg) 0))))] := hD
  refine lv_iload_n hx hb dX5_append_17 rfl (lv_at hl 2 rfl) ?_
  refine lv_istore (lv' := [(4, .int p1), (3, .int 0), (0, .ref h0), (1, .int p1), (2, .int 3)]) hx hb dX5_append_18 hl (by decide) rfl ?_
  clear hl
  clear ls
  intro ls hl
  refine lv_iload_n hx hb dX5_append_20 rfl (lv_at hl 1 rfl) ?_
  refine lv_iload_n hx hb dX5_append_21 rfl (lv_at hl 4 rfl) ?_
  refine lv_iadd hx hb dX5_append_22 ?_
  refine g_fi (v := 3) (by decide +kernel) ?_
  refine lv_iconst (v := 1) hx hb dX5_append_23 (by decide) ?_
  refine lv_isub hx hb dX5_append_24 ?_
  refine g_fi (v := 2) (by decide +kernel) ?_
  refine lv_istore (lv' := [(5, .int 2), (4, .int p1), (3, .int 0), (0, .ref h0), (1, .int p1), (2, .int 3)]) hx hb dX5_append_25 hl (by decide) rfl ?_
  clear hl
  clear ls
  intro ls hl
  refine lv_iload hx hb dX5_append_27 (lv_at hl 0 rfl) ?_
  refine lv_iload_n hx hb dX5_append_29 rfl (lv_at hl 2 rfl) ?_
  refine lv_icmp_lt (tgt := 61) hx hb dX5_append_30 (by decide) (fun c9 => absurd c9 (by decide +kernel)) (fun _ => ?_)
  refine lv_aload_n hx hb dX5_append_33 rfl (lv_at hl 3 rfl) ?_
  refine gm_get (D := D) (ci := 5) (v := .ref h2) (C := RX5) (T := TX5) (N := 5) hx hb hg inlX5 hown hK.1 hP 0 rfl rfl 0 (by decide) tX5_0 (hg _ gw_138) rfl dX5_append_34 ?_
  refine lv_iload hx hb dX5_append_37 (lv_at hl 0 rfl) ?_
  refine lv_iload hx hb dX5_append_39 (lv_at hl 1 rfl) ?_
  refine lv_bipush (v := 10) hx hb dX5_append_41 (by decide +kernel) ?_
  refine lv_irem hx hb dX5_append_43 (by decide +kernel) ?_
  refine lv_i2l (v := ((p1 - p1 / 10 * 10).toInt64)) hx hb dX5_append_44 rfl ?_
  refine g_av (wr := [(h0, .inr (5, [.ref h2, .ref h3, .ref h4, .ref h5, .int 0])), (h3, .inr (8, [.ref h8, .int wp4100249])), (h8, .inl (y 1, 200, .inr (.inl wf4100250))), (h5, .inr (8, [.ref h11, .int wp4100251])), (h11, .inl (y 1, 3, .inr (.inl (fun _ => 0))))]) (va_runV (As := [.int 2, .long ((p1 - p1 / 10 * 10).toInt64)]) (rest := []) ⟨hx, hb, hml, hown, hg⟩ (k_X8_set_47 l D y aS H.size h2 ((p1 - p1 / 10 * 10).toInt64) h6 3 (vp_updL (vp_updL (vp_updL wf4100248 ((0 : Int32).toNatClampNeg) 0) ((1 : Int32).toNatClampNeg) 0) ((2 : Int32).toNatClampNeg) 0)) (cwV 2 hg ggV_RX5_29_X8_set rfl rfl rfl (by decide +kernel) ⟨Nat.le_of_ble_eq_true rfl, Nat.le_of_ble_eq_true rfl⟩) (g_preV (q := (RX8, TX8, 2)) hK hP hD [5, 6] rfl (by decide) (ci := 8) (q0 := 5) rfl rfl) rfl rfl hl.1 rfl (lv_room (Nat.le_of_ble_eq_true rfl)) dX5_append_45 ⟨Nat.le_of_ble_eq_true rfl, Nat.le_of_ble_eq_true rfl⟩) hP hD hS hA [5, 6] [0, 1, 2, 3, 4] rfl rfl (by decide) (by decide) ?_
  clear hP hD hS H locs
  refine fun u H locs hq hP hD hS => ?_
  replace hP : va_P D vwCl [(h0, .inr (5, [.ref h2, .ref h3, .ref h4, .ref h5, .int 0])), (h3, .inr (8, [.ref h8, .int wp4100249])), (h8, .inl (y 1, 200, .inr (.inl wf4100250))), (h5, .inr (8, [.ref h11, .int wp4100251])), (h11, .inl (y 1, 3, .inr (.inl (fun _ => 0)))), (h2, .inr (8, [.ref h6, .int 3])), (h6, .inl (y 1, 200, .inr (.inl (vp_updL (vp_updL (vp_updL (vp_updL wf4100248 ((0 : Int32).toNatClampNeg) 0) ((1 : Int32).toNatClampNeg) 0) ((2 : Int32).toNatClampNeg) 0) ((2 : Int32).toNatClampNeg) ((p1 - p1 / 10 * 10).toInt64)))))] H := hP
  replace hD : va_D A [(h0, .inr (5, [.ref h2, .ref h3, .ref h4, .ref h5, .int 0])), (h3, .inr (8, [.ref h8, .int wp4100249])), (h8, .inl (y 1, 200, .inr (.inl wf4100250))), (h5, .inr (8, [.ref h11, .int wp4100251])), (h11, .inl (y 1, 3, .inr (.inl (fun _ => 0)))), (h2, .inr (8, [.ref h6, .int 3])), (h6, .inl (y 1, 200, .inr (.inl (vp_updL (vp_updL (vp_updL (vp_updL wf4100248 ((0 : Int32).toNatClampNeg) 0) ((1 : Int32).toNatClampNeg) 0) ((2 : Int32).toNatClampNeg) 0) ((2 : Int32).toNatClampNeg) ((p1 - p1 / 10 * 10).toInt64)))))] := hD
  refine lv_iload hx hb dX5_append_48 (lv_at hl 1 rfl) ?_
  refine lv_bipush (v := 10) hx hb dX5_append_50 (by decide +kernel) ?_
  refine lv_idiv hx hb dX5_append_52 (by decide +kernel) ?_
  refine lv_istore (lv' := [(4, .int (p1 / 10)), (5, .int 2), (3, .int 0), (0, .ref h0), (1, .int p1), (2, .int 3)]) hx hb dX5_append_53 hl (by decide) rfl ?_
  clear hl
  clear ls
  intro ls hl
  refine lv_iinc (v := 1) (lv' := [(5, .int 1), (4, .int (p1 / 10)), (3, .int 0), (0, .ref h0), (1, .int p1), (2, .int 3)]) hx hb dX5_append_55 hl (k := 1) rfl (by decide +kernel) (by decide) rfl ?_
  clear hl
  clear ls
  intro ls hl
  refine lv_goto (tgt := 27) hx hb dX5_append_58 (by decide) ?_
  refine lv_iload hx hb dX5_append_27 (lv_at hl 0 rfl) ?_
  refine lv_iload_n hx hb dX5_append_29 rfl (lv_at hl 2 rfl) ?_
  refine lv_icmp_lt (tgt := 61) hx hb dX5_append_30 (by decide) (fun c9 => absurd c9 (by decide +kernel)) (fun _ => ?_)
  refine lv_aload_n hx hb dX5_append_33 rfl (lv_at hl 3 rfl) ?_
  refine gm_get (D := D) (ci := 5) (v := .ref h2) (C := RX5) (T := TX5) (N := 5) hx hb hg inlX5 hown hK.1 hP 0 rfl rfl 0 (by decide) tX5_0 (hg _ gw_138) rfl dX5_append_34 ?_
  refine lv_iload hx hb dX5_append_37 (lv_at hl 0 rfl) ?_
  refine lv_iload hx hb dX5_append_39 (lv_at hl 1 rfl) ?_
  refine lv_bipush (v := 10) hx hb dX5_append_41 (by decide +kernel) ?_
  refine lv_irem hx hb dX5_append_43 (by decide +kernel) ?_
  refine lv_i2l (v := (((p1 / 10) - (p1 / 10) / 10 * 10).toInt64)) hx hb dX5_append_44 rfl ?_
  refine g_av (wr := [(h0, .inr (5, [.ref h2, .ref h3, .ref h4, .ref h5, .int 0])), (h3, .inr (8, [.ref h8, .int wp4100249])), (h8, .inl (y 1, 200, .inr (.inl wf4100250))), (h5, .inr (8, [.ref h11, .int wp4100251])), (h11, .inl (y 1, 3, .inr (.inl (fun _ => 0))))]) (va_runV (As := [.int 1, .long (((p1 / 10) - (p1 / 10) / 10 * 10).toInt64)]) (rest := []) ⟨hx, hb, hml, hown, hg⟩ (k_X8_set_46 l D y aS H.size h2 (((p1 / 10) - (p1 / 10) / 10 * 10).toInt64) h6 3 (vp_updL (vp_updL (vp_updL (vp_updL wf4100248 ((0 : Int32).toNatClampNeg) 0) ((1 : Int32).toNatClampNeg) 0) ((2 : Int32).toNatClampNeg) 0) ((2 : Int32).toNatClampNeg) ((p1 - p1 / 10 * 10).toInt64))) (cwV 2 hg ggV_RX5_29_X8_set rfl rfl rfl (by decide +kernel) ⟨Nat.le_of_ble_eq_true rfl, Nat.le_of_ble_eq_true rfl⟩) (g_preV (q := (RX8, TX8, 2)) hK hP hD [5, 6] rfl (by decide) (ci := 8) (q0 := 5) rfl rfl) rfl rfl hl.1 rfl (lv_room (Nat.le_of_ble_eq_true rfl)) dX5_append_45 ⟨Nat.le_of_ble_eq_true rfl, Nat.le_of_ble_eq_true rfl⟩) hP hD hS hA [5, 6] [0, 1, 2, 3, 4] rfl rfl (by decide) (by decide) ?_
  clear hP hD hS H locs
  refine fun u H locs hq hP hD hS => ?_
  replace hP : va_P D vwCl [(h0, .inr (5, [.ref h2, .ref h3, .ref h4, .ref h5, .int 0])), (h3, .inr (8, [.ref h8, .int wp4100249])), (h8, .inl (y 1, 200, .inr (.inl wf4100250))), (h5, .inr (8, [.ref h11, .int wp4100251])), (h11, .inl (y 1, 3, .inr (.inl (fun _ => 0)))), (h2, .inr (8, [.ref h6, .int 3])), (h6, .inl (y 1, 200, .inr (.inl (vp_updL (vp_updL (vp_updL (vp_updL (vp_updL wf4100248 ((0 : Int32).toNatClampNeg) 0) ((1 : Int32).toNatClampNeg) 0) ((2 : Int32).toNatClampNeg) 0) ((2 : Int32).toNatClampNeg) ((p1 - p1 / 10 * 10).toInt64)) ((1 : Int32).toNatClampNeg) (((p1 / 10) - (p1 / 10) / 10 * 10).toInt64)))))] H := hP
  replace hD : va_D A [(h0, .inr (5, [.ref h2, .ref h3, .ref h4, .ref h5, .int 0])), (h3, .inr (8, [.ref h8, .int wp4100249])), (h8, .inl (y 1, 200, .inr (.inl wf4100250))), (h5, .inr (8, [.ref h11, .int wp4100251])), (h11, .inl (y 1, 3, .inr (.inl (fun _ => 0)))), (h2, .inr (8, [.ref h6, .int 3])), (h6, .inl (y 1, 200, .inr (.inl (vp_updL (vp_updL (vp_updL (vp_updL (vp_updL wf4100248 ((0 : Int32).toNatClampNeg) 0) ((1 : Int32).toNatClampNeg) 0) ((2 : Int32).toNatClampNeg) 0) ((2 : Int32).toNatClampNeg) ((p1 - p1 / 10 * 10).toInt64)) ((1 : Int32).toNatClampNeg) (((p1 / 10) - (p1 / 10) / 10 * 10).toInt64)))))] := hD
  refine lv_iload hx hb dX5_append_48 (lv_at hl 1 rfl) ?_
  refine lv_bipush (v := 10) hx hb dX5_append_50 (by decide +kernel) ?_
  refine lv_idiv hx hb dX5_append_52 (by decide +kernel) ?_
  refine lv_istore (lv' := [(4, .int ((p1 / 10) / 10)), (5, .int 1), (3, .int 0), (0, .ref h0), (1, .int p1), (2, .int 3)]) hx hb dX5_append_53 hl (by decide) rfl ?_
  clear hl
  clear ls
  intro ls hl
  refine lv_iinc (v := 0) (lv' := [(5, .int 0), (4, .int ((p1 / 10) / 10)), (3, .int 0), (0, .ref h0), (1, .int p1), (2, .int 3)]) hx hb dX5_append_55 hl (k := 1) rfl (by decide +kernel) (by decide) rfl ?_
  clear hl
  clear ls
  intro ls hl
  refine lv_goto (tgt := 27) hx hb dX5_append_58 (by decide) ?_
  refine lv_iload hx hb dX5_append_27 (lv_at hl 0 rfl) ?_
  refine lv_iload_n hx hb dX5_append_29 rfl (lv_at hl 2 rfl) ?_
  refine lv_icmp_lt (tgt := 61) hx hb dX5_append_30 (by decide) (fun c9 => absurd c9 (by decide +kernel)) (fun _ => ?_)
  refine lv_aload_n hx hb dX5_append_33 rfl (lv_at hl 3 rfl) ?_
  refine gm_get (D := D) (ci := 5) (v := .ref h2) (C := RX5) (T := TX5) (N := 5) hx hb hg inlX5 hown hK.1 hP 0 rfl rfl 0 (by decide) tX5_0 (hg _ gw_138) rfl dX5_append_34 ?_
  refine lv_iload hx hb dX5_append_37 (lv_at hl 0 rfl) ?_
  refine lv_iload hx hb dX5_append_39 (lv_at hl 1 rfl) ?_
  refine lv_bipush (v := 10) hx hb dX5_append_41 (by decide +kernel) ?_
  refine lv_irem hx hb dX5_append_43 (by decide +kernel) ?_
  refine lv_i2l (v := ((((p1 / 10) / 10) - ((p1 / 10) / 10) / 10 * 10).toInt64)) hx hb dX5_append_44 rfl ?_
  refine g_av (wr := [(h0, .inr (5, [.ref h2, .ref h3, .ref h4, .ref h5, .int 0])), (h3, .inr (8, [.ref h8, .int wp4100249])), (h8, .inl (y 1, 200, .inr (.inl wf4100250))), (h5, .inr (8, [.ref h11, .int wp4100251])), (h11, .inl (y 1, 3, .inr (.inl (fun _ => 0))))]) (va_runV (As := [.int 0, .long ((((p1 / 10) / 10) - ((p1 / 10) / 10) / 10 * 10).toInt64)]) (rest := []) ⟨hx, hb, hml, hown, hg⟩ (k_X8_set_45 l D y aS H.size h2 ((((p1 / 10) / 10) - ((p1 / 10) / 10) / 10 * 10).toInt64) h6 3 (vp_updL (vp_updL (vp_updL (vp_updL (vp_updL wf4100248 ((0 : Int32).toNatClampNeg) 0) ((1 : Int32).toNatClampNeg) 0) ((2 : Int32).toNatClampNeg) 0) ((2 : Int32).toNatClampNeg) ((p1 - p1 / 10 * 10).toInt64)) ((1 : Int32).toNatClampNeg) (((p1 / 10) - (p1 / 10) / 10 * 10).toInt64))) (cwV 2 hg ggV_RX5_29_X8_set rfl rfl rfl (by decide +kernel) ⟨Nat.le_of_ble_eq_true rfl, Nat.le_of_ble_eq_true rfl⟩) (g_preV (q := (RX8, TX8, 2)) hK hP hD [5, 6] rfl (by decide) (ci := 8) (q0 := 5) rfl rfl) rfl rfl hl.1 rfl (lv_room (Nat.le_of_ble_eq_true rfl)) dX5_append_45 ⟨Nat.le_of_ble_eq_true rfl, Nat.le_of_ble_eq_true rfl⟩) hP hD hS hA [5, 6] [0, 1, 2, 3, 4] rfl rfl (by decide) (by decide) ?_
  clear hP hD hS H locs
  refine fun u H locs hq hP hD hS => ?_
  replace hP : va_P D vwCl [(h0, .inr (5, [.ref h2, .ref h3, .ref h4, .ref h5, .int 0])), (h3, .inr (8, [.ref h8, .int wp4100249])), (h8, .inl (y 1, 200, .inr (.inl wf4100250))), (h5, .inr (8, [.ref h11, .int wp4100251])), (h11, .inl (y 1, 3, .inr (.inl (fun _ => 0)))), (h2, .inr (8, [.ref h6, .int 3])), (h6, .inl (y 1, 200, .inr (.inl (vp_updL (vp_updL (vp_updL (vp_updL (vp_updL (vp_updL wf4100248 ((0 : Int32).toNatClampNeg) 0) ((1 : Int32).toNatClampNeg) 0) ((2 : Int32).toNatClampNeg) 0) ((2 : Int32).toNatClampNeg) ((p1 - p1 / 10 * 10).toInt64)) ((1 : Int32).toNatClampNeg) (((p1 / 10) - (p1 / 10) / 10 * 10).toInt64)) ((0 : Int32).toNatClampNeg) ((((p1 / 10) / 10) - ((p1 / 10) / 10) / 10 * 10).toInt64)))))] H := hP
  replace hD : va_D A [(h0, .inr (5, [.ref h2, .ref h3, .ref h4, .ref h5, .int 0])), (h3, .inr (8, [.ref h8, .int wp4100249])), (h8, .inl (y 1, 200, .inr (.inl wf4100250))), (h5, .inr (8, [.ref h11, .int wp4100251])), (h11, .inl (y 1, 3, .inr (.inl (fun _ => 0)))), (h2, .inr (8, [.ref h6, .int 3])), (h6, .inl (y 1, 200, .inr (.inl (vp_updL (vp_updL (vp_updL (vp_updL (vp_updL (vp_updL wf4100248 ((0 : Int32).toNatClampNeg) 0) ((1 : Int32).toNatClampNeg) 0) ((2 : Int32).toNatClampNeg) 0) ((2 : Int32).toNatClampNeg) ((p1 - p1 / 10 * 10).toInt64)) ((1 : Int32).toNatClampNeg) (((p1 / 10) - (p1 / 10) / 10 * 10).toInt64)) ((0 : Int32).toNatClampNeg) ((((p1 / 10) / 10) - ((p1 / 10) / 10) / 10 * 10).toInt64)))))] := hD
  refine lv_iload hx hb dX5_append_48 (lv_at hl 1 rfl) ?_
  refine lv_bipush (v := 10) hx hb dX5_append_50 (by decide +kernel) ?_
  refine lv_idiv hx hb dX5_append_52 (by decide +kernel) ?_
  refine lv_istore (lv' := [(4, .int (((p1 / 10) / 10) / 10)), (5, .int 0), (3, .int 0), (0, .ref h0), (1, .int p1), (2, .int 3)]) hx hb dX5_append_53 hl (by decide) rfl ?_
  clear hl
  clear ls
  intro ls hl
  refine lv_iinc (v := (-1)) (lv' := [(5, .int (-1)), (4, .int (((p1 / 10) / 10) / 10)), (3, .int 0), (0, .ref h0), (1, .int p1), (2, .int 3)]) hx hb dX5_append_55 hl (k := 1) rfl (by decide +kernel) (by decide) rfl ?_
  clear hl
  clear ls
  intro ls hl
  refine lv_goto (tgt := 27) hx hb dX5_append_58 (by decide) ?_
  refine lv_iload hx hb dX5_append_27 (lv_at hl 0 rfl) ?_
  refine lv_iload_n hx hb dX5_append_29 rfl (lv_at hl 2 rfl) ?_
  refine lv_icmp_lt (tgt := 61) hx hb dX5_append_30 (by decide) (fun _ => ?_) (fun c9 => absurd c9 (by decide +kernel))
  refine lv_aload_n hx hb dX5_append_61 rfl (lv_at hl 3 rfl) ?_
  refine g_av (wr := [(h6, .inl (y 1, 200, .inr (.inl (vp_updL (vp_updL (vp_updL (vp_updL (vp_updL (vp_updL wf4100248 ((0 : Int32).toNatClampNeg) 0) ((1 : Int32).toNatClampNeg) 0) ((2 : Int32).toNatClampNeg) 0) ((2 : Int32).toNatClampNeg) ((p1 - p1 / 10 * 10).toInt64)) ((1 : Int32).toNatClampNeg) (((p1 / 10) - (p1 / 10) / 10 * 10).toInt64)) ((0 : Int32).toNatClampNeg) ((((p1 / 10) / 10) - ((p1 / 10) / 10) / 10 * 10).toInt64)))))]) (va_runV (As := []) (rest := []) ⟨hx, hb, hml, hown, hg⟩ (k_X5_findOut_3 l D y aS H.size h0 h2 h3 h4 h5 0 h6 h8 wp4100249 wf4100250 h11 wp4100251) (cwV 0 hg ggV_RX5_33_X5_findOut rfl rfl rfl (by decide +kernel) ⟨Nat.le_of_ble_eq_true rfl, Nat.le_of_ble_eq_true rfl⟩) (g_preV (q := (RX5, TX5, 5)) hK hP hD [0, 5, 1, 2, 3, 4] rfl (by decide) (ci := 5) (q0 := 0) rfl rfl) rfl rfl hl.1 rfl (lv_room (Nat.le_of_ble_eq_true rfl)) dX5_append_62 ⟨Nat.le_of_ble_eq_true rfl, Nat.le_of_ble_eq_true rfl⟩) hP hD hS hA [0, 5, 1, 2, 3, 4] [6] rfl rfl (by decide) (by decide) ?_
  clear hP hD hS H locs
  refine fun u H locs hq hP hD hS => ?_
  replace hP : va_P D vwCl [(h6, .inl (y 1, 200, .inr (.inl (vp_updL (vp_updL (vp_updL (vp_updL (vp_updL (vp_updL wf4100248 ((0 : Int32).toNatClampNeg) 0) ((1 : Int32).toNatClampNeg) 0) ((2 : Int32).toNatClampNeg) 0) ((2 : Int32).toNatClampNeg) ((p1 - p1 / 10 * 10).toInt64)) ((1 : Int32).toNatClampNeg) (((p1 / 10) - (p1 / 10) / 10 * 10).toInt64)) ((0 : Int32).toNatClampNeg) ((((p1 / 10) / 10) - ((p1 / 10) / 10) / 10 * 10).toInt64))))), (h0, .inr (5, [.ref h2, .ref h3, .ref h4, .ref h5, .int 3])), (h2, .inr (8, [.ref h6, .int 3])), (h3, .inr (8, [.ref h8, .int wp4100249])), (h8, .inl (y 1, 200, .inr (.inl (vp_updL (vp_updL (vp_updL wf4100250 ((0 : Int32).toNatClampNeg) 0) ((1 : Int32).toNatClampNeg) 0) ((2 : Int32).toNatClampNeg) 0)))), (h5, .inr (8, [.ref h11, .int wp4100251])), (h11, .inl (y 1, 3, .inr (.inl (fun _ => 0))))] H := hP
  replace hD : va_D A [(h6, .inl (y 1, 200, .inr (.inl (vp_updL (vp_updL (vp_updL (vp_updL (vp_updL (vp_updL wf4100248 ((0 : Int32).toNatClampNeg) 0) ((1 : Int32).toNatClampNeg) 0) ((2 : Int32).toNatClampNeg) 0) ((2 : Int32).toNatClampNeg) ((p1 - p1 / 10 * 10).toInt64)) ((1 : Int32).toNatClampNeg) (((p1 / 10) - (p1 / 10) / 10 * 10).toInt64)) ((0 : Int32).toNatClampNeg) ((((p1 / 10) / 10) - ((p1 / 10) / 10) / 10 * 10).toInt64))))), (h0, .inr (5, [.ref h2, .ref h3, .ref h4, .ref h5, .int 3])), (h2, .inr (8, [.ref h6, .int 3])), (h3, .inr (8, [.ref h8, .int wp4100249])), (h8, .inl (y 1, 200, .inr (.inl (vp_updL (vp_updL (vp_updL wf4100250 ((0 : Int32).toNatClampNeg) 0) ((1 : Int32).toNatClampNeg) 0) ((2 : Int32).toNatClampNeg) 0)))), (h5, .inr (8, [.ref h11, .int wp4100251])), (h11, .inl (y 1, 3, .inr (.inl (fun _ => 0))))] := hD
  refine lv_aload_n hx hb dX5_append_65 rfl (lv_at hl 3 rfl) ?_
  refine gm_get (D := D) (ci := 5) (v := .int 3) (C := RX5) (T := TX5) (N := 5) hx hb hg inlX5 hown hK.1 hP 1 rfl rfl 4 (by decide) tX5_4 (hg _ gw_1442) rfl dX5_append_66 ?_
  exact g_iret hx hb hr hlocks () (hP.sub [1, 2, 0, 3, 4, 5, 6] rfl) (hD.sub [1, 2, 0, 3, 4, 5, 6] (by decide +kernel) rfl) hS rfl rfl (Nat.le_of_ble_eq_true rfl) (Nat.le_of_ble_eq_true rfl) dX5_append_69
set_option maxRecDepth 100000 in
set_option maxHeartbeats 4000000 in
theorem k_X8_add_31 (l : Launch) (D : va_G) (y : Nat → ClassId) (aS : Nat → Nat) (sz : Nat) (h0 : Nat) (h1 : Nat) (wf4100265 : Nat → Int64) : Met l yX8_add (Cond.code yX8_add cX8_add 3 none :: wsL_law) ({ frames := 0, cells := 0, slots := 0, locals := 0 } : Room) (va_Pc [.ref h0, .long 0] (gI D y aS [(h0, .inr (8, [.ref h1, .int 3])), (h1, .inl (y 1, 200, .inr (.inl wf4100265)))] sz)) (va_Qv (fun (u : Unit) => True) (fun u => gO D (va_A [(h0, .inr (8, [.ref h1, .int 3])), (h1, .inl (y 1, 200, .inr (.inl wf4100265)))] sz) [(h0, .inr (8, [.ref h1, .int 4])), (h1, .inl (y 1, 200, .inr (.inl (vp_updL wf4100265 ((3 : Int32).toNatClampNeg) 0))))]) (va_A [(h0, .inr (8, [.ref h1, .int 3])), (h1, .inl (y 1, 200, .inr (.inl wf4100265)))] sz)) 0 0 (va_A [(h0, .inr (8, [.ref h1, .int 3])), (h1, .inl (y 1, 200, .inr (.inl wf4100265)))] sz) := by
  refine g_of (by decide) (Nat.le_of_ble_eq_true rfl) ?_
  intro p e s m below meth c ls A hx hb hr hml hown hg hlocks hin hsz hK hP hD hS hA hAe hl
  rw [← hAe]
  replace hown : s.vm.findClass RX8 = some m.cls := hown
  replace hl : lv_has ls 3 [(0, .ref h0), (1, .long 0)] := hl
  refine lv_aload_n hx hb dX8_add_0 rfl (lv_at hl 0 rfl) ?_
  refine gm_get (D := D) (ci := 8) (v := .int 3) (C := RX8) (T := TX8) (N := 2) hx hb hg inlX8 hown hK.1 hP 0 rfl rfl 1 (by decide) tX8_1 (hg _ gw_155) rfl dX8_add_1 ?_
  refine lv_if_lt (tgt := 39) hx hb dX8_add_4 (by decide) (fun c9 => absurd c9 (by decide +kernel)) (fun _ => ?_)
  refine lv_aload_n hx hb dX8_add_7 rfl (lv_at hl 0 rfl) ?_
  refine gm_get (D := D) (ci := 8) (v := .int 3) (C := RX8) (T := TX8) (N := 2) hx hb hg inlX8 hown hK.1 hP 0 rfl rfl 1 (by decide) tX8_1 (hg _ gw_155) rfl dX8_add_8 ?_
  refine lv_aload_n hx hb dX8_add_11 rfl (lv_at hl 0 rfl) ?_
  refine gm_get (D := D) (ci := 8) (v := .ref h1) (C := RX8) (T := TX8) (N := 2) hx hb hg inlX8 hown hK.1 hP 0 rfl rfl 0 (by decide) tX8_0 (hg _ gw_98) rfl dX8_add_12 ?_
  refine va_alen hx hb hK.1 hP 1 1 rfl rfl (v := 200) rfl dX8_add_15 ?_
  refine lv_icmp_ge (tgt := 39) hx hb dX8_add_16 (by decide) (fun c9 => absurd c9 (by decide +kernel)) (fun _ => ?_)
  refine lv_aload_n hx hb dX8_add_19 rfl (lv_at hl 0 rfl) ?_
  refine gm_get (D := D) (ci := 8) (v := .ref h1) (C := RX8) (T := TX8) (N := 2) hx hb hg inlX8 hown hK.1 hP 0 rfl rfl 0 (by decide) tX8_0 (hg _ gw_98) rfl dX8_add_20 ?_
  refine lv_aload_n hx hb dX8_add_23 rfl (lv_at hl 0 rfl) ?_
  refine gm_get (D := D) (ci := 8) (v := .int 3) (C := RX8) (T := TX8) (N := 2) hx hb hg inlX8 hown hK.1 hP 0 rfl rfl 1 (by decide) tX8_1 (hg _ gw_155) rfl dX8_add_24 ?_
  refine lv_lload_n hx hb dX8_add_27 rfl (lv_at hl 1 rfl) ?_
  refine va_last hx hb hK.1 hP hD hS 1 1 rfl rfl (by unfold vp_in; decide +kernel) dX8_add_28 ?_
  clear hP hD hS
  refine fun H locs (hP : va_P D vwCl [(h0, .inr (8, [.ref h1, .int 3])), (h1, .inl (y 1, 200, .inr (.inl (vp_updL wf4100265 ((3 : Int32).toNatClampNeg) 0))))] H) (hD : va_D A [(h0, .inr (8, [.ref h1, .int 3])), (h1, .inl (y 1, 200, .inr (.inl (vp_updL wf4100265 ((3 : Int32).toNatClampNeg) 0))))]) hS => ?_
  refine lv_aload_n hx hb dX8_add_29 rfl (lv_at hl 0 rfl) ?_
  refine lv_dup hx hb dX8_add_30 rfl ?_
  refine gm_get (D := D) (ci := 8) (v := .int 3) (C := RX8) (T := TX8) (N := 2) hx hb hg inlX8 hown hK.1 hP 0 rfl rfl 1 (by decide) tX8_1 (hg _ gw_155) rfl dX8_add_31 ?_
  refine lv_iconst (v := 1) hx hb dX8_add_34 (by decide) ?_
  refine lv_iadd hx hb dX8_add_35 ?_
  refine g_fi (v := 4) (by decide +kernel) ?_
  refine gm_put (D := D) (ci := 8) (v := .int 4) (ty := .int) (C := RX8) (T := TX8) (N := 2) hx hb hg inlX8 tyX8 tyX8_ok nmX8 hown hK.1 hP hD hS 0 rfl rfl 1 (by decide) tX8_1 (hg _ gw_155) (by decide +kernel) rfl rfl (Nat.le_of_ble_eq_true rfl) dX8_add_36 ?_
  clear hP hD hS H locs
  refine fun H locs (hP : va_P D vwCl [(h0, .inr (8, [.ref h1, .int 4])), (h1, .inl (y 1, 200, .inr (.inl (vp_updL wf4100265 ((3 : Int32).toNatClampNeg) 0))))] H) (hD : va_D A [(h0, .inr (8, [.ref h1, .int 4])), (h1, .inl (y 1, 200, .inr (.inl (vp_updL wf4100265 ((3 : Int32).toNatClampNeg) 0))))]) hS => ?_
  exact g_vret hx hb hr hlocks () hP hD hS trivial (Nat.le_of_ble_eq_true rfl) (Nat.le_of_ble_eq_true rfl) dX8_add_39
set_option maxRecDepth 100000 in
set_option maxHeartbeats 4000000 in
theorem k_X8_addMany_7 (l : Launch) (D : va_G) (y : Nat → ClassId) (aS : Nat → Nat) (sz : Nat) (h0 : Nat) (h1 : Nat) (wf4100267 : Nat → Int64) : Met l yX8_addMany (Cond.code yX8_addMany cX8_addMany 5 none :: wsL_law) ({ frames := 1, cells := 0, slots := 0, locals := 22 } : Room) (va_Pc [.ref h0, .int 4, .long 0] (gI D y aS [(h0, .inr (8, [.ref h1, .int 0])), (h1, .inl (y 1, 200, .inr (.inl wf4100267)))] sz)) (va_Qv (fun (u : Unit) => True) (fun u => gO D (va_A [(h0, .inr (8, [.ref h1, .int 0])), (h1, .inl (y 1, 200, .inr (.inl wf4100267)))] sz) [(h0, .inr (8, [.ref h1, .int 4])), (h1, .inl (y 1, 200, .inr (.inl (vp_updL (vp_updL (vp_updL (vp_updL wf4100267 ((0 : Int32).toNatClampNeg) 0) ((1 : Int32).toNatClampNeg) 0) ((2 : Int32).toNatClampNeg) 0) ((3 : Int32).toNatClampNeg) 0))))]) (va_A [(h0, .inr (8, [.ref h1, .int 0])), (h1, .inl (y 1, 200, .inr (.inl wf4100267)))] sz)) 0 0 (va_A [(h0, .inr (8, [.ref h1, .int 0])), (h1, .inl (y 1, 200, .inr (.inl wf4100267)))] sz) := by
  refine g_of (by decide) (Nat.le_of_ble_eq_true rfl) ?_
  intro p e s m below meth c ls A hx hb hr hml hown hg hlocks hin hsz hK hP hD hS hA hAe hl
  rw [← hAe]
  replace hown : s.vm.findClass RX8 = some m.cls := hown
  replace hl : lv_has ls 5 [(0, .ref h0), (1, .int 4), (2, .long 0)] := hl
  refine lv_iconst (v := 0) hx hb dX8_addMany_0 (by decide) ?_
  refine lv_istore (lv' := [(4, .int 0), (0, .ref h0), (1, .int 4), (2, .long 0)]) hx hb dX8_addMany_1 hl (by decide) rfl ?_
  clear hl
  clear ls
  intro ls hl
  refine lv_iload hx hb dX8_addMany_3 (lv_at hl 0 rfl) ?_
  refine lv_iload_n hx hb dX8_addMany_5 rfl (lv_at hl 2 rfl) ?_
  refine lv_icmp_ge (tgt := 30) hx hb dX8_addMany_6 (by decide) (fun c9 => absurd c9 (by decide +kernel)) (fun _ => ?_)
  refine lv_iload hx hb dX8_addMany_9 (lv_at hl 0 rfl) ?_
  refine lv_aload_n hx hb dX8_addMany_11 rfl (lv_at hl 1 rfl) ?_
  refine gm_get (D := D) (ci := 8) (v := .ref h1) (C := RX8) (T := TX8) (N := 2) hx hb hg inlX8 hown hK.1 hP 0 rfl rfl 0 (by decide) tX8_0 (hg _ gw_98) rfl dX8_addMany_12 ?_
  refine va_alen hx hb hK.1 hP 1 1 rfl rfl (v := 200) rfl dX8_addMany_15 ?_
  refine lv_icmp_ge (tgt := 30) hx hb dX8_addMany_16 (by decide) (fun c9 => absurd c9 (by decide +kernel)) (fun _ => ?_)
  refine lv_aload_n hx hb dX8_addMany_19 rfl (lv_at hl 1 rfl) ?_
  refine lv_lload_n hx hb dX8_addMany_20 rfl (lv_at hl 3 rfl) ?_
  refine g_av (wr := []) (va_runV (As := [.long 0]) (rest := []) ⟨hx, hb, hml, hown, hg⟩ (k_X8_add_28 l D y aS s.heap.size h0 h1 wf4100267) (cwV 1 hg ghV_RX8_19_X8_add rfl rfl rfl (by decide +kernel) ⟨Nat.le_of_ble_eq_true rfl, Nat.le_of_ble_eq_true rfl⟩) (g_preV (q := (RX8, TX8, 2)) hK hP hD [0, 1] rfl (by decide) (ci := 8) (q0 := 0) rfl rfl) rfl rfl hl.1 rfl (lv_room (Nat.le_of_ble_eq_true rfl)) dX8_addMany_21 ⟨Nat.le_of_ble_eq_true rfl, Nat.le_of_ble_eq_true rfl⟩) hP hD hS hA [0, 1] [] rfl rfl (by decide) (by decide) ?_
  clear hP hD hS
  refine fun u H locs hq hP hD hS => ?_
  replace hP : va_P D vwCl [(h0, .inr (8, [.ref h1, .int 1])), (h1, .inl (y 1, 200, .inr (.inl (vp_updL wf4100267 ((0 : Int32).toNatClampNeg) 0))))] H := hP
  replace hD : va_D A [(h0, .inr (8, [.ref h1, .int 1])), (h1, .inl (y 1, 200, .inr (.inl (vp_updL wf4100267 ((0 : Int32).toNatClampNeg) 0))))] := hD
  refine lv_iinc (v := 1) (lv' := [(4, .int 1), (0, .ref h0), (1, .int 4), (2, .long 0)]) hx hb dX8_addMany_24 hl (k := 0) rfl (by decide +kernel) (by decide) rfl ?_
  clear hl
  clear ls
  intro ls hl
  refine lv_goto (tgt := 3) hx hb dX8_addMany_27 (by decide) ?_
  refine lv_iload hx hb dX8_addMany_3 (lv_at hl 0 rfl) ?_
  refine lv_iload_n hx hb dX8_addMany_5 rfl (lv_at hl 2 rfl) ?_
  refine lv_icmp_ge (tgt := 30) hx hb dX8_addMany_6 (by decide) (fun c9 => absurd c9 (by decide +kernel)) (fun _ => ?_)
  refine lv_iload hx hb dX8_addMany_9 (lv_at hl 0 rfl) ?_
  refine lv_aload_n hx hb dX8_addMany_11 rfl (lv_at hl 1 rfl) ?_
  refine gm_get (D := D) (ci := 8) (v := .ref h1) (C := RX8) (T := TX8) (N := 2) hx hb hg inlX8 hown hK.1 hP 0 rfl rfl 0 (by decide) tX8_0 (hg _ gw_98) rfl dX8_addMany_12 ?_
  refine va_alen hx hb hK.1 hP 1 1 rfl rfl (v := 200) rfl dX8_addMany_15 ?_
  refine lv_icmp_ge (tgt := 30) hx hb dX8_addMany_16 (by decide) (fun c9 => absurd c9 (by decide +kernel)) (fun _ => ?_)
  refine lv_aload_n hx hb dX8_addMany_19 rfl (lv_at hl 1 rfl) ?_
  refine lv_lload_n hx hb dX8_addMany_20 rfl (lv_at hl 3 rfl) ?_
  refine g_av (wr := []) (va_runV (As := [.long 0]) (rest := []) ⟨hx, hb, hml, hown, hg⟩ (k_X8_add_29 l D y aS H.size h0 h1 (vp_updL wf4100267 ((0 : Int32).toNatClampNeg) 0)) (cwV 1 hg ghV_RX8_19_X8_add rfl rfl rfl (by decide +kernel) ⟨Nat.le_of_ble_eq_true rfl, Nat.le_of_ble_eq_true rfl⟩) (g_preV (q := (RX8, TX8, 2)) hK hP hD [0, 1] rfl (by decide) (ci := 8) (q0 := 0) rfl rfl) rfl rfl hl.1 rfl (lv_room (Nat.le_of_ble_eq_true rfl)) dX8_addMany_21 ⟨Nat.le_of_ble_eq_true rfl, Nat.le_of_ble_eq_true rfl⟩) hP hD hS hA [0, 1] [] rfl rfl (by decide) (by decide) ?_
  clear hP hD hS H locs
  refine fun u H locs hq hP hD hS => ?_
  replace hP : va_P D vwCl [(h0, .inr (8, [.ref h1, .int 2])), (h1, .inl (y 1, 200, .inr (.inl (vp_updL (vp_updL wf4100267 ((0 : Int32).toNatClampNeg) 0) ((1 : Int32).toNatClampNeg) 0))))] H := hP
  replace hD : va_D A [(h0, .inr (8, [.ref h1, .int 2])), (h1, .inl (y 1, 200, .inr (.inl (vp_updL (vp_updL wf4100267 ((0 : Int32).toNatClampNeg) 0) ((1 : Int32).toNatClampNeg) 0))))] := hD
  refine lv_iinc (v := 2) (lv' := [(4, .int 2), (0, .ref h0), (1, .int 4), (2, .long 0)]) hx hb dX8_addMany_24 hl (k := 0) rfl (by decide +kernel) (by decide) rfl ?_
  clear hl
  clear ls
  intro ls hl
  refine lv_goto (tgt := 3) hx hb dX8_addMany_27 (by decide) ?_
  refine lv_iload hx hb dX8_addMany_3 (lv_at hl 0 rfl) ?_
  refine lv_iload_n hx hb dX8_addMany_5 rfl (lv_at hl 2 rfl) ?_
  refine lv_icmp_ge (tgt := 30) hx hb dX8_addMany_6 (by decide) (fun c9 => absurd c9 (by decide +kernel)) (fun _ => ?_)
  refine lv_iload hx hb dX8_addMany_9 (lv_at hl 0 rfl) ?_
  refine lv_aload_n hx hb dX8_addMany_11 rfl (lv_at hl 1 rfl) ?_
  refine gm_get (D := D) (ci := 8) (v := .ref h1) (C := RX8) (T := TX8) (N := 2) hx hb hg inlX8 hown hK.1 hP 0 rfl rfl 0 (by decide) tX8_0 (hg _ gw_98) rfl dX8_addMany_12 ?_
  refine va_alen hx hb hK.1 hP 1 1 rfl rfl (v := 200) rfl dX8_addMany_15 ?_
  refine lv_icmp_ge (tgt := 30) hx hb dX8_addMany_16 (by decide) (fun c9 => absurd c9 (by decide +kernel)) (fun _ => ?_)
  refine lv_aload_n hx hb dX8_addMany_19 rfl (lv_at hl 1 rfl) ?_
  refine lv_lload_n hx hb dX8_addMany_20 rfl (lv_at hl 3 rfl) ?_
  refine g_av (wr := []) (va_runV (As := [.long 0]) (rest := []) ⟨hx, hb, hml, hown, hg⟩ (k_X8_add_30 l D y aS H.size h0 h1 (vp_updL (vp_updL wf4100267 ((0 : Int32).toNatClampNeg) 0) ((1 : Int32).toNatClampNeg) 0)) (cwV 1 hg ghV_RX8_19_X8_add rfl rfl rfl (by decide +kernel) ⟨Nat.le_of_ble_eq_true rfl, Nat.le_of_ble_eq_true rfl⟩) (g_preV (q := (RX8, TX8, 2)) hK hP hD [0, 1] rfl (by decide) (ci := 8) (q0 := 0) rfl rfl) rfl rfl hl.1 rfl (lv_room (Nat.le_of_ble_eq_true rfl)) dX8_addMany_21 ⟨Nat.le_of_ble_eq_true rfl, Nat.le_of_ble_eq_true rfl⟩) hP hD hS hA [0, 1] [] rfl rfl (by decide) (by decide) ?_
  clear hP hD hS H locs
  refine fun u H locs hq hP hD hS => ?_
  replace hP : va_P D vwCl [(h0, .inr (8, [.ref h1, .int 3])), (h1, .inl (y 1, 200, .inr (.inl (vp_updL (vp_updL (vp_updL wf4100267 ((0 : Int32).toNatClampNeg) 0) ((1 : Int32).toNatClampNeg) 0) ((2 : Int32).toNatClampNeg) 0))))] H := hP
  replace hD : va_D A [(h0, .inr (8, [.ref h1, .int 3])), (h1, .inl (y 1, 200, .inr (.inl (vp_updL (vp_updL (vp_updL wf4100267 ((0 : Int32).toNatClampNeg) 0) ((1 : Int32).toNatClampNeg) 0) ((2 : Int32).toNatClampNeg) 0))))] := hD
  refine lv_iinc (v := 3) (lv' := [(4, .int 3), (0, .ref h0), (1, .int 4), (2, .long 0)]) hx hb dX8_addMany_24 hl (k := 0) rfl (by decide +kernel) (by decide) rfl ?_
  clear hl
  clear ls
  intro ls hl
  refine lv_goto (tgt := 3) hx hb dX8_addMany_27 (by decide) ?_
  refine lv_iload hx hb dX8_addMany_3 (lv_at hl 0 rfl) ?_
  refine lv_iload_n hx hb dX8_addMany_5 rfl (lv_at hl 2 rfl) ?_
  refine lv_icmp_ge (tgt := 30) hx hb dX8_addMany_6 (by decide) (fun c9 => absurd c9 (by decide +kernel)) (fun _ => ?_)
  refine lv_iload hx hb dX8_addMany_9 (lv_at hl 0 rfl) ?_
  refine lv_aload_n hx hb dX8_addMany_11 rfl (lv_at hl 1 rfl) ?_
  refine gm_get (D := D) (ci := 8) (v := .ref h1) (C := RX8) (T := TX8) (N := 2) hx hb hg inlX8 hown hK.1 hP 0 rfl rfl 0 (by decide) tX8_0 (hg _ gw_98) rfl dX8_addMany_12 ?_
  refine va_alen hx hb hK.1 hP 1 1 rfl rfl (v := 200) rfl dX8_addMany_15 ?_
  refine lv_icmp_ge (tgt := 30) hx hb dX8_addMany_16 (by decide) (fun c9 => absurd c9 (by decide +kernel)) (fun _ => ?_)
  refine lv_aload_n hx hb dX8_addMany_19 rfl (lv_at hl 1 rfl) ?_
  refine lv_lload_n hx hb dX8_addMany_20 rfl (lv_at hl 3 rfl) ?_
  refine g_av (wr := []) (va_runV (As := [.long 0]) (rest := []) ⟨hx, hb, hml, hown, hg⟩ (k_X8_add_31 l D y aS H.size h0 h1 (vp_updL (vp_updL (vp_updL wf4100267 ((0 : Int32).toNatClampNeg) 0) ((1 : Int32).toNatClampNeg) 0) ((2 : Int32).toNatClampNeg) 0)) (cwV 1 hg ghV_RX8_19_X8_add rfl rfl rfl (by decide +kernel) ⟨Nat.le_of_ble_eq_true rfl, Nat.le_of_ble_eq_true rfl⟩) (g_preV (q := (RX8, TX8, 2)) hK hP hD [0, 1] rfl (by decide) (ci := 8) (q0 := 0) rfl rfl) rfl rfl hl.1 rfl (lv_room (Nat.le_of_ble_eq_true rfl)) dX8_addMany_21 ⟨Nat.le_of_ble_eq_true rfl, Nat.le_of_ble_eq_true rfl⟩) hP hD hS hA [0, 1] [] rfl rfl (by decide) (by decide) ?_
  clear hP hD hS H locs
  refine fun u H locs hq hP hD hS => ?_
  replace hP : va_P D vwCl [(h0, .inr (8, [.ref h1, .int 4])), (h1, .inl (y 1, 200, .inr (.inl (vp_updL (vp_updL (vp_updL (vp_updL wf4100267 ((0 : Int32).toNatClampNeg) 0) ((1 : Int32).toNatClampNeg) 0) ((2 : Int32).toNatClampNeg) 0) ((3 : Int32).toNatClampNeg) 0))))] H := hP
  replace hD : va_D A [(h0, .inr (8, [.ref h1, .int 4])), (h1, .inl (y 1, 200, .inr (.inl (vp_updL (vp_updL (vp_updL (vp_updL wf4100267 ((0 : Int32).toNatClampNeg) 0) ((1 : Int32).toNatClampNeg) 0) ((2 : Int32).toNatClampNeg) 0) ((3 : Int32).toNatClampNeg) 0))))] := hD
  refine lv_iinc (v := 4) (lv' := [(4, .int 4), (0, .ref h0), (1, .int 4), (2, .long 0)]) hx hb dX8_addMany_24 hl (k := 0) rfl (by decide +kernel) (by decide) rfl ?_
  clear hl
  clear ls
  intro ls hl
  refine lv_goto (tgt := 3) hx hb dX8_addMany_27 (by decide) ?_
  refine lv_iload hx hb dX8_addMany_3 (lv_at hl 0 rfl) ?_
  refine lv_iload_n hx hb dX8_addMany_5 rfl (lv_at hl 2 rfl) ?_
  refine lv_icmp_ge (tgt := 30) hx hb dX8_addMany_6 (by decide) (fun _ => ?_) (fun c9 => absurd c9 (by decide +kernel))
  exact g_vret hx hb hr hlocks () hP hD hS trivial (Nat.le_of_ble_eq_true rfl) (Nat.le_of_ble_eq_true rfl) dX8_addMany_30
set_option maxRecDepth 100000 in
set_option maxHeartbeats 4000000 in
theorem k_X8_set_48 (l : Launch) (D : va_G) (y : Nat → ClassId) (aS : Nat → Nat) (sz : Nat) (h0 : Nat) (p1 : Int64) (h2 : Nat) (wp4100274 : Int32) (wf4100275 : Nat → Int64) : Met l yX8_set (Cond.code yX8_set cX8_set 4 none :: wsL_law) ({ frames := 0, cells := 0, slots := 0, locals := 0 } : Room) (va_Pc [.ref h0, .int 3, .long p1] (gI D y aS [(h0, .inr (8, [.ref h2, .int wp4100274])), (h2, .inl (y 1, 200, .inr (.inl wf4100275)))] sz)) (va_Qv (fun (u : Unit) => True) (fun u => gO D (va_A [(h0, .inr (8, [.ref h2, .int wp4100274])), (h2, .inl (y 1, 200, .inr (.inl wf4100275)))] sz) [(h0, .inr (8, [.ref h2, .int wp4100274])), (h2, .inl (y 1, 200, .inr (.inl (vp_updL wf4100275 ((3 : Int32).toNatClampNeg) p1))))]) (va_A [(h0, .inr (8, [.ref h2, .int wp4100274])), (h2, .inl (y 1, 200, .inr (.inl wf4100275)))] sz)) 0 0 (va_A [(h0, .inr (8, [.ref h2, .int wp4100274])), (h2, .inl (y 1, 200, .inr (.inl wf4100275)))] sz) := by
  refine g_of (by decide) (Nat.le_of_ble_eq_true rfl) ?_
  intro p e s m below meth c ls A hx hb hr hml hown hg hlocks hin hsz hK hP hD hS hA hAe hl
  rw [← hAe]
  replace hown : s.vm.findClass RX8 = some m.cls := hown
  replace hl : lv_has ls 4 [(0, .ref h0), (1, .int 3), (2, .long p1)] := hl
  refine lv_iload_n hx hb dX8_set_0 rfl (lv_at hl 1 rfl) ?_
  refine lv_if_lt (tgt := 20) hx hb dX8_set_1 (by decide) (fun c9 => absurd c9 (by decide +kernel)) (fun _ => ?_)
  refine lv_iload_n hx hb dX8_set_4 rfl (lv_at hl 1 rfl) ?_
  refine lv_aload_n hx hb dX8_set_5 rfl (lv_at hl 0 rfl) ?_
  refine gm_get (D := D) (ci := 8) (v := .ref h2) (C := RX8) (T := TX8) (N := 2) hx hb hg inlX8 hown hK.1 hP 0 rfl rfl 0 (by decide) tX8_0 (hg _ gw_98) rfl dX8_set_6 ?_
  refine va_alen hx hb hK.1 hP 1 1 rfl rfl (v := 200) rfl dX8_set_9 ?_
  refine lv_icmp_ge (tgt := 20) hx hb dX8_set_10 (by decide) (fun c9 => absurd c9 (by decide +kernel)) (fun _ => ?_)
  refine lv_aload_n hx hb dX8_set_13 rfl (lv_at hl 0 rfl) ?_
  refine gm_get (D := D) (ci := 8) (v := .ref h2) (C := RX8) (T := TX8) (N := 2) hx hb hg inlX8 hown hK.1 hP 0 rfl rfl 0 (by decide) tX8_0 (hg _ gw_98) rfl dX8_set_14 ?_
  refine lv_iload_n hx hb dX8_set_17 rfl (lv_at hl 1 rfl) ?_
  refine lv_lload_n hx hb dX8_set_18 rfl (lv_at hl 2 rfl) ?_
  refine va_last hx hb hK.1 hP hD hS 1 1 rfl rfl (by unfold vp_in; decide +kernel) dX8_set_19 ?_
  clear hP hD hS
  refine fun H locs (hP : va_P D vwCl [(h0, .inr (8, [.ref h2, .int wp4100274])), (h2, .inl (y 1, 200, .inr (.inl (vp_updL wf4100275 ((3 : Int32).toNatClampNeg) p1))))] H) (hD : va_D A [(h0, .inr (8, [.ref h2, .int wp4100274])), (h2, .inl (y 1, 200, .inr (.inl (vp_updL wf4100275 ((3 : Int32).toNatClampNeg) p1))))]) hS => ?_
  exact g_vret hx hb hr hlocks () hP hD hS trivial (Nat.le_of_ble_eq_true rfl) (Nat.le_of_ble_eq_true rfl) dX8_set_20
set_option maxRecDepth 100000 in
set_option maxHeartbeats 4000000 in
theorem k_X5_find_9 (l : Launch) (D : va_G) (y : Nat → ClassId) (aS : Nat → Nat) (sz : Nat) (h0 : Nat) (h1 : Nat) (h2 : Nat) (h3 : Nat) (h4 : Nat) (wp4100294 : Int32) (h6 : Nat) (wp4100295 : Int32) : Met l yX5_find (Cond.code yX5_find cX5_find 6 none :: wsL_law) ({ frames := 1, cells := 0, slots := 0, locals := 21 } : Room) (va_Pc [.ref h0, .int 0, .int 3] (gI D y aS [(h0, .inr (5, [.ref h1, .ref h2, .ref h3, .ref h4, .int wp4100294])), (h4, .inr (8, [.ref h6, .int wp4100295])), (h6, .inl (y 1, 3, .inr (.inl (fun _ => 0))))] sz)) (va_Qv (fun (u : Unit) => True) (fun u => gO D (va_A [(h0, .inr (5, [.ref h1, .ref h2, .ref h3, .ref h4, .int wp4100294])), (h4, .inr (8, [.ref h6, .int wp4100295])), (h6, .inl (y 1, 3, .inr (.inl (fun _ => 0))))] sz) [(h0, .inr (5, [.ref h1, .ref h2, .ref h3, .ref h4, .int wp4100294])), (h4, .inr (8, [.ref h6, .int wp4100295])), (h6, .inl (y 1, 3, .inr (.inl (fun _ => 0))))]) (va_A [(h0, .inr (5, [.ref h1, .ref h2, .ref h3, .ref h4, .int wp4100294])), (h4, .inr (8, [.ref h6, .int wp4100295])), (h6, .inl (y 1, 3, .inr (.inl (fun _ => 0))))] sz)) 0 0 (va_A [(h0, .inr (5, [.ref h1, .ref h2, .ref h3, .ref h4, .int wp4100294])), (h4, .inr (8, [.ref h6, .int wp4100295])), (h6, .inl (y 1, 3, .inr (.inl (fun _ => 0))))] sz) := by
  refine g_of (by decide) (Nat.le_of_ble_eq_true rfl) ?_
  intro p e s m below meth c ls A hx hb hr hml hown hg hlocks hin hsz hK hP hD hS hA hAe hl
  rw [← hAe]
  replace hown : s.vm.findClass RX5 = some m.cls := hown
  replace hl : lv_has ls 6 [(0, .ref h0), (1, .int 0), (2, .int 3)] := hl
  refine lv_aload_n hx hb dX5_find_0 rfl (lv_at hl 0 rfl) ?_
  refine gm_get (D := D) (ci := 5) (v := .ref h4) (C := RX5) (T := TX5) (N := 5) hx hb hg inlX5 hown hK.1 hP 0 rfl rfl 3 (by decide) tX5_3 (hg _ gw_141) rfl dX5_find_1 ?_
  refine lv_iload_n hx hb dX5_find_4 rfl (lv_at hl 1 rfl) ?_
  refine g_ai (wr := [(h0, .inr (5, [.ref h1, .ref h2, .ref h3, .ref h4, .int wp4100294]))]) (va_runV (As := [.int 0]) (rest := []) ⟨hx, hb, hml, hown, hg⟩ (k_X8_whole_27 l D y aS s.heap.size h4 h6 wp4100295) (cwV 1 hg ggV_RX5_50_X8_whole rfl rfl rfl (by decide +kernel) ⟨Nat.le_of_ble_eq_true rfl, Nat.le_of_ble_eq_true rfl⟩) (g_preV (q := (RX8, TX8, 2)) hK hP hD [1, 2] rfl (by decide) (ci := 8) (q0 := 1) rfl rfl) rfl rfl hl.1 rfl (lv_room (Nat.le_of_ble_eq_true rfl)) dX5_find_5 ⟨Nat.le_of_ble_eq_true rfl, Nat.le_of_ble_eq_true rfl⟩) hP hD hS hA [1, 2] [0] rfl rfl (by decide) (by decide) ?_
  clear hP hD hS
  refine fun r4100296 u H locs hq hP hD hS => ?_
  subst hq
  replace hP : va_P D vwCl [(h0, .inr (5, [.ref h1, .ref h2, .ref h3, .ref h4, .int wp4100294])), (h4, .inr (8, [.ref h6, .int wp4100295])), (h6, .inl (y 1, 3, .inr (.inl (fun _ => 0))))] H := hP
  replace hD : va_D A [(h0, .inr (5, [.ref h1, .ref h2, .ref h3, .ref h4, .int wp4100294])), (h4, .inr (8, [.ref h6, .int wp4100295])), (h6, .inl (y 1, 3, .inr (.inl (fun _ => 0))))] := hD
  refine lv_istore_n (lv' := [(3, .int 0), (0, .ref h0), (1, .int 0), (2, .int 3)]) hx hb dX5_find_8 rfl hl (by decide) rfl ?_
  clear hl
  clear ls
  intro ls hl
  refine lv_iconst (v := 0) hx hb dX5_find_9 (by decide) ?_
  refine lv_istore (lv' := [(4, .int 0), (3, .int 0), (0, .ref h0), (1, .int 0), (2, .int 3)]) hx hb dX5_find_10 hl (by decide) rfl ?_
  clear hl
  clear ls
  intro ls hl
  refine lv_iload hx hb dX5_find_12 (lv_at hl 0 rfl) ?_
  refine lv_iload_n hx hb dX5_find_14 rfl (lv_at hl 1 rfl) ?_
  refine lv_icmp_ge (tgt := 67) hx hb dX5_find_15 (by decide) (fun _ => ?_) (fun c9 => absurd c9 (by decide +kernel))
  refine lv_iload_n hx hb dX5_find_67 rfl (lv_at hl 1 rfl) ?_
  refine lv_if_le (tgt := 107) hx hb dX5_find_68 (by decide) (fun _ => ?_) (fun c9 => absurd c9 (by decide +kernel))
  refine lv_iload hx hb dX5_find_107 (lv_at hl 0 rfl) ?_
  refine lv_if_le (tgt := 139) hx hb dX5_find_109 (by decide) (fun _ => ?_) (fun c9 => absurd c9 (by decide +kernel))
  exact g_vret hx hb hr hlocks () hP hD hS trivial (Nat.le_of_ble_eq_true rfl) (Nat.le_of_ble_eq_true rfl) dX5_find_139
set_option maxRecDepth 100000 in
set_option maxHeartbeats 4000000 in
theorem k_X5_find_10 (l : Launch) (D : va_G) (y : Nat → ClassId) (aS : Nat → Nat) (sz : Nat) (h0 : Nat) (h1 : Nat) (h2 : Nat) (h3 : Nat) (h4 : Nat) (wp4100299 : Int32) (h6 : Nat) (wp4100300 : Int32) : Met l yX5_find (Cond.code yX5_find cX5_find 6 none :: wsL_law) ({ frames := 1, cells := 0, slots := 0, locals := 21 } : Room) (va_Pc [.ref h0, .int 1, .int 3] (gI D y aS [(h0, .inr (5, [.ref h1, .ref h2, .ref h3, .ref h4, .int wp4100299])), (h4, .inr (8, [.ref h6, .int wp4100300])), (h6, .inl (y 1, 3, .inr (.inl (fun _ => 0))))] sz)) (va_Qv (fun (u : Unit) => True) (fun u => gO D (va_A [(h0, .inr (5, [.ref h1, .ref h2, .ref h3, .ref h4, .int wp4100299])), (h4, .inr (8, [.ref h6, .int wp4100300])), (h6, .inl (y 1, 3, .inr (.inl (fun _ => 0))))] sz) [(h0, .inr (5, [.ref h1, .ref h2, .ref h3, .ref h4, .int wp4100299])), (h4, .inr (8, [.ref h6, .int wp4100300])), (h6, .inl (y 1, 3, .inr (.inl (fun _ => 0))))]) (va_A [(h0, .inr (5, [.ref h1, .ref h2, .ref h3, .ref h4, .int wp4100299])), (h4, .inr (8, [.ref h6, .int wp4100300])), (h6, .inl (y 1, 3, .inr (.inl (fun _ => 0))))] sz)) 0 0 (va_A [(h0, .inr (5, [.ref h1, .ref h2, .ref h3, .ref h4, .int wp4100299])), (h4, .inr (8, [.ref h6, .int wp4100300])), (h6, .inl (y 1, 3, .inr (.inl (fun _ => 0))))] sz) := by
  refine g_of (by decide) (Nat.le_of_ble_eq_true rfl) ?_
  intro p e s m below meth c ls A hx hb hr hml hown hg hlocks hin hsz hK hP hD hS hA hAe hl
  rw [← hAe]
  replace hown : s.vm.findClass RX5 = some m.cls := hown
  replace hl : lv_has ls 6 [(0, .ref h0), (1, .int 1), (2, .int 3)] := hl
  refine lv_aload_n hx hb dX5_find_0 rfl (lv_at hl 0 rfl) ?_
  refine gm_get (D := D) (ci := 5) (v := .ref h4) (C := RX5) (T := TX5) (N := 5) hx hb hg inlX5 hown hK.1 hP 0 rfl rfl 3 (by decide) tX5_3 (hg _ gw_141) rfl dX5_find_1 ?_
  refine lv_iload_n hx hb dX5_find_4 rfl (lv_at hl 1 rfl) ?_
  refine g_ai (wr := [(h0, .inr (5, [.ref h1, .ref h2, .ref h3, .ref h4, .int wp4100299]))]) (va_runV (As := [.int 1]) (rest := []) ⟨hx, hb, hml, hown, hg⟩ (k_X8_whole_28 l D y aS s.heap.size h4 h6 wp4100300) (cwV 1 hg ggV_RX5_50_X8_whole rfl rfl rfl (by decide +kernel) ⟨Nat.le_of_ble_eq_true rfl, Nat.le_of_ble_eq_true rfl⟩) (g_preV (q := (RX8, TX8, 2)) hK hP hD [1, 2] rfl (by decide) (ci := 8) (q0 := 1) rfl rfl) rfl rfl hl.1 rfl (lv_room (Nat.le_of_ble_eq_true rfl)) dX5_find_5 ⟨Nat.le_of_ble_eq_true rfl, Nat.le_of_ble_eq_true rfl⟩) hP hD hS hA [1, 2] [0] rfl rfl (by decide) (by decide) ?_
  clear hP hD hS
  refine fun r4100301 u H locs hq hP hD hS => ?_
  subst hq
  replace hP : va_P D vwCl [(h0, .inr (5, [.ref h1, .ref h2, .ref h3, .ref h4, .int wp4100299])), (h4, .inr (8, [.ref h6, .int wp4100300])), (h6, .inl (y 1, 3, .inr (.inl (fun _ => 0))))] H := hP
  replace hD : va_D A [(h0, .inr (5, [.ref h1, .ref h2, .ref h3, .ref h4, .int wp4100299])), (h4, .inr (8, [.ref h6, .int wp4100300])), (h6, .inl (y 1, 3, .inr (.inl (fun _ => 0))))] := hD
  refine lv_istore_n (lv' := [(3, .int 0), (0, .ref h0), (1, .int 1), (2, .int 3)]) hx hb dX5_find_8 rfl hl (by decide) rfl ?_
  clear hl
  clear ls
  intro ls hl
  refine lv_iconst (v := 0) hx hb dX5_find_9 (by decide) ?_
  refine lv_istore (lv' := [(4, .int 0), (3, .int 0), (0, .ref h0), (1, .int 1), (2, .int 3)]) hx hb dX5_find_10 hl (by decide) rfl ?_
  clear hl
  clear ls
  intro ls hl
  refine lv_iload hx hb dX5_find_12 (lv_at hl 0 rfl) ?_
  refine lv_iload_n hx hb dX5_find_14 rfl (lv_at hl 1 rfl) ?_
  refine lv_icmp_ge (tgt := 67) hx hb dX5_find_15 (by decide) (fun _ => ?_) (fun c9 => absurd c9 (by decide +kernel))
  refine lv_iload_n hx hb dX5_find_67 rfl (lv_at hl 1 rfl) ?_
  refine lv_if_le (tgt := 107) hx hb dX5_find_68 (by decide) (fun _ => ?_) (fun c9 => absurd c9 (by decide +kernel))
  refine lv_iload hx hb dX5_find_107 (lv_at hl 0 rfl) ?_
  refine lv_if_le (tgt := 139) hx hb dX5_find_109 (by decide) (fun _ => ?_) (fun c9 => absurd c9 (by decide +kernel))
  exact g_vret hx hb hr hlocks () hP hD hS trivial (Nat.le_of_ble_eq_true rfl) (Nat.le_of_ble_eq_true rfl) dX5_find_139
set_option maxRecDepth 100000 in
set_option maxHeartbeats 4000000 in
theorem k_X5_find_11 (l : Launch) (D : va_G) (y : Nat → ClassId) (aS : Nat → Nat) (sz : Nat) (h0 : Nat) (h1 : Nat) (h2 : Nat) (h3 : Nat) (h4 : Nat) (wp4100304 : Int32) (h6 : Nat) (wp4100305 : Int32) : Met l yX5_find (Cond.code yX5_find cX5_find 6 none :: wsL_law) ({ frames := 1, cells := 0, slots := 0, locals := 21 } : Room) (va_Pc [.ref h0, .int 2, .int 3] (gI D y aS [(h0, .inr (5, [.ref h1, .ref h2, .ref h3, .ref h4, .int wp4100304])), (h4, .inr (8, [.ref h6, .int wp4100305])), (h6, .inl (y 1, 3, .inr (.inl (fun _ => 0))))] sz)) (va_Qv (fun (u : Unit) => True) (fun u => gO D (va_A [(h0, .inr (5, [.ref h1, .ref h2, .ref h3, .ref h4, .int wp4100304])), (h4, .inr (8, [.ref h6, .int wp4100305])), (h6, .inl (y 1, 3, .inr (.inl (fun _ => 0))))] sz) [(h0, .inr (5, [.ref h1, .ref h2, .ref h3, .ref h4, .int wp4100304])), (h4, .inr (8, [.ref h6, .int wp4100305])), (h6, .inl (y 1, 3, .inr (.inl (fun _ => 0))))]) (va_A [(h0, .inr (5, [.ref h1, .ref h2, .ref h3, .ref h4, .int wp4100304])), (h4, .inr (8, [.ref h6, .int wp4100305])), (h6, .inl (y 1, 3, .inr (.inl (fun _ => 0))))] sz)) 0 0 (va_A [(h0, .inr (5, [.ref h1, .ref h2, .ref h3, .ref h4, .int wp4100304])), (h4, .inr (8, [.ref h6, .int wp4100305])), (h6, .inl (y 1, 3, .inr (.inl (fun _ => 0))))] sz) := by
  refine g_of (by decide) (Nat.le_of_ble_eq_true rfl) ?_
  intro p e s m below meth c ls A hx hb hr hml hown hg hlocks hin hsz hK hP hD hS hA hAe hl
  rw [← hAe]
  replace hown : s.vm.findClass RX5 = some m.cls := hown
  replace hl : lv_has ls 6 [(0, .ref h0), (1, .int 2), (2, .int 3)] := hl
  refine lv_aload_n hx hb dX5_find_0 rfl (lv_at hl 0 rfl) ?_
  refine gm_get (D := D) (ci := 5) (v := .ref h4) (C := RX5) (T := TX5) (N := 5) hx hb hg inlX5 hown hK.1 hP 0 rfl rfl 3 (by decide) tX5_3 (hg _ gw_141) rfl dX5_find_1 ?_
  refine lv_iload_n hx hb dX5_find_4 rfl (lv_at hl 1 rfl) ?_
  refine g_ai (wr := [(h0, .inr (5, [.ref h1, .ref h2, .ref h3, .ref h4, .int wp4100304]))]) (va_runV (As := [.int 2]) (rest := []) ⟨hx, hb, hml, hown, hg⟩ (k_X8_whole_29 l D y aS s.heap.size h4 h6 wp4100305) (cwV 1 hg ggV_RX5_50_X8_whole rfl rfl rfl (by decide +kernel) ⟨Nat.le_of_ble_eq_true rfl, Nat.le_of_ble_eq_true rfl⟩) (g_preV (q := (RX8, TX8, 2)) hK hP hD [1, 2] rfl (by decide) (ci := 8) (q0 := 1) rfl rfl) rfl rfl hl.1 rfl (lv_room (Nat.le_of_ble_eq_true rfl)) dX5_find_5 ⟨Nat.le_of_ble_eq_true rfl, Nat.le_of_ble_eq_true rfl⟩) hP hD hS hA [1, 2] [0] rfl rfl (by decide) (by decide) ?_
  clear hP hD hS
  refine fun r4100306 u H locs hq hP hD hS => ?_
  subst hq
  replace hP : va_P D vwCl [(h0, .inr (5, [.ref h1, .ref h2, .ref h3, .ref h4, .int wp4100304])), (h4, .inr (8, [.ref h6, .int wp4100305])), (h6, .inl (y 1, 3, .inr (.inl (fun _ => 0))))] H := hP
  replace hD : va_D A [(h0, .inr (5, [.ref h1, .ref h2, .ref h3, .ref h4, .int wp4100304])), (h4, .inr (8, [.ref h6, .int wp4100305])), (h6, .inl (y 1, 3, .inr (.inl (fun _ => 0))))] := hD
  refine lv_istore_n (lv' := [(3, .int 0), (0, .ref h0), (1, .int 2), (2, .int 3)]) hx hb dX5_find_8 rfl hl (by decide) rfl ?_
  clear hl
  clear ls
  intro ls hl
  refine lv_iconst (v := 0) hx hb dX5_find_9 (by decide) ?_
  refine lv_istore (lv' := [(4, .int 0), (3, .int 0), (0, .ref h0), (1, .int 2), (2, .int 3)]) hx hb dX5_find_10 hl (by decide) rfl ?_
  clear hl
  clear ls
  intro ls hl
  refine lv_iload hx hb dX5_find_12 (lv_at hl 0 rfl) ?_
  refine lv_iload_n hx hb dX5_find_14 rfl (lv_at hl 1 rfl) ?_
  refine lv_icmp_ge (tgt := 67) hx hb dX5_find_15 (by decide) (fun _ => ?_) (fun c9 => absurd c9 (by decide +kernel))
  refine lv_iload_n hx hb dX5_find_67 rfl (lv_at hl 1 rfl) ?_
  refine lv_if_le (tgt := 107) hx hb dX5_find_68 (by decide) (fun _ => ?_) (fun c9 => absurd c9 (by decide +kernel))
  refine lv_iload hx hb dX5_find_107 (lv_at hl 0 rfl) ?_
  refine lv_if_le (tgt := 139) hx hb dX5_find_109 (by decide) (fun _ => ?_) (fun c9 => absurd c9 (by decide +kernel))
  exact g_vret hx hb hr hlocks () hP hD hS trivial (Nat.le_of_ble_eq_true rfl) (Nat.le_of_ble_eq_true rfl) dX5_find_139
set_option maxRecDepth 100000 in
set_option maxHeartbeats 4000000 in
theorem k_X5_findOut_4 (l : Launch) (D : va_G) (y : Nat → ClassId) (aS : Nat → Nat) (sz : Nat) (h0 : Nat) (h1 : Nat) (h2 : Nat) (h3 : Nat) (h4 : Nat) (wp4100308 : Int32) (h6 : Nat) (h7 : Nat) (wp4100309 : Int32) (wf4100310 : Nat → Int64) (h10 : Nat) (wp4100311 : Int32) : Met l yX5_findOut (Cond.code yX5_findOut cX5_findOut 3 none :: wsL_law) ({ frames := 2, cells := 0, slots := 0, locals := 46 } : Room) (va_Pc [.ref h0] (gI D y aS [(h0, .inr (5, [.ref h1, .ref h2, .ref h3, .ref h4, .int wp4100308])), (h1, .inr (8, [.ref h6, .int 4])), (h2, .inr (8, [.ref h7, .int wp4100309])), (h7, .inl (y 1, 200, .inr (.inl wf4100310))), (h4, .inr (8, [.ref h10, .int wp4100311])), (h10, .inl (y 1, 3, .inr (.inl (fun _ => 0))))] sz)) (va_Qv (fun (u : Unit) => True) (fun u => gO D (va_A [(h0, .inr (5, [.ref h1, .ref h2, .ref h3, .ref h4, .int wp4100308])), (h1, .inr (8, [.ref h6, .int 4])), (h2, .inr (8, [.ref h7, .int wp4100309])), (h7, .inl (y 1, 200, .inr (.inl wf4100310))), (h4, .inr (8, [.ref h10, .int wp4100311])), (h10, .inl (y 1, 3, .inr (.inl (fun _ => 0))))] sz) [(h0, .inr (5, [.ref h1, .ref h2, .ref h3, .ref h4, .int 4])), (h1, .inr (8, [.ref h6, .int 4])), (h2, .inr (8, [.ref h7, .int wp4100309])), (h7, .inl (y 1, 200, .inr (.inl (vp_updL (vp_updL (vp_updL (vp_updL wf4100310 ((0 : Int32).toNatClampNeg) 0) ((1 : Int32).toNatClampNeg) 0) ((2 : Int32).toNatClampNeg) 0) ((3 : Int32).toNatClampNeg) 0)))), (h4, .inr (8, [.ref h10, .int wp4100311])), (h10, .inl (y 1, 3, .inr (.inl (fun _ => 0))))]) (va_A [(h0, .inr (5, [.ref h1, .ref h2, .ref h3, .ref h4, .int wp4100308])), (h1, .inr (8, [.ref h6, .int 4])), (h2, .inr (8, [.ref h7, .int wp4100309])), (h7, .inl (y 1, 200, .inr (.inl wf4100310))), (h4, .inr (8, [.ref h10, .int wp4100311])), (h10, .inl (y 1, 3, .inr (.inl (fun _ => 0))))] sz)) 0 0 (va_A [(h0, .inr (5, [.ref h1, .ref h2, .ref h3, .ref h4, .int wp4100308])), (h1, .inr (8, [.ref h6, .int 4])), (h2, .inr (8, [.ref h7, .int wp4100309])), (h7, .inl (y 1, 200, .inr (.inl wf4100310))), (h4, .inr (8, [.ref h10, .int wp4100311])), (h10, .inl (y 1, 3, .inr (.inl (fun _ => 0))))] sz) := by
  refine g_of (by decide) (Nat.le_of_ble_eq_true rfl) ?_
  intro p e s m below meth c ls A hx hb hr hml hown hg hlocks hin hsz hK hP hD hS hA hAe hl
  rw [← hAe]
  replace hown : s.vm.findClass RX5 = some m.cls := hown
  replace hl : lv_has ls 3 [(0, .ref h0)] := hl
  refine lv_aload_n hx hb dX5_findOut_0 rfl (lv_at hl 0 rfl) ?_
  refine lv_aload_n hx hb dX5_findOut_1 rfl (lv_at hl 0 rfl) ?_
  refine gm_get (D := D) (ci := 5) (v := .ref h1) (C := RX5) (T := TX5) (N := 5) hx hb hg inlX5 hown hK.1 hP 0 rfl rfl 0 (by decide) tX5_0 (hg _ gw_138) rfl dX5_findOut_2 ?_
  refine gm_get (D := D) (ci := 8) (v := .int 4) (C := RX8) (T := TX8) (N := 2) hx hb hg inlX8 hown hK.1 hP 1 rfl rfl 1 (by decide) tX8_1 (hg _ gw_1441) rfl dX5_findOut_5 ?_
  refine gm_put (D := D) (ci := 5) (v := .int 4) (ty := .int) (C := RX5) (T := TX5) (N := 5) hx hb hg inlX5 tyX5 tyX5_ok nmX5 hown hK.1 hP hD hS 0 rfl rfl 4 (by decide) tX5_4 (hg _ gw_1442) (by decide +kernel) rfl rfl (Nat.le_of_ble_eq_true rfl) dX5_findOut_8 ?_
  clear hP hD hS
  refine fun H locs (hP : va_P D vwCl [(h0, .inr (5, [.ref h1, .ref h2, .ref h3, .ref h4, .int 4])), (h1, .inr (8, [.ref h6, .int 4])), (h2, .inr (8, [.ref h7, .int wp4100309])), (h7, .inl (y 1, 200, .inr (.inl wf4100310))), (h4, .inr (8, [.ref h10, .int wp4100311])), (h10, .inl (y 1, 3, .inr (.inl (fun _ => 0))))] H) (hD : va_D A [(h0, .inr (5, [.ref h1, .ref h2, .ref h3, .ref h4, .int 4])), (h1, .inr (8, [.ref h6, .int 4])), (h2, .inr (8, [.ref h7, .int wp4100309])), (h7, .inl (y 1, 200, .inr (.inl wf4100310))), (h4, .inr (8, [.ref h10, .int wp4100311])), (h10, .inl (y 1, 3, .inr (.inl (fun _ => 0))))]) hS => ?_
  refine lv_iconst (v := 0) hx hb dX5_findOut_11 (by decide) ?_
  refine lv_istore_n (lv' := [(1, .int 0), (0, .ref h0)]) hx hb dX5_findOut_12 rfl hl (by decide) rfl ?_
  clear hl
  clear ls
  intro ls hl
  refine lv_iload_n hx hb dX5_findOut_13 rfl (lv_at hl 0 rfl) ?_
  refine lv_aload_n hx hb dX5_findOut_14 rfl (lv_at hl 1 rfl) ?_
  refine gm_get (D := D) (ci := 5) (v := .ref h1) (C := RX5) (T := TX5) (N := 5) hx hb hg inlX5 hown hK.1 hP 0 rfl rfl 0 (by decide) tX5_0 (hg _ gw_138) rfl dX5_findOut_15 ?_
  refine gm_get (D := D) (ci := 8) (v := .int 4) (C := RX8) (T := TX8) (N := 2) hx hb hg inlX8 hown hK.1 hP 1 rfl rfl 1 (by decide) tX8_1 (hg _ gw_1441) rfl dX5_findOut_18 ?_
  refine lv_icmp_ge (tgt := 39) hx hb dX5_findOut_21 (by decide) (fun c9 => absurd c9 (by decide +kernel)) (fun _ => ?_)
  refine lv_aload_n hx hb dX5_findOut_24 rfl (lv_at hl 1 rfl) ?_
  refine gm_get (D := D) (ci := 5) (v := .ref h2) (C := RX5) (T := TX5) (N := 5) hx hb hg inlX5 hown hK.1 hP 0 rfl rfl 1 (by decide) tX5_1 (hg _ gw_139) rfl dX5_findOut_25 ?_
  refine lv_iload_n hx hb dX5_findOut_28 rfl (lv_at hl 0 rfl) ?_
  refine lv_lconst (v := 0) hx hb dX5_findOut_29 (by decide) ?_
  refine g_av (wr := [(h0, .inr (5, [.ref h1, .ref h2, .ref h3, .ref h4, .int 4])), (h1, .inr (8, [.ref h6, .int 4])), (h4, .inr (8, [.ref h10, .int wp4100311])), (h10, .inl (y 1, 3, .inr (.inl (fun _ => 0))))]) (va_runV (As := [.int 0, .long 0]) (rest := []) ⟨hx, hb, hml, hown, hg⟩ (k_X8_set_45 l D y aS H.size h2 0 h7 wp4100309 wf4100310) (cwV 2 hg ggV_RX5_29_X8_set rfl rfl rfl (by decide +kernel) ⟨Nat.le_of_ble_eq_true rfl, Nat.le_of_ble_eq_true rfl⟩) (g_preV (q := (RX8, TX8, 2)) hK hP hD [2, 3] rfl (by decide) (ci := 8) (q0 := 2) rfl rfl) rfl rfl hl.1 rfl (lv_room (Nat.le_of_ble_eq_true rfl)) dX5_findOut_30 ⟨Nat.le_of_ble_eq_true rfl, Nat.le_of_ble_eq_true rfl⟩) hP hD hS hA [2, 3] [0, 1, 4, 5] rfl rfl (by decide) (by decide) ?_
  clear hP hD hS H locs
  refine fun u H locs hq hP hD hS => ?_
  replace hP : va_P D vwCl [(h0, .inr (5, [.ref h1, .ref h2, .ref h3, .ref h4, .int 4])), (h1, .inr (8, [.ref h6, .int 4])), (h4, .inr (8, [.ref h10, .int wp4100311])), (h10, .inl (y 1, 3, .inr (.inl (fun _ => 0)))), (h2, .inr (8, [.ref h7, .int wp4100309])), (h7, .inl (y 1, 200, .inr (.inl (vp_updL wf4100310 ((0 : Int32).toNatClampNeg) 0))))] H := hP
  replace hD : va_D A [(h0, .inr (5, [.ref h1, .ref h2, .ref h3, .ref h4, .int 4])), (h1, .inr (8, [.ref h6, .int 4])), (h4, .inr (8, [.ref h10, .int wp4100311])), (h10, .inl (y 1, 3, .inr (.inl (fun _ => 0)))), (h2, .inr (8, [.ref h7, .int wp4100309])), (h7, .inl (y 1, 200, .inr (.inl (vp_updL wf4100310 ((0 : Int32).toNatClampNeg) 0))))] := hD
  refine lv_iinc (v := 1) (lv' := [(1, .int 1), (0, .ref h0)]) hx hb dX5_findOut_33 hl (k := 0) rfl (by decide +kernel) (by decide) rfl ?_
  clear hl
  clear ls
  intro ls hl
  refine lv_goto (tgt := 13) hx hb dX5_findOut_36 (by decide) ?_
  refine lv_iload_n hx hb dX5_findOut_13 rfl (lv_at hl 0 rfl) ?_
  refine lv_aload_n hx hb dX5_findOut_14 rfl (lv_at hl 1 rfl) ?_
  refine gm_get (D := D) (ci := 5) (v := .ref h1) (C := RX5) (T := TX5) (N := 5) hx hb hg inlX5 hown hK.1 hP 0 rfl rfl 0 (by decide) tX5_0 (hg _ gw_138) rfl dX5_findOut_15 ?_
  refine gm_get (D := D) (ci := 8) (v := .int 4) (C := RX8) (T := TX8) (N := 2) hx hb hg inlX8 hown hK.1 hP 1 rfl rfl 1 (by decide) tX8_1 (hg _ gw_1441) rfl dX5_findOut_18 ?_
  refine lv_icmp_ge (tgt := 39) hx hb dX5_findOut_21 (by decide) (fun c9 => absurd c9 (by decide +kernel)) (fun _ => ?_)
  refine lv_aload_n hx hb dX5_findOut_24 rfl (lv_at hl 1 rfl) ?_
  refine gm_get (D := D) (ci := 5) (v := .ref h2) (C := RX5) (T := TX5) (N := 5) hx hb hg inlX5 hown hK.1 hP 0 rfl rfl 1 (by decide) tX5_1 (hg _ gw_139) rfl dX5_findOut_25 ?_
  refine lv_iload_n hx hb dX5_findOut_28 rfl (lv_at hl 0 rfl) ?_
  refine lv_lconst (v := 0) hx hb dX5_findOut_29 (by decide) ?_
  refine g_av (wr := [(h0, .inr (5, [.ref h1, .ref h2, .ref h3, .ref h4, .int 4])), (h1, .inr (8, [.ref h6, .int 4])), (h4, .inr (8, [.ref h10, .int wp4100311])), (h10, .inl (y 1, 3, .inr (.inl (fun _ => 0))))]) (va_runV (As := [.int 1, .long 0]) (rest := []) ⟨hx, hb, hml, hown, hg⟩ (k_X8_set_46 l D y aS H.size h2 0 h7 wp4100309 (vp_updL wf4100310 ((0 : Int32).toNatClampNeg) 0)) (cwV 2 hg ggV_RX5_29_X8_set rfl rfl rfl (by decide +kernel) ⟨Nat.le_of_ble_eq_true rfl, Nat.le_of_ble_eq_true rfl⟩) (g_preV (q := (RX8, TX8, 2)) hK hP hD [4, 5] rfl (by decide) (ci := 8) (q0 := 4) rfl rfl) rfl rfl hl.1 rfl (lv_room (Nat.le_of_ble_eq_true rfl)) dX5_findOut_30 ⟨Nat.le_of_ble_eq_true rfl, Nat.le_of_ble_eq_true rfl⟩) hP hD hS hA [4, 5] [0, 1, 2, 3] rfl rfl (by decide) (by decide) ?_
  clear hP hD hS H locs
  refine fun u H locs hq hP hD hS => ?_
  replace hP : va_P D vwCl [(h0, .inr (5, [.ref h1, .ref h2, .ref h3, .ref h4, .int 4])), (h1, .inr (8, [.ref h6, .int 4])), (h4, .inr (8, [.ref h10, .int wp4100311])), (h10, .inl (y 1, 3, .inr (.inl (fun _ => 0)))), (h2, .inr (8, [.ref h7, .int wp4100309])), (h7, .inl (y 1, 200, .inr (.inl (vp_updL (vp_updL wf4100310 ((0 : Int32).toNatClampNeg) 0) ((1 : Int32).toNatClampNeg) 0))))] H := hP
  replace hD : va_D A [(h0, .inr (5, [.ref h1, .ref h2, .ref h3, .ref h4, .int 4])), (h1, .inr (8, [.ref h6, .int 4])), (h4, .inr (8, [.ref h10, .int wp4100311])), (h10, .inl (y 1, 3, .inr (.inl (fun _ => 0)))), (h2, .inr (8, [.ref h7, .int wp4100309])), (h7, .inl (y 1, 200, .inr (.inl (vp_updL (vp_updL wf4100310 ((0 : Int32).toNatClampNeg) 0) ((1 : Int32).toNatClampNeg) 0))))] := hD
  refine lv_iinc (v := 2) (lv' := [(1, .int 2), (0, .ref h0)]) hx hb dX5_findOut_33 hl (k := 0) rfl (by decide +kernel) (by decide) rfl ?_
  clear hl
  clear ls
  intro ls hl
  refine lv_goto (tgt := 13) hx hb dX5_findOut_36 (by decide) ?_
  refine lv_iload_n hx hb dX5_findOut_13 rfl (lv_at hl 0 rfl) ?_
  refine lv_aload_n hx hb dX5_findOut_14 rfl (lv_at hl 1 rfl) ?_
  refine gm_get (D := D) (ci := 5) (v := .ref h1) (C := RX5) (T := TX5) (N := 5) hx hb hg inlX5 hown hK.1 hP 0 rfl rfl 0 (by decide) tX5_0 (hg _ gw_138) rfl dX5_findOut_15 ?_
  refine gm_get (D := D) (ci := 8) (v := .int 4) (C := RX8) (T := TX8) (N := 2) hx hb hg inlX8 hown hK.1 hP 1 rfl rfl 1 (by decide) tX8_1 (hg _ gw_1441) rfl dX5_findOut_18 ?_
  refine lv_icmp_ge (tgt := 39) hx hb dX5_findOut_21 (by decide) (fun c9 => absurd c9 (by decide +kernel)) (fun _ => ?_)
  refine lv_aload_n hx hb dX5_findOut_24 rfl (lv_at hl 1 rfl) ?_
  refine gm_get (D := D) (ci := 5) (v := .ref h2) (C := RX5) (T := TX5) (N := 5) hx hb hg inlX5 hown hK.1 hP 0 rfl rfl 1 (by decide) tX5_1 (hg _ gw_139) rfl dX5_findOut_25 ?_
  refine lv_iload_n hx hb dX5_findOut_28 rfl (lv_at hl 0 rfl) ?_
  refine lv_lconst (v := 0) hx hb dX5_findOut_29 (by decide) ?_
  refine g_av (wr := [(h0, .inr (5, [.ref h1, .ref h2, .ref h3, .ref h4, .int 4])), (h1, .inr (8, [.ref h6, .int 4])), (h4, .inr (8, [.ref h10, .int wp4100311])), (h10, .inl (y 1, 3, .inr (.inl (fun _ => 0))))]) (va_runV (As := [.int 2, .long 0]) (rest := []) ⟨hx, hb, hml, hown, hg⟩ (k_X8_set_47 l D y aS H.size h2 0 h7 wp4100309 (vp_updL (vp_updL wf4100310 ((0 : Int32).toNatClampNeg) 0) ((1 : Int32).toNatClampNeg) 0)) (cwV 2 hg ggV_RX5_29_X8_set rfl rfl rfl (by decide +kernel) ⟨Nat.le_of_ble_eq_true rfl, Nat.le_of_ble_eq_true rfl⟩) (g_preV (q := (RX8, TX8, 2)) hK hP hD [4, 5] rfl (by decide) (ci := 8) (q0 := 4) rfl rfl) rfl rfl hl.1 rfl (lv_room (Nat.le_of_ble_eq_true rfl)) dX5_findOut_30 ⟨Nat.le_of_ble_eq_true rfl, Nat.le_of_ble_eq_true rfl⟩) hP hD hS hA [4, 5] [0, 1, 2, 3] rfl rfl (by decide) (by decide) ?_
  clear hP hD hS H locs
  refine fun u H locs hq hP hD hS => ?_
  replace hP : va_P D vwCl [(h0, .inr (5, [.ref h1, .ref h2, .ref h3, .ref h4, .int 4])), (h1, .inr (8, [.ref h6, .int 4])), (h4, .inr (8, [.ref h10, .int wp4100311])), (h10, .inl (y 1, 3, .inr (.inl (fun _ => 0)))), (h2, .inr (8, [.ref h7, .int wp4100309])), (h7, .inl (y 1, 200, .inr (.inl (vp_updL (vp_updL (vp_updL wf4100310 ((0 : Int32).toNatClampNeg) 0) ((1 : Int32).toNatClampNeg) 0) ((2 : Int32).toNatClampNeg) 0))))] H := hP
  replace hD : va_D A [(h0, .inr (5, [.ref h1, .ref h2, .ref h3, .ref h4, .int 4])), (h1, .inr (8, [.ref h6, .int 4])), (h4, .inr (8, [.ref h10, .int wp4100311])), (h10, .inl (y 1, 3, .inr (.inl (fun _ => 0)))), (h2, .inr (8, [.ref h7, .int wp4100309])), (h7, .inl (y 1, 200, .inr (.inl (vp_updL (vp_updL (vp_updL wf4100310 ((0 : Int32).toNatClampNeg) 0) ((1 : Int32).toNatClampNeg) 0) ((2 : Int32).toNatClampNeg) 0))))] := hD
  refine lv_iinc (v := 3) (lv' := [(1, .int 3), (0, .ref h0)]) hx hb dX5_findOut_33 hl (k := 0) rfl (by decide +kernel) (by decide) rfl ?_
  clear hl
  clear ls
  intro ls hl
  refine lv_goto (tgt := 13) hx hb dX5_findOut_36 (by decide) ?_
  refine lv_iload_n hx hb dX5_findOut_13 rfl (lv_at hl 0 rfl) ?_
  refine lv_aload_n hx hb dX5_findOut_14 rfl (lv_at hl 1 rfl) ?_
  refine gm_get (D := D) (ci := 5) (v := .ref h1) (C := RX5) (T := TX5) (N := 5) hx hb hg inlX5 hown hK.1 hP 0 rfl rfl 0 (by decide) tX5_0 (hg _ gw_138) rfl dX5_findOut_15 ?_
  refine gm_get (D := D) (ci := 8) (v := .int 4) (C := RX8) (T := TX8) (N := 2) hx hb hg inlX8 hown hK.1 hP 1 rfl rfl 1 (by decide) tX8_1 (hg _ gw_1441) rfl dX5_findOut_18 ?_
  refine lv_icmp_ge (tgt := 39) hx hb dX5_findOut_21 (by decide) (fun c9 => absurd c9 (by decide +kernel)) (fun _ => ?_)
  refine lv_aload_n hx hb dX5_findOut_24 rfl (lv_at hl 1 rfl) ?_
  refine gm_get (D := D) (ci := 5) (v := .ref h2) (C := RX5) (T := TX5) (N := 5) hx hb hg inlX5 hown hK.1 hP 0 rfl rfl 1 (by decide) tX5_1 (hg _ gw_139) rfl dX5_findOut_25 ?_
  refine lv_iload_n hx hb dX5_findOut_28 rfl (lv_at hl 0 rfl) ?_
  refine lv_lconst (v := 0) hx hb dX5_findOut_29 (by decide) ?_
  refine g_av (wr := [(h0, .inr (5, [.ref h1, .ref h2, .ref h3, .ref h4, .int 4])), (h1, .inr (8, [.ref h6, .int 4])), (h4, .inr (8, [.ref h10, .int wp4100311])), (h10, .inl (y 1, 3, .inr (.inl (fun _ => 0))))]) (va_runV (As := [.int 3, .long 0]) (rest := []) ⟨hx, hb, hml, hown, hg⟩ (k_X8_set_48 l D y aS H.size h2 0 h7 wp4100309 (vp_updL (vp_updL (vp_updL wf4100310 ((0 : Int32).toNatClampNeg) 0) ((1 : Int32).toNatClampNeg) 0) ((2 : Int32).toNatClampNeg) 0)) (cwV 2 hg ggV_RX5_29_X8_set rfl rfl rfl (by decide +kernel) ⟨Nat.le_of_ble_eq_true rfl, Nat.le_of_ble_eq_true rfl⟩) (g_preV (q := (RX8, TX8, 2)) hK hP hD [4, 5] rfl (by decide) (ci := 8) (q0 := 4) rfl rfl) rfl rfl hl.1 rfl (lv_room (Nat.le_of_ble_eq_true rfl)) dX5_findOut_30 ⟨Nat.le_of_ble_eq_true rfl, Nat.le_of_ble_eq_true rfl⟩) hP hD hS hA [4, 5] [0, 1, 2, 3] rfl rfl (by decide) (by decide) ?_
  clear hP hD hS H locs
  refine fun u H locs hq hP hD hS => ?_
  replace hP : va_P D vwCl [(h0, .inr (5, [.ref h1, .ref h2, .ref h3, .ref h4, .int 4])), (h1, .inr (8, [.ref h6, .int 4])), (h4, .inr (8, [.ref h10, .int wp4100311])), (h10, .inl (y 1, 3, .inr (.inl (fun _ => 0)))), (h2, .inr (8, [.ref h7, .int wp4100309])), (h7, .inl (y 1, 200, .inr (.inl (vp_updL (vp_updL (vp_updL (vp_updL wf4100310 ((0 : Int32).toNatClampNeg) 0) ((1 : Int32).toNatClampNeg) 0) ((2 : Int32).toNatClampNeg) 0) ((3 : Int32).toNatClampNeg) 0))))] H := hP
  replace hD : va_D A [(h0, .inr (5, [.ref h1, .ref h2, .ref h3, .ref h4, .int 4])), (h1, .inr (8, [.ref h6, .int 4])), (h4, .inr (8, [.ref h10, .int wp4100311])), (h10, .inl (y 1, 3, .inr (.inl (fun _ => 0)))), (h2, .inr (8, [.ref h7, .int wp4100309])), (h7, .inl (y 1, 200, .inr (.inl (vp_updL (vp_updL (vp_updL (vp_updL wf4100310 ((0 : Int32).toNatClampNeg) 0) ((1 : Int32).toNatClampNeg) 0) ((2 : Int32).toNatClampNeg) 0) ((3 : Int32).toNatClampNeg) 0))))] := hD
  refine lv_iinc (v := 4) (lv' := [(1, .int 4), (0, .ref h0)]) hx hb dX5_findOut_33 hl (k := 0) rfl (by decide +kernel) (by decide) rfl ?_
  clear hl
  clear ls
  intro ls hl
  refine lv_goto (tgt := 13) hx hb dX5_findOut_36 (by decide) ?_
  refine lv_iload_n hx hb dX5_findOut_13 rfl (lv_at hl 0 rfl) ?_
  refine lv_aload_n hx hb dX5_findOut_14 rfl (lv_at hl 1 rfl) ?_
  refine gm_get (D := D) (ci := 5) (v := .ref h1) (C := RX5) (T := TX5) (N := 5) hx hb hg inlX5 hown hK.1 hP 0 rfl rfl 0 (by decide) tX5_0 (hg _ gw_138) rfl dX5_findOut_15 ?_
  refine gm_get (D := D) (ci := 8) (v := .int 4) (C := RX8) (T := TX8) (N := 2) hx hb hg inlX8 hown hK.1 hP 1 rfl rfl 1 (by decide) tX8_1 (hg _ gw_1441) rfl dX5_findOut_18 ?_
  refine lv_icmp_ge (tgt := 39) hx hb dX5_findOut_21 (by decide) (fun _ => ?_) (fun c9 => absurd c9 (by decide +kernel))
  refine lv_iconst (v := 0) hx hb dX5_findOut_39 (by decide) ?_
  refine lv_istore_n (lv' := [(1, .int 0), (0, .ref h0)]) hx hb dX5_findOut_40 rfl hl (by decide) rfl ?_
  clear hl
  clear ls
  intro ls hl
  refine lv_iload_n hx hb dX5_findOut_41 rfl (lv_at hl 0 rfl) ?_
  refine lv_aload_n hx hb dX5_findOut_42 rfl (lv_at hl 1 rfl) ?_
  refine gm_get (D := D) (ci := 5) (v := .ref h1) (C := RX5) (T := TX5) (N := 5) hx hb hg inlX5 hown hK.1 hP 0 rfl rfl 0 (by decide) tX5_0 (hg _ gw_138) rfl dX5_findOut_43 ?_
  refine gm_get (D := D) (ci := 8) (v := .int 4) (C := RX8) (T := TX8) (N := 2) hx hb hg inlX8 hown hK.1 hP 1 rfl rfl 1 (by decide) tX8_1 (hg _ gw_1441) rfl dX5_findOut_46 ?_
  refine lv_icmp_ge (tgt := 77) hx hb dX5_findOut_49 (by decide) (fun c9 => absurd c9 (by decide +kernel)) (fun _ => ?_)
  refine lv_iconst (v := 0) hx hb dX5_findOut_52 (by decide) ?_
  refine lv_istore_n (lv' := [(2, .int 0), (1, .int 0), (0, .ref h0)]) hx hb dX5_findOut_53 rfl hl (by decide) rfl ?_
  clear hl
  clear ls
  intro ls hl
  refine lv_iload_n hx hb dX5_findOut_54 rfl (lv_at hl 0 rfl) ?_
  refine lv_iconst (v := 3) hx hb dX5_findOut_55 (by decide) ?_
  refine lv_icmp_ge (tgt := 71) hx hb dX5_findOut_56 (by decide) (fun c9 => absurd c9 (by decide +kernel)) (fun _ => ?_)
  refine lv_aload_n hx hb dX5_findOut_59 rfl (lv_at hl 2 rfl) ?_
  refine lv_iload_n hx hb dX5_findOut_60 rfl (lv_at hl 0 rfl) ?_
  refine lv_iload_n hx hb dX5_findOut_61 rfl (lv_at hl 1 rfl) ?_
  refine g_av (wr := [(h1, .inr (8, [.ref h6, .int 4])), (h2, .inr (8, [.ref h7, .int wp4100309])), (h7, .inl (y 1, 200, .inr (.inl (vp_updL (vp_updL (vp_updL (vp_updL wf4100310 ((0 : Int32).toNatClampNeg) 0) ((1 : Int32).toNatClampNeg) 0) ((2 : Int32).toNatClampNeg) 0) ((3 : Int32).toNatClampNeg) 0))))]) (va_runV (As := [.int 0, .int 0]) (rest := []) ⟨hx, hb, hml, hown, hg⟩ (k_X5_find_0 l D y aS H.size h0 h1 h2 h3 h4 4 h10 wp4100311) (cwV 2 hg ggV_RX5_54_X5_find rfl rfl rfl (by decide +kernel) ⟨Nat.le_of_ble_eq_true rfl, Nat.le_of_ble_eq_true rfl⟩) (g_preV (q := (RX5, TX5, 5)) hK hP hD [0, 2, 3] rfl (by decide) (ci := 5) (q0 := 0) rfl rfl) rfl rfl hl.1 rfl (lv_room (Nat.le_of_ble_eq_true rfl)) dX5_findOut_62 ⟨Nat.le_of_ble_eq_true rfl, Nat.le_of_ble_eq_true rfl⟩) hP hD hS hA [0, 2, 3] [1, 4, 5] rfl rfl (by decide) (by decide) ?_
  clear hP hD hS H locs
  refine fun u H locs hq hP hD hS => ?_
  replace hP : va_P D vwCl [(h1, .inr (8, [.ref h6, .int 4])), (h2, .inr (8, [.ref h7, .int wp4100309])), (h7, .inl (y 1, 200, .inr (.inl (vp_updL (vp_updL (vp_updL (vp_updL wf4100310 ((0 : Int32).toNatClampNeg) 0) ((1 : Int32).toNatClampNeg) 0) ((2 : Int32).toNatClampNeg) 0) ((3 : Int32).toNatClampNeg) 0)))), (h0, .inr (5, [.ref h1, .ref h2, .ref h3, .ref h4, .int 4])), (h4, .inr (8, [.ref h10, .int wp4100311])), (h10, .inl (y 1, 3, .inr (.inl (fun _ => 0))))] H := hP
  replace hD : va_D A [(h1, .inr (8, [.ref h6, .int 4])), (h2, .inr (8, [.ref h7, .int wp4100309])), (h7, .inl (y 1, 200, .inr (.inl (vp_updL (vp_updL (vp_updL (vp_updL wf4100310 ((0 : Int32).toNatClampNeg) 0) ((1 : Int32).toNatClampNeg) 0) ((2 : Int32).toNatClampNeg) 0) ((3 : Int32).toNatClampNeg) 0)))), (h0, .inr (5, [.ref h1, .ref h2, .ref h3, .ref h4, .int 4])), (h4, .inr (8, [.ref h10, .int wp4100311])), (h10, .inl (y 1, 3, .inr (.inl (fun _ => 0))))] := hD
  refine lv_iinc (v := 1) (lv' := [(2, .int 1), (1, .int 0), (0, .ref h0)]) hx hb dX5_findOut_65 hl (k := 0) rfl (by decide +kernel) (by decide) rfl ?_
  clear hl
  clear ls
  intro ls hl
  refine lv_goto (tgt := 54) hx hb dX5_findOut_68 (by decide) ?_
  refine lv_iload_n hx hb dX5_findOut_54 rfl (lv_at hl 0 rfl) ?_
  refine lv_iconst (v := 3) hx hb dX5_findOut_55 (by decide) ?_
  refine lv_icmp_ge (tgt := 71) hx hb dX5_findOut_56 (by decide) (fun c9 => absurd c9 (by decide +kernel)) (fun _ => ?_)
  refine lv_aload_n hx hb dX5_findOut_59 rfl (lv_at hl 2 rfl) ?_
  refine lv_iload_n hx hb dX5_findOut_60 rfl (lv_at hl 0 rfl) ?_
  refine lv_iload_n hx hb dX5_findOut_61 rfl (lv_at hl 1 rfl) ?_
  refine g_av (wr := [(h1, .inr (8, [.ref h6, .int 4])), (h2, .inr (8, [.ref h7, .int wp4100309])), (h7, .inl (y 1, 200, .inr (.inl (vp_updL (vp_updL (vp_updL (vp_updL wf4100310 ((0 : Int32).toNatClampNeg) 0) ((1 : Int32).toNatClampNeg) 0) ((2 : Int32).toNatClampNeg) 0) ((3 : Int32).toNatClampNeg) 0))))]) (va_runV (As := [.int 1, .int 0]) (rest := []) ⟨hx, hb, hml, hown, hg⟩ (k_X5_find_1 l D y aS H.size h0 h1 h2 h3 h4 4 h10 wp4100311) (cwV 2 hg ggV_RX5_54_X5_find rfl rfl rfl (by decide +kernel) ⟨Nat.le_of_ble_eq_true rfl, Nat.le_of_ble_eq_true rfl⟩) (g_preV (q := (RX5, TX5, 5)) hK hP hD [3, 4, 5] rfl (by decide) (ci := 5) (q0 := 3) rfl rfl) rfl rfl hl.1 rfl (lv_room (Nat.le_of_ble_eq_true rfl)) dX5_findOut_62 ⟨Nat.le_of_ble_eq_true rfl, Nat.le_of_ble_eq_true rfl⟩) hP hD hS hA [3, 4, 5] [0, 1, 2] rfl rfl (by decide) (by decide) ?_
  clear hP hD hS H locs
  refine fun u H locs hq hP hD hS => ?_
  replace hP : va_P D vwCl [(h1, .inr (8, [.ref h6, .int 4])), (h2, .inr (8, [.ref h7, .int wp4100309])), (h7, .inl (y 1, 200, .inr (.inl (vp_updL (vp_updL (vp_updL (vp_updL wf4100310 ((0 : Int32).toNatClampNeg) 0) ((1 : Int32).toNatClampNeg) 0) ((2 : Int32).toNatClampNeg) 0) ((3 : Int32).toNatClampNeg) 0)))), (h0, .inr (5, [.ref h1, .ref h2, .ref h3, .ref h4, .int 4])), (h4, .inr (8, [.ref h10, .int wp4100311])), (h10, .inl (y 1, 3, .inr (.inl (fun _ => 0))))] H := hP
  replace hD : va_D A [(h1, .inr (8, [.ref h6, .int 4])), (h2, .inr (8, [.ref h7, .int wp4100309])), (h7, .inl (y 1, 200, .inr (.inl (vp_updL (vp_updL (vp_updL (vp_updL wf4100310 ((0 : Int32).toNatClampNeg) 0) ((1 : Int32).toNatClampNeg) 0) ((2 : Int32).toNatClampNeg) 0) ((3 : Int32).toNatClampNeg) 0)))), (h0, .inr (5, [.ref h1, .ref h2, .ref h3, .ref h4, .int 4])), (h4, .inr (8, [.ref h10, .int wp4100311])), (h10, .inl (y 1, 3, .inr (.inl (fun _ => 0))))] := hD
  refine lv_iinc (v := 2) (lv' := [(2, .int 2), (1, .int 0), (0, .ref h0)]) hx hb dX5_findOut_65 hl (k := 0) rfl (by decide +kernel) (by decide) rfl ?_
  clear hl
  clear ls
  intro ls hl
  refine lv_goto (tgt := 54) hx hb dX5_findOut_68 (by decide) ?_
  refine lv_iload_n hx hb dX5_findOut_54 rfl (lv_at hl 0 rfl) ?_
  refine lv_iconst (v := 3) hx hb dX5_findOut_55 (by decide) ?_
  refine lv_icmp_ge (tgt := 71) hx hb dX5_findOut_56 (by decide) (fun c9 => absurd c9 (by decide +kernel)) (fun _ => ?_)
  refine lv_aload_n hx hb dX5_findOut_59 rfl (lv_at hl 2 rfl) ?_
  refine lv_iload_n hx hb dX5_findOut_60 rfl (lv_at hl 0 rfl) ?_
  refine lv_iload_n hx hb dX5_findOut_61 rfl (lv_at hl 1 rfl) ?_
  refine g_av (wr := [(h1, .inr (8, [.ref h6, .int 4])), (h2, .inr (8, [.ref h7, .int wp4100309])), (h7, .inl (y 1, 200, .inr (.inl (vp_updL (vp_updL (vp_updL (vp_updL wf4100310 ((0 : Int32).toNatClampNeg) 0) ((1 : Int32).toNatClampNeg) 0) ((2 : Int32).toNatClampNeg) 0) ((3 : Int32).toNatClampNeg) 0))))]) (va_runV (As := [.int 2, .int 0]) (rest := []) ⟨hx, hb, hml, hown, hg⟩ (k_X5_find_2 l D y aS H.size h0 h1 h2 h3 h4 4 h10 wp4100311) (cwV 2 hg ggV_RX5_54_X5_find rfl rfl rfl (by decide +kernel) ⟨Nat.le_of_ble_eq_true rfl, Nat.le_of_ble_eq_true rfl⟩) (g_preV (q := (RX5, TX5, 5)) hK hP hD [3, 4, 5] rfl (by decide) (ci := 5) (q0 := 3) rfl rfl) rfl rfl hl.1 rfl (lv_room (Nat.le_of_ble_eq_true rfl)) dX5_findOut_62 ⟨Nat.le_of_ble_eq_true rfl, Nat.le_of_ble_eq_true rfl⟩) hP hD hS hA [3, 4, 5] [0, 1, 2] rfl rfl (by decide) (by decide) ?_
  clear hP hD hS H locs
  refine fun u H locs hq hP hD hS => ?_
  replace hP : va_P D vwCl [(h1, .inr (8, [.ref h6, .int 4])), (h2, .inr (8, [.ref h7, .int wp4100309])), (h7, .inl (y 1, 200, .inr (.inl (vp_updL (vp_updL (vp_updL (vp_updL wf4100310 ((0 : Int32).toNatClampNeg) 0) ((1 : Int32).toNatClampNeg) 0) ((2 : Int32).toNatClampNeg) 0) ((3 : Int32).toNatClampNeg) 0)))), (h0, .inr (5, [.ref h1, .ref h2, .ref h3, .ref h4, .int 4])), (h4, .inr (8, [.ref h10, .int wp4100311])), (h10, .inl (y 1, 3, .inr (.inl (fun _ => 0))))] H := hP
  replace hD : va_D A [(h1, .inr (8, [.ref h6, .int 4])), (h2, .inr (8, [.ref h7, .int wp4100309])), (h7, .inl (y 1, 200, .inr (.inl (vp_updL (vp_updL (vp_updL (vp_updL wf4100310 ((0 : Int32).toNatClampNeg) 0) ((1 : Int32).toNatClampNeg) 0) ((2 : Int32).toNatClampNeg) 0) ((3 : Int32).toNatClampNeg) 0)))), (h0, .inr (5, [.ref h1, .ref h2, .ref h3, .ref h4, .int 4])), (h4, .inr (8, [.ref h10, .int wp4100311])), (h10, .inl (y 1, 3, .inr (.inl (fun _ => 0))))] := hD
  refine lv_iinc (v := 3) (lv' := [(2, .int 3), (1, .int 0), (0, .ref h0)]) hx hb dX5_findOut_65 hl (k := 0) rfl (by decide +kernel) (by decide) rfl ?_
  clear hl
  clear ls
  intro ls hl
  refine lv_goto (tgt := 54) hx hb dX5_findOut_68 (by decide) ?_
  refine lv_iload_n hx hb dX5_findOut_54 rfl (lv_at hl 0 rfl) ?_
  refine lv_iconst (v := 3) hx hb dX5_findOut_55 (by decide) ?_
  refine lv_icmp_ge (tgt := 71) hx hb dX5_findOut_56 (by decide) (fun _ => ?_) (fun c9 => absurd c9 (by decide +kernel))
  refine lv_iinc (v := 1) (lv' := [(1, .int 1), (2, .int 3), (0, .ref h0)]) hx hb dX5_findOut_71 hl (k := 1) rfl (by decide +kernel) (by decide) rfl ?_
  clear hl
  clear ls
  intro ls hl
  refine lv_goto (tgt := 41) hx hb dX5_findOut_74 (by decide) ?_
  refine lv_iload_n hx hb dX5_findOut_41 rfl (lv_at hl 0 rfl) ?_
  refine lv_aload_n hx hb dX5_findOut_42 rfl (lv_at hl 2 rfl) ?_
  refine gm_get (D := D) (ci := 5) (v := .ref h1) (C := RX5) (T := TX5) (N := 5) hx hb hg inlX5 hown hK.1 hP 3 rfl rfl 0 (by decide) tX5_0 (hg _ gw_138) rfl dX5_findOut_43 ?_
  refine gm_get (D := D) (ci := 8) (v := .int 4) (C := RX8) (T := TX8) (N := 2) hx hb hg inlX8 hown hK.1 hP 0 rfl rfl 1 (by decide) tX8_1 (hg _ gw_1441) rfl dX5_findOut_46 ?_
  refine lv_icmp_ge (tgt := 77) hx hb dX5_findOut_49 (by decide) (fun c9 => absurd c9 (by decide +kernel)) (fun _ => ?_)
  refine lv_iconst (v := 0) hx hb dX5_findOut_52 (by decide) ?_
  refine lv_istore_n (lv' := [(2, .int 0), (1, .int 1), (0, .ref h0)]) hx hb dX5_findOut_53 rfl hl (by decide) rfl ?_
  clear hl
  clear ls
  intro ls hl
  refine lv_iload_n hx hb dX5_findOut_54 rfl (lv_at hl 0 rfl) ?_
  refine lv_iconst (v := 3) hx hb dX5_findOut_55 (by decide) ?_
  refine lv_icmp_ge (tgt := 71) hx hb dX5_findOut_56 (by decide) (fun c9 => absurd c9 (by decide +kernel)) (fun _ => ?_)
  refine lv_aload_n hx hb dX5_findOut_59 rfl (lv_at hl 2 rfl) ?_
  refine lv_iload_n hx hb dX5_findOut_60 rfl (lv_at hl 0 rfl) ?_
  refine lv_iload_n hx hb dX5_findOut_61 rfl (lv_at hl 1 rfl) ?_
  refine g_av (wr := [(h1, .inr (8, [.ref h6, .int 4])), (h2, .inr (8, [.ref h7, .int wp4100309])), (h7, .inl (y 1, 200, .inr (.inl (vp_updL (vp_updL (vp_updL (vp_updL wf4100310 ((0 : Int32).toNatClampNeg) 0) ((1 : Int32).toNatClampNeg) 0) ((2 : Int32).toNatClampNeg) 0) ((3 : Int32).toNatClampNeg) 0))))]) (va_runV (As := [.int 0, .int 1]) (rest := []) ⟨hx, hb, hml, hown, hg⟩ (k_X5_find_3 l D y aS H.size h0 h1 h2 h3 h4 4 h10 wp4100311) (cwV 2 hg ggV_RX5_54_X5_find rfl rfl rfl (by decide +kernel) ⟨Nat.le_of_ble_eq_true rfl, Nat.le_of_ble_eq_true rfl⟩) (g_preV (q := (RX5, TX5, 5)) hK hP hD [3, 4, 5] rfl (by decide) (ci := 5) (q0 := 3) rfl rfl) rfl rfl hl.1 rfl (lv_room (Nat.le_of_ble_eq_true rfl)) dX5_findOut_62 ⟨Nat.le_of_ble_eq_true rfl, Nat.le_of_ble_eq_true rfl⟩) hP hD hS hA [3, 4, 5] [0, 1, 2] rfl rfl (by decide) (by decide) ?_
  clear hP hD hS H locs
  refine fun u H locs hq hP hD hS => ?_
  replace hP : va_P D vwCl [(h1, .inr (8, [.ref h6, .int 4])), (h2, .inr (8, [.ref h7, .int wp4100309])), (h7, .inl (y 1, 200, .inr (.inl (vp_updL (vp_updL (vp_updL (vp_updL wf4100310 ((0 : Int32).toNatClampNeg) 0) ((1 : Int32).toNatClampNeg) 0) ((2 : Int32).toNatClampNeg) 0) ((3 : Int32).toNatClampNeg) 0)))), (h0, .inr (5, [.ref h1, .ref h2, .ref h3, .ref h4, .int 4])), (h4, .inr (8, [.ref h10, .int wp4100311])), (h10, .inl (y 1, 3, .inr (.inl (fun _ => 0))))] H := hP
  replace hD : va_D A [(h1, .inr (8, [.ref h6, .int 4])), (h2, .inr (8, [.ref h7, .int wp4100309])), (h7, .inl (y 1, 200, .inr (.inl (vp_updL (vp_updL (vp_updL (vp_updL wf4100310 ((0 : Int32).toNatClampNeg) 0) ((1 : Int32).toNatClampNeg) 0) ((2 : Int32).toNatClampNeg) 0) ((3 : Int32).toNatClampNeg) 0)))), (h0, .inr (5, [.ref h1, .ref h2, .ref h3, .ref h4, .int 4])), (h4, .inr (8, [.ref h10, .int wp4100311])), (h10, .inl (y 1, 3, .inr (.inl (fun _ => 0))))] := hD
  refine lv_iinc (v := 1) (lv' := [(2, .int 1), (1, .int 1), (0, .ref h0)]) hx hb dX5_findOut_65 hl (k := 0) rfl (by decide +kernel) (by decide) rfl ?_
  clear hl
  clear ls
  intro ls hl
  refine lv_goto (tgt := 54) hx hb dX5_findOut_68 (by decide) ?_
  refine lv_iload_n hx hb dX5_findOut_54 rfl (lv_at hl 0 rfl) ?_
  refine lv_iconst (v := 3) hx hb dX5_findOut_55 (by decide) ?_
  refine lv_icmp_ge (tgt := 71) hx hb dX5_findOut_56 (by decide) (fun c9 => absurd c9 (by decide +kernel)) (fun _ => ?_)
  refine lv_aload_n hx hb dX5_findOut_59 rfl (lv_at hl 2 rfl) ?_
  refine lv_iload_n hx hb dX5_findOut_60 rfl (lv_at hl 0 rfl) ?_
  refine lv_iload_n hx hb dX5_findOut_61 rfl (lv_at hl 1 rfl) ?_
  refine g_av (wr := [(h1, .inr (8, [.ref h6, .int 4])), (h2, .inr (8, [.ref h7, .int wp4100309])), (h7, .inl (y 1, 200, .inr (.inl (vp_updL (vp_updL (vp_updL (vp_updL wf4100310 ((0 : Int32).toNatClampNeg) 0) ((1 : Int32).toNatClampNeg) 0) ((2 : Int32).toNatClampNeg) 0) ((3 : Int32).toNatClampNeg) 0))))]) (va_runV (As := [.int 1, .int 1]) (rest := []) ⟨hx, hb, hml, hown, hg⟩ (k_X5_find_4 l D y aS H.size h0 h1 h2 h3 h4 4 h10 wp4100311) (cwV 2 hg ggV_RX5_54_X5_find rfl rfl rfl (by decide +kernel) ⟨Nat.le_of_ble_eq_true rfl, Nat.le_of_ble_eq_true rfl⟩) (g_preV (q := (RX5, TX5, 5)) hK hP hD [3, 4, 5] rfl (by decide) (ci := 5) (q0 := 3) rfl rfl) rfl rfl hl.1 rfl (lv_room (Nat.le_of_ble_eq_true rfl)) dX5_findOut_62 ⟨Nat.le_of_ble_eq_true rfl, Nat.le_of_ble_eq_true rfl⟩) hP hD hS hA [3, 4, 5] [0, 1, 2] rfl rfl (by decide) (by decide) ?_
  clear hP hD hS H locs
  refine fun u H locs hq hP hD hS => ?_
  replace hP : va_P D vwCl [(h1, .inr (8, [.ref h6, .int 4])), (h2, .inr (8, [.ref h7, .int wp4100309])), (h7, .inl (y 1, 200, .inr (.inl (vp_updL (vp_updL (vp_updL (vp_updL wf4100310 ((0 : Int32).toNatClampNeg) 0) ((1 : Int32).toNatClampNeg) 0) ((2 : Int32).toNatClampNeg) 0) ((3 : Int32).toNatClampNeg) 0)))), (h0, .inr (5, [.ref h1, .ref h2, .ref h3, .ref h4, .int 4])), (h4, .inr (8, [.ref h10, .int wp4100311])), (h10, .inl (y 1, 3, .inr (.inl (fun _ => 0))))] H := hP
  replace hD : va_D A [(h1, .inr (8, [.ref h6, .int 4])), (h2, .inr (8, [.ref h7, .int wp4100309])), (h7, .inl (y 1, 200, .inr (.inl (vp_updL (vp_updL (vp_updL (vp_updL wf4100310 ((0 : Int32).toNatClampNeg) 0) ((1 : Int32).toNatClampNeg) 0) ((2 : Int32).toNatClampNeg) 0) ((3 : Int32).toNatClampNeg) 0)))), (h0, .inr (5, [.ref h1, .ref h2, .ref h3, .ref h4, .int 4])), (h4, .inr (8, [.ref h10, .int wp4100311])), (h10, .inl (y 1, 3, .inr (.inl (fun _ => 0))))] := hD
  refine lv_iinc (v := 2) (lv' := [(2, .int 2), (1, .int 1), (0, .ref h0)]) hx hb dX5_findOut_65 hl (k := 0) rfl (by decide +kernel) (by decide) rfl ?_
  clear hl
  clear ls
  intro ls hl
  refine lv_goto (tgt := 54) hx hb dX5_findOut_68 (by decide) ?_
  refine lv_iload_n hx hb dX5_findOut_54 rfl (lv_at hl 0 rfl) ?_
  refine lv_iconst (v := 3) hx hb dX5_findOut_55 (by decide) ?_
  refine lv_icmp_ge (tgt := 71) hx hb dX5_findOut_56 (by decide) (fun c9 => absurd c9 (by decide +kernel)) (fun _ => ?_)
  refine lv_aload_n hx hb dX5_findOut_59 rfl (lv_at hl 2 rfl) ?_
  refine lv_iload_n hx hb dX5_findOut_60 rfl (lv_at hl 0 rfl) ?_
  refine lv_iload_n hx hb dX5_findOut_61 rfl (lv_at hl 1 rfl) ?_
  refine g_av (wr := [(h1, .inr (8, [.ref h6, .int 4])), (h2, .inr (8, [.ref h7, .int wp4100309])), (h7, .inl (y 1, 200, .inr (.inl (vp_updL (vp_updL (vp_updL (vp_updL wf4100310 ((0 : Int32).toNatClampNeg) 0) ((1 : Int32).toNatClampNeg) 0) ((2 : Int32).toNatClampNeg) 0) ((3 : Int32).toNatClampNeg) 0))))]) (va_runV (As := [.int 2, .int 1]) (rest := []) ⟨hx, hb, hml, hown, hg⟩ (k_X5_find_5 l D y aS H.size h0 h1 h2 h3 h4 4 h10 wp4100311) (cwV 2 hg ggV_RX5_54_X5_find rfl rfl rfl (by decide +kernel) ⟨Nat.le_of_ble_eq_true rfl, Nat.le_of_ble_eq_true rfl⟩) (g_preV (q := (RX5, TX5, 5)) hK hP hD [3, 4, 5] rfl (by decide) (ci := 5) (q0 := 3) rfl rfl) rfl rfl hl.1 rfl (lv_room (Nat.le_of_ble_eq_true rfl)) dX5_findOut_62 ⟨Nat.le_of_ble_eq_true rfl, Nat.le_of_ble_eq_true rfl⟩) hP hD hS hA [3, 4, 5] [0, 1, 2] rfl rfl (by decide) (by decide) ?_
  clear hP hD hS H locs
  refine fun u H locs hq hP hD hS => ?_
  replace hP : va_P D vwCl [(h1, .inr (8, [.ref h6, .int 4])), (h2, .inr (8, [.ref h7, .int wp4100309])), (h7, .inl (y 1, 200, .inr (.inl (vp_updL (vp_updL (vp_updL (vp_updL wf4100310 ((0 : Int32).toNatClampNeg) 0) ((1 : Int32).toNatClampNeg) 0) ((2 : Int32).toNatClampNeg) 0) ((3 : Int32).toNatClampNeg) 0)))), (h0, .inr (5, [.ref h1, .ref h2, .ref h3, .ref h4, .int 4])), (h4, .inr (8, [.ref h10, .int wp4100311])), (h10, .inl (y 1, 3, .inr (.inl (fun _ => 0))))] H := hP
  replace hD : va_D A [(h1, .inr (8, [.ref h6, .int 4])), (h2, .inr (8, [.ref h7, .int wp4100309])), (h7, .inl (y 1, 200, .inr (.inl (vp_updL (vp_updL (vp_updL (vp_updL wf4100310 ((0 : Int32).toNatClampNeg) 0) ((1 : Int32).toNatClampNeg) 0) ((2 : Int32).toNatClampNeg) 0) ((3 : Int32).toNatClampNeg) 0)))), (h0, .inr (5, [.ref h1, .ref h2, .ref h3, .ref h4, .int 4])), (h4, .inr (8, [.ref h10, .int wp4100311])), (h10, .inl (y 1, 3, .inr (.inl (fun _ => 0))))] := hD
  refine lv_iinc (v := 3) (lv' := [(2, .int 3), (1, .int 1), (0, .ref h0)]) hx hb dX5_findOut_65 hl (k := 0) rfl (by decide +kernel) (by decide) rfl ?_
  clear hl
  clear ls
  intro ls hl
  refine lv_goto (tgt := 54) hx hb dX5_findOut_68 (by decide) ?_
  refine lv_iload_n hx hb dX5_findOut_54 rfl (lv_at hl 0 rfl) ?_
  refine lv_iconst (v := 3) hx hb dX5_findOut_55 (by decide) ?_
  refine lv_icmp_ge (tgt := 71) hx hb dX5_findOut_56 (by decide) (fun _ => ?_) (fun c9 => absurd c9 (by decide +kernel))
  refine lv_iinc (v := 2) (lv' := [(1, .int 2), (2, .int 3), (0, .ref h0)]) hx hb dX5_findOut_71 hl (k := 1) rfl (by decide +kernel) (by decide) rfl ?_
  clear hl
  clear ls
  intro ls hl
  refine lv_goto (tgt := 41) hx hb dX5_findOut_74 (by decide) ?_
  refine lv_iload_n hx hb dX5_findOut_41 rfl (lv_at hl 0 rfl) ?_
  refine lv_aload_n hx hb dX5_findOut_42 rfl (lv_at hl 2 rfl) ?_
  refine gm_get (D := D) (ci := 5) (v := .ref h1) (C := RX5) (T := TX5) (N := 5) hx hb hg inlX5 hown hK.1 hP 3 rfl rfl 0 (by decide) tX5_0 (hg _ gw_138) rfl dX5_findOut_43 ?_
  refine gm_get (D := D) (ci := 8) (v := .int 4) (C := RX8) (T := TX8) (N := 2) hx hb hg inlX8 hown hK.1 hP 0 rfl rfl 1 (by decide) tX8_1 (hg _ gw_1441) rfl dX5_findOut_46 ?_
  refine lv_icmp_ge (tgt := 77) hx hb dX5_findOut_49 (by decide) (fun c9 => absurd c9 (by decide +kernel)) (fun _ => ?_)
  refine lv_iconst (v := 0) hx hb dX5_findOut_52 (by decide) ?_
  refine lv_istore_n (lv' := [(2, .int 0), (1, .int 2), (0, .ref h0)]) hx hb dX5_findOut_53 rfl hl (by decide) rfl ?_
  clear hl
  clear ls
  intro ls hl
  refine lv_iload_n hx hb dX5_findOut_54 rfl (lv_at hl 0 rfl) ?_
  refine lv_iconst (v := 3) hx hb dX5_findOut_55 (by decide) ?_
  refine lv_icmp_ge (tgt := 71) hx hb dX5_findOut_56 (by decide) (fun c9 => absurd c9 (by decide +kernel)) (fun _ => ?_)
  refine lv_aload_n hx hb dX5_findOut_59 rfl (lv_at hl 2 rfl) ?_
  refine lv_iload_n hx hb dX5_findOut_60 rfl (lv_at hl 0 rfl) ?_
  refine lv_iload_n hx hb dX5_findOut_61 rfl (lv_at hl 1 rfl) ?_
  refine g_av (wr := [(h1, .inr (8, [.ref h6, .int 4])), (h2, .inr (8, [.ref h7, .int wp4100309])), (h7, .inl (y 1, 200, .inr (.inl (vp_updL (vp_updL (vp_updL (vp_updL wf4100310 ((0 : Int32).toNatClampNeg) 0) ((1 : Int32).toNatClampNeg) 0) ((2 : Int32).toNatClampNeg) 0) ((3 : Int32).toNatClampNeg) 0))))]) (va_runV (As := [.int 0, .int 2]) (rest := []) ⟨hx, hb, hml, hown, hg⟩ (k_X5_find_6 l D y aS H.size h0 h1 h2 h3 h4 4 h10 wp4100311) (cwV 2 hg ggV_RX5_54_X5_find rfl rfl rfl (by decide +kernel) ⟨Nat.le_of_ble_eq_true rfl, Nat.le_of_ble_eq_true rfl⟩) (g_preV (q := (RX5, TX5, 5)) hK hP hD [3, 4, 5] rfl (by decide) (ci := 5) (q0 := 3) rfl rfl) rfl rfl hl.1 rfl (lv_room (Nat.le_of_ble_eq_true rfl)) dX5_findOut_62 ⟨Nat.le_of_ble_eq_true rfl, Nat.le_of_ble_eq_true rfl⟩) hP hD hS hA [3, 4, 5] [0, 1, 2] rfl rfl (by decide) (by decide) ?_
  clear hP hD hS H locs
  refine fun u H locs hq hP hD hS => ?_
  replace hP : va_P D vwCl [(h1, .inr (8, [.ref h6, .int 4])), (h2, .inr (8, [.ref h7, .int wp4100309])), (h7, .inl (y 1, 200, .inr (.inl (vp_updL (vp_updL (vp_updL (vp_updL wf4100310 ((0 : Int32).toNatClampNeg) 0) ((1 : Int32).toNatClampNeg) 0) ((2 : Int32).toNatClampNeg) 0) ((3 : Int32).toNatClampNeg) 0)))), (h0, .inr (5, [.ref h1, .ref h2, .ref h3, .ref h4, .int 4])), (h4, .inr (8, [.ref h10, .int wp4100311])), (h10, .inl (y 1, 3, .inr (.inl (fun _ => 0))))] H := hP
  replace hD : va_D A [(h1, .inr (8, [.ref h6, .int 4])), (h2, .inr (8, [.ref h7, .int wp4100309])), (h7, .inl (y 1, 200, .inr (.inl (vp_updL (vp_updL (vp_updL (vp_updL wf4100310 ((0 : Int32).toNatClampNeg) 0) ((1 : Int32).toNatClampNeg) 0) ((2 : Int32).toNatClampNeg) 0) ((3 : Int32).toNatClampNeg) 0)))), (h0, .inr (5, [.ref h1, .ref h2, .ref h3, .ref h4, .int 4])), (h4, .inr (8, [.ref h10, .int wp4100311])), (h10, .inl (y 1, 3, .inr (.inl (fun _ => 0))))] := hD
  refine lv_iinc (v := 1) (lv' := [(2, .int 1), (1, .int 2), (0, .ref h0)]) hx hb dX5_findOut_65 hl (k := 0) rfl (by decide +kernel) (by decide) rfl ?_
  clear hl
  clear ls
  intro ls hl
  refine lv_goto (tgt := 54) hx hb dX5_findOut_68 (by decide) ?_
  refine lv_iload_n hx hb dX5_findOut_54 rfl (lv_at hl 0 rfl) ?_
  refine lv_iconst (v := 3) hx hb dX5_findOut_55 (by decide) ?_
  refine lv_icmp_ge (tgt := 71) hx hb dX5_findOut_56 (by decide) (fun c9 => absurd c9 (by decide +kernel)) (fun _ => ?_)
  refine lv_aload_n hx hb dX5_findOut_59 rfl (lv_at hl 2 rfl) ?_
  refine lv_iload_n hx hb dX5_findOut_60 rfl (lv_at hl 0 rfl) ?_
  refine lv_iload_n hx hb dX5_findOut_61 rfl (lv_at hl 1 rfl) ?_
  refine g_av (wr := [(h1, .inr (8, [.ref h6, .int 4])), (h2, .inr (8, [.ref h7, .int wp4100309])), (h7, .inl (y 1, 200, .inr (.inl (vp_updL (vp_updL (vp_updL (vp_updL wf4100310 ((0 : Int32).toNatClampNeg) 0) ((1 : Int32).toNatClampNeg) 0) ((2 : Int32).toNatClampNeg) 0) ((3 : Int32).toNatClampNeg) 0))))]) (va_runV (As := [.int 1, .int 2]) (rest := []) ⟨hx, hb, hml, hown, hg⟩ (k_X5_find_7 l D y aS H.size h0 h1 h2 h3 h4 4 h10 wp4100311) (cwV 2 hg ggV_RX5_54_X5_find rfl rfl rfl (by decide +kernel) ⟨Nat.le_of_ble_eq_true rfl, Nat.le_of_ble_eq_true rfl⟩) (g_preV (q := (RX5, TX5, 5)) hK hP hD [3, 4, 5] rfl (by decide) (ci := 5) (q0 := 3) rfl rfl) rfl rfl hl.1 rfl (lv_room (Nat.le_of_ble_eq_true rfl)) dX5_findOut_62 ⟨Nat.le_of_ble_eq_true rfl, Nat.le_of_ble_eq_true rfl⟩) hP hD hS hA [3, 4, 5] [0, 1, 2] rfl rfl (by decide) (by decide) ?_
  clear hP hD hS H locs
  refine fun u H locs hq hP hD hS => ?_
  replace hP : va_P D vwCl [(h1, .inr (8, [.ref h6, .int 4])), (h2, .inr (8, [.ref h7, .int wp4100309])), (h7, .inl (y 1, 200, .inr (.inl (vp_updL (vp_updL (vp_updL (vp_updL wf4100310 ((0 : Int32).toNatClampNeg) 0) ((1 : Int32).toNatClampNeg) 0) ((2 : Int32).toNatClampNeg) 0) ((3 : Int32).toNatClampNeg) 0)))), (h0, .inr (5, [.ref h1, .ref h2, .ref h3, .ref h4, .int 4])), (h4, .inr (8, [.ref h10, .int wp4100311])), (h10, .inl (y 1, 3, .inr (.inl (fun _ => 0))))] H := hP
  replace hD : va_D A [(h1, .inr (8, [.ref h6, .int 4])), (h2, .inr (8, [.ref h7, .int wp4100309])), (h7, .inl (y 1, 200, .inr (.inl (vp_updL (vp_updL (vp_updL (vp_updL wf4100310 ((0 : Int32).toNatClampNeg) 0) ((1 : Int32).toNatClampNeg) 0) ((2 : Int32).toNatClampNeg) 0) ((3 : Int32).toNatClampNeg) 0)))), (h0, .inr (5, [.ref h1, .ref h2, .ref h3, .ref h4, .int 4])), (h4, .inr (8, [.ref h10, .int wp4100311])), (h10, .inl (y 1, 3, .inr (.inl (fun _ => 0))))] := hD
  refine lv_iinc (v := 2) (lv' := [(2, .int 2), (1, .int 2), (0, .ref h0)]) hx hb dX5_findOut_65 hl (k := 0) rfl (by decide +kernel) (by decide) rfl ?_
  clear hl
  clear ls
  intro ls hl
  refine lv_goto (tgt := 54) hx hb dX5_findOut_68 (by decide) ?_
  refine lv_iload_n hx hb dX5_findOut_54 rfl (lv_at hl 0 rfl) ?_
  refine lv_iconst (v := 3) hx hb dX5_findOut_55 (by decide) ?_
  refine lv_icmp_ge (tgt := 71) hx hb dX5_findOut_56 (by decide) (fun c9 => absurd c9 (by decide +kernel)) (fun _ => ?_)
  refine lv_aload_n hx hb dX5_findOut_59 rfl (lv_at hl 2 rfl) ?_
  refine lv_iload_n hx hb dX5_findOut_60 rfl (lv_at hl 0 rfl) ?_
  refine lv_iload_n hx hb dX5_findOut_61 rfl (lv_at hl 1 rfl) ?_
  refine g_av (wr := [(h1, .inr (8, [.ref h6, .int 4])), (h2, .inr (8, [.ref h7, .int wp4100309])), (h7, .inl (y 1, 200, .inr (.inl (vp_updL (vp_updL (vp_updL (vp_updL wf4100310 ((0 : Int32).toNatClampNeg) 0) ((1 : Int32).toNatClampNeg) 0) ((2 : Int32).toNatClampNeg) 0) ((3 : Int32).toNatClampNeg) 0))))]) (va_runV (As := [.int 2, .int 2]) (rest := []) ⟨hx, hb, hml, hown, hg⟩ (k_X5_find_8 l D y aS H.size h0 h1 h2 h3 h4 4 h10 wp4100311) (cwV 2 hg ggV_RX5_54_X5_find rfl rfl rfl (by decide +kernel) ⟨Nat.le_of_ble_eq_true rfl, Nat.le_of_ble_eq_true rfl⟩) (g_preV (q := (RX5, TX5, 5)) hK hP hD [3, 4, 5] rfl (by decide) (ci := 5) (q0 := 3) rfl rfl) rfl rfl hl.1 rfl (lv_room (Nat.le_of_ble_eq_true rfl)) dX5_findOut_62 ⟨Nat.le_of_ble_eq_true rfl, Nat.le_of_ble_eq_true rfl⟩) hP hD hS hA [3, 4, 5] [0, 1, 2] rfl rfl (by decide) (by decide) ?_
  clear hP hD hS H locs
  refine fun u H locs hq hP hD hS => ?_
  replace hP : va_P D vwCl [(h1, .inr (8, [.ref h6, .int 4])), (h2, .inr (8, [.ref h7, .int wp4100309])), (h7, .inl (y 1, 200, .inr (.inl (vp_updL (vp_updL (vp_updL (vp_updL wf4100310 ((0 : Int32).toNatClampNeg) 0) ((1 : Int32).toNatClampNeg) 0) ((2 : Int32).toNatClampNeg) 0) ((3 : Int32).toNatClampNeg) 0)))), (h0, .inr (5, [.ref h1, .ref h2, .ref h3, .ref h4, .int 4])), (h4, .inr (8, [.ref h10, .int wp4100311])), (h10, .inl (y 1, 3, .inr (.inl (fun _ => 0))))] H := hP
  replace hD : va_D A [(h1, .inr (8, [.ref h6, .int 4])), (h2, .inr (8, [.ref h7, .int wp4100309])), (h7, .inl (y 1, 200, .inr (.inl (vp_updL (vp_updL (vp_updL (vp_updL wf4100310 ((0 : Int32).toNatClampNeg) 0) ((1 : Int32).toNatClampNeg) 0) ((2 : Int32).toNatClampNeg) 0) ((3 : Int32).toNatClampNeg) 0)))), (h0, .inr (5, [.ref h1, .ref h2, .ref h3, .ref h4, .int 4])), (h4, .inr (8, [.ref h10, .int wp4100311])), (h10, .inl (y 1, 3, .inr (.inl (fun _ => 0))))] := hD
  refine lv_iinc (v := 3) (lv' := [(2, .int 3), (1, .int 2), (0, .ref h0)]) hx hb dX5_findOut_65 hl (k := 0) rfl (by decide +kernel) (by decide) rfl ?_
  clear hl
  clear ls
  intro ls hl
  refine lv_goto (tgt := 54) hx hb dX5_findOut_68 (by decide) ?_
  refine lv_iload_n hx hb dX5_findOut_54 rfl (lv_at hl 0 rfl) ?_
  refine lv_iconst (v := 3) hx hb dX5_findOut_55 (by decide) ?_
  refine lv_icmp_ge (tgt := 71) hx hb dX5_findOut_56 (by decide) (fun _ => ?_) (fun c9 => absurd c9 (by decide +kernel))
  refine lv_iinc (v := 3) (lv' := [(1, .int 3), (2, .int 3), (0, .ref h0)]) hx hb dX5_findOut_71 hl (k := 1) rfl (by decide +kernel) (by decide) rfl ?_
  clear hl
  clear ls
  intro ls hl
  refine lv_goto (tgt := 41) hx hb dX5_findOut_74 (by decide) ?_
  refine lv_iload_n hx hb dX5_findOut_41 rfl (lv_at hl 0 rfl) ?_
  refine lv_aload_n hx hb dX5_findOut_42 rfl (lv_at hl 2 rfl) ?_
  refine gm_get (D := D) (ci := 5) (v := .ref h1) (C := RX5) (T := TX5) (N := 5) hx hb hg inlX5 hown hK.1 hP 3 rfl rfl 0 (by decide) tX5_0 (hg _ gw_138) rfl dX5_findOut_43 ?_
  refine gm_get (D := D) (ci := 8) (v := .int 4) (C := RX8) (T := TX8) (N := 2) hx hb hg inlX8 hown hK.1 hP 0 rfl rfl 1 (by decide) tX8_1 (hg _ gw_1441) rfl dX5_findOut_46 ?_
  refine lv_icmp_ge (tgt := 77) hx hb dX5_findOut_49 (by decide) (fun c9 => absurd c9 (by decide +kernel)) (fun _ => ?_)
  refine lv_iconst (v := 0) hx hb dX5_findOut_52 (by decide) ?_
  refine lv_istore_n (lv' := [(2, .int 0), (1, .int 3), (0, .ref h0)]) hx hb dX5_findOut_53 rfl hl (by decide) rfl ?_
  clear hl
  clear ls
  intro ls hl
  refine lv_iload_n hx hb dX5_findOut_54 rfl (lv_at hl 0 rfl) ?_
  refine lv_iconst (v := 3) hx hb dX5_findOut_55 (by decide) ?_
  refine lv_icmp_ge (tgt := 71) hx hb dX5_findOut_56 (by decide) (fun c9 => absurd c9 (by decide +kernel)) (fun _ => ?_)
  refine lv_aload_n hx hb dX5_findOut_59 rfl (lv_at hl 2 rfl) ?_
  refine lv_iload_n hx hb dX5_findOut_60 rfl (lv_at hl 0 rfl) ?_
  refine lv_iload_n hx hb dX5_findOut_61 rfl (lv_at hl 1 rfl) ?_
  refine g_av (wr := [(h1, .inr (8, [.ref h6, .int 4])), (h2, .inr (8, [.ref h7, .int wp4100309])), (h7, .inl (y 1, 200, .inr (.inl (vp_updL (vp_updL (vp_updL (vp_updL wf4100310 ((0 : Int32).toNatClampNeg) 0) ((1 : Int32).toNatClampNeg) 0) ((2 : Int32).toNatClampNeg) 0) ((3 : Int32).toNatClampNeg) 0))))]) (va_runV (As := [.int 0, .int 3]) (rest := []) ⟨hx, hb, hml, hown, hg⟩ (k_X5_find_9 l D y aS H.size h0 h1 h2 h3 h4 4 h10 wp4100311) (cwV 2 hg ggV_RX5_54_X5_find rfl rfl rfl (by decide +kernel) ⟨Nat.le_of_ble_eq_true rfl, Nat.le_of_ble_eq_true rfl⟩) (g_preV (q := (RX5, TX5, 5)) hK hP hD [3, 4, 5] rfl (by decide) (ci := 5) (q0 := 3) rfl rfl) rfl rfl hl.1 rfl (lv_room (Nat.le_of_ble_eq_true rfl)) dX5_findOut_62 ⟨Nat.le_of_ble_eq_true rfl, Nat.le_of_ble_eq_true rfl⟩) hP hD hS hA [3, 4, 5] [0, 1, 2] rfl rfl (by decide) (by decide) ?_
  clear hP hD hS H locs
  refine fun u H locs hq hP hD hS => ?_
  replace hP : va_P D vwCl [(h1, .inr (8, [.ref h6, .int 4])), (h2, .inr (8, [.ref h7, .int wp4100309])), (h7, .inl (y 1, 200, .inr (.inl (vp_updL (vp_updL (vp_updL (vp_updL wf4100310 ((0 : Int32).toNatClampNeg) 0) ((1 : Int32).toNatClampNeg) 0) ((2 : Int32).toNatClampNeg) 0) ((3 : Int32).toNatClampNeg) 0)))), (h0, .inr (5, [.ref h1, .ref h2, .ref h3, .ref h4, .int 4])), (h4, .inr (8, [.ref h10, .int wp4100311])), (h10, .inl (y 1, 3, .inr (.inl (fun _ => 0))))] H := hP
  replace hD : va_D A [(h1, .inr (8, [.ref h6, .int 4])), (h2, .inr (8, [.ref h7, .int wp4100309])), (h7, .inl (y 1, 200, .inr (.inl (vp_updL (vp_updL (vp_updL (vp_updL wf4100310 ((0 : Int32).toNatClampNeg) 0) ((1 : Int32).toNatClampNeg) 0) ((2 : Int32).toNatClampNeg) 0) ((3 : Int32).toNatClampNeg) 0)))), (h0, .inr (5, [.ref h1, .ref h2, .ref h3, .ref h4, .int 4])), (h4, .inr (8, [.ref h10, .int wp4100311])), (h10, .inl (y 1, 3, .inr (.inl (fun _ => 0))))] := hD
  refine lv_iinc (v := 1) (lv' := [(2, .int 1), (1, .int 3), (0, .ref h0)]) hx hb dX5_findOut_65 hl (k := 0) rfl (by decide +kernel) (by decide) rfl ?_
  clear hl
  clear ls
  intro ls hl
  refine lv_goto (tgt := 54) hx hb dX5_findOut_68 (by decide) ?_
  refine lv_iload_n hx hb dX5_findOut_54 rfl (lv_at hl 0 rfl) ?_
  refine lv_iconst (v := 3) hx hb dX5_findOut_55 (by decide) ?_
  refine lv_icmp_ge (tgt := 71) hx hb dX5_findOut_56 (by decide) (fun c9 => absurd c9 (by decide +kernel)) (fun _ => ?_)
  refine lv_aload_n hx hb dX5_findOut_59 rfl (lv_at hl 2 rfl) ?_
  refine lv_iload_n hx hb dX5_findOut_60 rfl (lv_at hl 0 rfl) ?_
  refine lv_iload_n hx hb dX5_findOut_61 rfl (lv_at hl 1 rfl) ?_
  refine g_av (wr := [(h1, .inr (8, [.ref h6, .int 4])), (h2, .inr (8, [.ref h7, .int wp4100309])), (h7, .inl (y 1, 200, .inr (.inl (vp_updL (vp_updL (vp_updL (vp_updL wf4100310 ((0 : Int32).toNatClampNeg) 0) ((1 : Int32).toNatClampNeg) 0) ((2 : Int32).toNatClampNeg) 0) ((3 : Int32).toNatClampNeg) 0))))]) (va_runV (As := [.int 1, .int 3]) (rest := []) ⟨hx, hb, hml, hown, hg⟩ (k_X5_find_10 l D y aS H.size h0 h1 h2 h3 h4 4 h10 wp4100311) (cwV 2 hg ggV_RX5_54_X5_find rfl rfl rfl (by decide +kernel) ⟨Nat.le_of_ble_eq_true rfl, Nat.le_of_ble_eq_true rfl⟩) (g_preV (q := (RX5, TX5, 5)) hK hP hD [3, 4, 5] rfl (by decide) (ci := 5) (q0 := 3) rfl rfl) rfl rfl hl.1 rfl (lv_room (Nat.le_of_ble_eq_true rfl)) dX5_findOut_62 ⟨Nat.le_of_ble_eq_true rfl, Nat.le_of_ble_eq_true rfl⟩) hP hD hS hA [3, 4, 5] [0, 1, 2] rfl rfl (by decide) (by decide) ?_
  clear hP hD hS H locs
  refine fun u H locs hq hP hD hS => ?_
  replace hP : va_P D vwCl [(h1, .inr (8, [.ref h6, .int 4])), (h2, .inr (8, [.ref h7, .int wp4100309])), (h7, .inl (y 1, 200, .inr (.inl (vp_updL (vp_updL (vp_updL (vp_updL wf4100310 ((0 : Int32).toNatClampNeg) 0) ((1 : Int32).toNatClampNeg) 0) ((2 : Int32).toNatClampNeg) 0) ((3 : Int32).toNatClampNeg) 0)))), (h0, .inr (5, [.ref h1, .ref h2, .ref h3, .ref h4, .int 4])), (h4, .inr (8, [.ref h10, .int wp4100311])), (h10, .inl (y 1, 3, .inr (.inl (fun _ => 0))))] H := hP
  replace hD : va_D A [(h1, .inr (8, [.ref h6, .int 4])), (h2, .inr (8, [.ref h7, .int wp4100309])), (h7, .inl (y 1, 200, .inr (.inl (vp_updL (vp_updL (vp_updL (vp_updL wf4100310 ((0 : Int32).toNatClampNeg) 0) ((1 : Int32).toNatClampNeg) 0) ((2 : Int32).toNatClampNeg) 0) ((3 : Int32).toNatClampNeg) 0)))), (h0, .inr (5, [.ref h1, .ref h2, .ref h3, .ref h4, .int 4])), (h4, .inr (8, [.ref h10, .int wp4100311])), (h10, .inl (y 1, 3, .inr (.inl (fun _ => 0))))] := hD
  refine lv_iinc (v := 2) (lv' := [(2, .int 2), (1, .int 3), (0, .ref h0)]) hx hb dX5_findOut_65 hl (k := 0) rfl (by decide +kernel) (by decide) rfl ?_
  clear hl
  clear ls
  intro ls hl
  refine lv_goto (tgt := 54) hx hb dX5_findOut_68 (by decide) ?_
  refine lv_iload_n hx hb dX5_findOut_54 rfl (lv_at hl 0 rfl) ?_
  refine lv_iconst (v := 3) hx hb dX5_findOut_55 (by decide) ?_
  refine lv_icmp_ge (tgt := 71) hx hb dX5_findOut_56 (by decide) (fun c9 => absurd c9 (by decide +kernel)) (fun _ => ?_)
  refine lv_aload_n hx hb dX5_findOut_59 rfl (lv_at hl 2 rfl) ?_
  refine lv_iload_n hx hb dX5_findOut_60 rfl (lv_at hl 0 rfl) ?_
  refine lv_iload_n hx hb dX5_findOut_61 rfl (lv_at hl 1 rfl) ?_
  refine g_av (wr := [(h1, .inr (8, [.ref h6, .int 4])), (h2, .inr (8, [.ref h7, .int wp4100309])), (h7, .inl (y 1, 200, .inr (.inl (vp_updL (vp_updL (vp_updL (vp_updL wf4100310 ((0 : Int32).toNatClampNeg) 0) ((1 : Int32).toNatClampNeg) 0) ((2 : Int32).toNatClampNeg) 0) ((3 : Int32).toNatClampNeg) 0))))]) (va_runV (As := [.int 2, .int 3]) (rest := []) ⟨hx, hb, hml, hown, hg⟩ (k_X5_find_11 l D y aS H.size h0 h1 h2 h3 h4 4 h10 wp4100311) (cwV 2 hg ggV_RX5_54_X5_find rfl rfl rfl (by decide +kernel) ⟨Nat.le_of_ble_eq_true rfl, Nat.le_of_ble_eq_true rfl⟩) (g_preV (q := (RX5, TX5, 5)) hK hP hD [3, 4, 5] rfl (by decide) (ci := 5) (q0 := 3) rfl rfl) rfl rfl hl.1 rfl (lv_room (Nat.le_of_ble_eq_true rfl)) dX5_findOut_62 ⟨Nat.le_of_ble_eq_true rfl, Nat.le_of_ble_eq_true rfl⟩) hP hD hS hA [3, 4, 5] [0, 1, 2] rfl rfl (by decide) (by decide) ?_
  clear hP hD hS H locs
  refine fun u H locs hq hP hD hS => ?_
  replace hP : va_P D vwCl [(h1, .inr (8, [.ref h6, .int 4])), (h2, .inr (8, [.ref h7, .int wp4100309])), (h7, .inl (y 1, 200, .inr (.inl (vp_updL (vp_updL (vp_updL (vp_updL wf4100310 ((0 : Int32).toNatClampNeg) 0) ((1 : Int32).toNatClampNeg) 0) ((2 : Int32).toNatClampNeg) 0) ((3 : Int32).toNatClampNeg) 0)))), (h0, .inr (5, [.ref h1, .ref h2, .ref h3, .ref h4, .int 4])), (h4, .inr (8, [.ref h10, .int wp4100311])), (h10, .inl (y 1, 3, .inr (.inl (fun _ => 0))))] H := hP
  replace hD : va_D A [(h1, .inr (8, [.ref h6, .int 4])), (h2, .inr (8, [.ref h7, .int wp4100309])), (h7, .inl (y 1, 200, .inr (.inl (vp_updL (vp_updL (vp_updL (vp_updL wf4100310 ((0 : Int32).toNatClampNeg) 0) ((1 : Int32).toNatClampNeg) 0) ((2 : Int32).toNatClampNeg) 0) ((3 : Int32).toNatClampNeg) 0)))), (h0, .inr (5, [.ref h1, .ref h2, .ref h3, .ref h4, .int 4])), (h4, .inr (8, [.ref h10, .int wp4100311])), (h10, .inl (y 1, 3, .inr (.inl (fun _ => 0))))] := hD
  refine lv_iinc (v := 3) (lv' := [(2, .int 3), (1, .int 3), (0, .ref h0)]) hx hb dX5_findOut_65 hl (k := 0) rfl (by decide +kernel) (by decide) rfl ?_
  clear hl
  clear ls
  intro ls hl
  refine lv_goto (tgt := 54) hx hb dX5_findOut_68 (by decide) ?_
  refine lv_iload_n hx hb dX5_findOut_54 rfl (lv_at hl 0 rfl) ?_
  refine lv_iconst (v := 3) hx hb dX5_findOut_55 (by decide) ?_
  refine lv_icmp_ge (tgt := 71) hx hb dX5_findOut_56 (by decide) (fun _ => ?_) (fun c9 => absurd c9 (by decide +kernel))
  refine lv_iinc (v := 4) (lv' := [(1, .int 4), (2, .int 3), (0, .ref h0)]) hx hb dX5_findOut_71 hl (k := 1) rfl (by decide +kernel) (by decide) rfl ?_
  clear hl
  clear ls
  intro ls hl
  refine lv_goto (tgt := 41) hx hb dX5_findOut_74 (by decide) ?_
  refine lv_iload_n hx hb dX5_findOut_41 rfl (lv_at hl 0 rfl) ?_
  refine lv_aload_n hx hb dX5_findOut_42 rfl (lv_at hl 2 rfl) ?_
  refine gm_get (D := D) (ci := 5) (v := .ref h1) (C := RX5) (T := TX5) (N := 5) hx hb hg inlX5 hown hK.1 hP 3 rfl rfl 0 (by decide) tX5_0 (hg _ gw_138) rfl dX5_findOut_43 ?_
  refine gm_get (D := D) (ci := 8) (v := .int 4) (C := RX8) (T := TX8) (N := 2) hx hb hg inlX8 hown hK.1 hP 0 rfl rfl 1 (by decide) tX8_1 (hg _ gw_1441) rfl dX5_findOut_46 ?_
  refine lv_icmp_ge (tgt := 77) hx hb dX5_findOut_49 (by decide) (fun _ => ?_) (fun c9 => absurd c9 (by decide +kernel))
  exact g_vret hx hb hr hlocks () (hP.sub [3, 0, 1, 2, 4, 5] rfl) (hD.sub [3, 0, 1, 2, 4, 5] (by decide +kernel) rfl) hS trivial (Nat.le_of_ble_eq_true rfl) (Nat.le_of_ble_eq_true rfl) dX5_findOut_77
set_option maxRecDepth 100000 in
set_option maxHeartbeats 4000000 in
theorem k_X5_append_3 (l : Launch) (D : va_G) (y : Nat → ClassId) (aS : Nat → Nat) (sz : Nat) (h0 : Nat) (p1 : Int32) (h2 : Nat) (h3 : Nat) (h4 : Nat) (h5 : Nat) (h6 : Nat) (wf4100329 : Nat → Int64) (h8 : Nat) (wp4100330 : Int32) (wf4100331 : Nat → Int64) (h11 : Nat) (wp4100332 : Int32) : Met l yX5_append (Cond.code yX5_append cX5_append 6 (some .int) :: wsL_law) ({ frames := 3, cells := 0, slots := 0, locals := 68 } : Room) (va_Pc [.ref h0, .int p1, .int 4] (gI D y aS [(h0, .inr (5, [.ref h2, .ref h3, .ref h4, .ref h5, .int 0])), (h2, .inr (8, [.ref h6, .int 0])), (h6, .inl (y 1, 200, .inr (.inl wf4100329))), (h3, .inr (8, [.ref h8, .int wp4100330])), (h8, .inl (y 1, 200, .inr (.inl wf4100331))), (h5, .inr (8, [.ref h11, .int wp4100332])), (h11, .inl (y 1, 3, .inr (.inl (fun _ => 0))))] sz)) (va_Qi (fun (r : Int32) (u : Unit) => 4 = r) (fun u => gO D (va_A [(h0, .inr (5, [.ref h2, .ref h3, .ref h4, .ref h5, .int 0])), (h2, .inr (8, [.ref h6, .int 0])), (h6, .inl (y 1, 200, .inr (.inl wf4100329))), (h3, .inr (8, [.ref h8, .int wp4100330])), (h8, .inl (y 1, 200, .inr (.inl wf4100331))), (h5, .inr (8, [.ref h11, .int wp4100332])), (h11, .inl (y 1, 3, .inr (.inl (fun _ => 0))))] sz) [(h0, .inr (5, [.ref h2, .ref h3, .ref h4, .ref h5, .int 4])), (h2, .inr (8, [.ref h6, .int 4])), (h6, .inl (y 1, 200, .inr (.inl (vp_updL (vp_updL (vp_updL (vp_updL (vp_updL (vp_updL (vp_updL (vp_updL wf4100329 ((0 : Int32).toNatClampNeg) 0) ((1 : Int32).toNatClampNeg) 0) ((2 : Int32).toNatClampNeg) 0) ((3 : Int32).toNatClampNeg) 0) ((3 : Int32).toNatClampNeg) ((p1 - p1 / 10 * 10).toInt64)) ((2 : Int32).toNatClampNeg) (((p1 / 10) - (p1 / 10) / 10 * 10).toInt64)) ((1 : Int32).toNatClampNeg) ((((p1 / 10) / 10) - ((p1 / 10) / 10) / 10 * 10).toInt64)) ((0 : Int32).toNatClampNeg) (((((p1 / 10) / 10) / 10) - (((p1 / 10) / 10) / 10) / 10 * 10).toInt64))))), (h3, .inr (8, [.ref h8, .int wp4100330])), (h8, .inl (y 1, 200, .inr (.inl (vp_updL (vp_updL (vp_updL (vp_updL wf4100331 ((0 : Int32).toNatClampNeg) 0) ((1 : Int32).toNatClampNeg) 0) ((2 : Int32).toNatClampNeg) 0) ((3 : Int32).toNatClampNeg) 0)))), (h5, .inr (8, [.ref h11, .int wp4100332])), (h11, .inl (y 1, 3, .inr (.inl (fun _ => 0))))]) (va_A [(h0, .inr (5, [.ref h2, .ref h3, .ref h4, .ref h5, .int 0])), (h2, .inr (8, [.ref h6, .int 0])), (h6, .inl (y 1, 200, .inr (.inl wf4100329))), (h3, .inr (8, [.ref h8, .int wp4100330])), (h8, .inl (y 1, 200, .inr (.inl wf4100331))), (h5, .inr (8, [.ref h11, .int wp4100332])), (h11, .inl (y 1, 3, .inr (.inl (fun _ => 0))))] sz)) 0 0 (va_A [(h0, .inr (5, [.ref h2, .ref h3, .ref h4, .ref h5, .int 0])), (h2, .inr (8, [.ref h6, .int 0])), (h6, .inl (y 1, 200, .inr (.inl wf4100329))), (h3, .inr (8, [.ref h8, .int wp4100330])), (h8, .inl (y 1, 200, .inr (.inl wf4100331))), (h5, .inr (8, [.ref h11, .int wp4100332])), (h11, .inl (y 1, 3, .inr (.inl (fun _ => 0))))] sz) := by
  refine g_of (by decide) (Nat.le_of_ble_eq_true rfl) ?_
  intro p e s m below meth c ls A hx hb hr hml hown hg hlocks hin hsz hK hP hD hS hA hAe hl
  rw [← hAe]
  replace hown : s.vm.findClass RX5 = some m.cls := hown
  replace hl : lv_has ls 6 [(0, .ref h0), (1, .int p1), (2, .int 4)] := hl
  refine lv_aload_n hx hb dX5_append_0 rfl (lv_at hl 0 rfl) ?_
  refine gm_get (D := D) (ci := 5) (v := .ref h2) (C := RX5) (T := TX5) (N := 5) hx hb hg inlX5 hown hK.1 hP 0 rfl rfl 0 (by decide) tX5_0 (hg _ gw_138) rfl dX5_append_1 ?_
  refine gm_get (D := D) (ci := 8) (v := .int 0) (C := RX8) (T := TX8) (N := 2) hx hb hg inlX8 hown hK.1 hP 1 rfl rfl 1 (by decide) tX8_1 (hg _ gw_1441) rfl dX5_append_4 ?_
  refine lv_istore_n (lv' := [(3, .int 0), (0, .ref h0), (1, .int p1), (2, .int 4)]) hx hb dX5_append_7 rfl hl (by decide) rfl ?_
  clear hl
  clear ls
  intro ls hl
  refine lv_aload_n hx hb dX5_append_8 rfl (lv_at hl 1 rfl) ?_
  refine gm_get (D := D) (ci := 5) (v := .ref h2) (C := RX5) (T := TX5) (N := 5) hx hb hg inlX5 hown hK.1 hP 0 rfl rfl 0 (by decide) tX5_0 (hg _ gw_138) rfl dX5_append_9 ?_
  refine lv_iload_n hx hb dX5_append_12 rfl (lv_at hl 3 rfl) ?_
  refine lv_lconst (v := 0) hx hb dX5_append_13 (by decide) ?_
  refine g_av (wr := [(h0, .inr (5, [.ref h2, .ref h3, .ref h4, .ref h5, .int 0])), (h3, .inr (8, [.ref h8, .int wp4100330])), (h8, .inl (y 1, 200, .inr (.inl wf4100331))), (h5, .inr (8, [.ref h11, .int wp4100332])), (h11, .inl (y 1, 3, .inr (.inl (fun _ => 0))))]) (va_runV (As := [.int 4, .long 0]) (rest := []) ⟨hx, hb, hml, hown, hg⟩ (k_X8_addMany_7 l D y aS s.heap.size h2 h6 wf4100329) (cwV 2 hg ggV_RX5_44_X8_addMany rfl rfl rfl (by decide +kernel) ⟨Nat.le_of_ble_eq_true rfl, Nat.le_of_ble_eq_true rfl⟩) (g_preV (q := (RX8, TX8, 2)) hK hP hD [1, 2] rfl (by decide) (ci := 8) (q0 := 1) rfl rfl) rfl rfl hl.1 rfl (lv_room (Nat.le_of_ble_eq_true rfl)) dX5_append_14 ⟨Nat.le_of_ble_eq_true rfl, Nat.le_of_ble_eq_true rfl⟩) hP hD hS hA [1, 2] [0, 3, 4, 5, 6] rfl rfl (by decide) (by decide) ?_
  clear hP hD hS
  refine fun u H locs hq hP hD hS => ?_
  replace hP : va_P D vwCl [(h0, .inr (5, [.ref h2, .ref h3, .ref h4, .ref h5, .int 0])), (h3, .inr (8, [.ref h8, .int wp4100330])), (h8, .inl (y 1, 200, .inr (.inl wf4100331))), (h5, .inr (8, [.ref h11, .int wp4100332])), (h11, .inl (y 1, 3, .inr (.inl (fun _ => 0)))), (h2, .inr (8, [.ref h6, .int 4])), (h6, .inl (y 1, 200, .inr (.inl (vp_updL (vp_updL (vp_updL (vp_updL wf4100329 ((0 : Int32).toNatClampNeg) 0) ((1 : Int32).toNatClampNeg) 0) ((2 : Int32).toNatClampNeg) 0) ((3 : Int32).toNatClampNeg) 0))))] H := hP
  replace hD : va_D A [(h0, .inr (5, [.ref h2, .ref h3, .ref h4, .ref h5, .int 0])), (h3, .inr (8, [.ref h8, .int wp4100330])), (h8, .inl (y 1, 200, .inr (.inl wf4100331))), (h5, .inr (8, [.ref h11, .int wp4100332])), (h11, .inl (y 1, 3, .inr (.inl (fun _ => 0)))), (h2, .inr (8, [.ref h6, .int 4])), (h6, .inl (y 1, 200, .inr (.inl (vp_updL (vp_updL (vp_updL (vp_updL wf4100329 ((0 : Int32).toNatClampNeg) 0) ((1 : Int32).toNatClampNeg) 0) ((2 : Int32).toNatClampNeg) 0) ((3 : Int32).toNatClampNeg) 0))))] := hD
  refine lv_iload_n hx hb dX5_append_17 rfl (lv_at hl 2 rfl) ?_
  refine lv_istore (lv' := [(4, .int p1), (3, .int 0), (0, .ref h0), (1, .int p1), (2, .int 4)]) hx hb dX5_append_18 hl (by decide) rfl ?_
  clear hl
  clear ls
  intro ls hl
  refine lv_iload_n hx hb dX5_append_20 rfl (lv_at hl 1 rfl) ?_
  refine lv_iload_n hx hb dX5_append_21 rfl (lv_at hl 4 rfl) ?_
  refine lv_iadd hx hb dX5_append_22 ?_
  refine g_fi (v := 4) (by decide +kernel) ?_
  refine lv_iconst (v := 1) hx hb dX5_append_23 (by decide) ?_
  refine lv_isub hx hb dX5_append_24 ?_
  refine g_fi (v := 3) (by decide +kernel) ?_
  refine lv_istore (lv' := [(5, .int 3), (4, .int p1), (3, .int 0), (0, .ref h0), (1, .int p1), (2, .int 4)]) hx hb dX5_append_25 hl (by decide) rfl ?_
  clear hl
  clear ls
  intro ls hl
  refine lv_iload hx hb dX5_append_27 (lv_at hl 0 rfl) ?_
  refine lv_iload_n hx hb dX5_append_29 rfl (lv_at hl 2 rfl) ?_
  refine lv_icmp_lt (tgt := 61) hx hb dX5_append_30 (by decide) (fun c9 => absurd c9 (by decide +kernel)) (fun _ => ?_)
  refine lv_aload_n hx hb dX5_append_33 rfl (lv_at hl 3 rfl) ?_
  refine gm_get (D := D) (ci := 5) (v := .ref h2) (C := RX5) (T := TX5) (N := 5) hx hb hg inlX5 hown hK.1 hP 0 rfl rfl 0 (by decide) tX5_0 (hg _ gw_138) rfl dX5_append_34 ?_
  refine lv_iload hx hb dX5_append_37 (lv_at hl 0 rfl) ?_
  refine lv_iload hx hb dX5_append_39 (lv_at hl 1 rfl) ?_
  refine lv_bipush (v := 10) hx hb dX5_append_41 (by decide +kernel) ?_
  refine lv_irem hx hb dX5_append_43 (by decide +kernel) ?_
  refine lv_i2l (v := ((p1 - p1 / 10 * 10).toInt64)) hx hb dX5_append_44 rfl ?_
  refine g_av (wr := [(h0, .inr (5, [.ref h2, .ref h3, .ref h4, .ref h5, .int 0])), (h3, .inr (8, [.ref h8, .int wp4100330])), (h8, .inl (y 1, 200, .inr (.inl wf4100331))), (h5, .inr (8, [.ref h11, .int wp4100332])), (h11, .inl (y 1, 3, .inr (.inl (fun _ => 0))))]) (va_runV (As := [.int 3, .long ((p1 - p1 / 10 * 10).toInt64)]) (rest := []) ⟨hx, hb, hml, hown, hg⟩ (k_X8_set_48 l D y aS H.size h2 ((p1 - p1 / 10 * 10).toInt64) h6 4 (vp_updL (vp_updL (vp_updL (vp_updL wf4100329 ((0 : Int32).toNatClampNeg) 0) ((1 : Int32).toNatClampNeg) 0) ((2 : Int32).toNatClampNeg) 0) ((3 : Int32).toNatClampNeg) 0)) (cwV 2 hg ggV_RX5_29_X8_set rfl rfl rfl (by decide +kernel) ⟨Nat.le_of_ble_eq_true rfl, Nat.le_of_ble_eq_true rfl⟩) (g_preV (q := (RX8, TX8, 2)) hK hP hD [5, 6] rfl (by decide) (ci := 8) (q0 := 5) rfl rfl) rfl rfl hl.1 rfl (lv_room (Nat.le_of_ble_eq_true rfl)) dX5_append_45 ⟨Nat.le_of_ble_eq_true rfl, Nat.le_of_ble_eq_true rfl⟩) hP hD hS hA [5, 6] [0, 1, 2, 3, 4] rfl rfl (by decide) (by decide) ?_
  clear hP hD hS H locs
  refine fun u H locs hq hP hD hS => ?_
  replace hP : va_P D vwCl [(h0, .inr (5, [.ref h2, .ref h3, .ref h4, .ref h5, .int 0])), (h3, .inr (8, [.ref h8, .int wp4100330])), (h8, .inl (y 1, 200, .inr (.inl wf4100331))), (h5, .inr (8, [.ref h11, .int wp4100332])), (h11, .inl (y 1, 3, .inr (.inl (fun _ => 0)))), (h2, .inr (8, [.ref h6, .int 4])), (h6, .inl (y 1, 200, .inr (.inl (vp_updL (vp_updL (vp_updL (vp_updL (vp_updL wf4100329 ((0 : Int32).toNatClampNeg) 0) ((1 : Int32).toNatClampNeg) 0) ((2 : Int32).toNatClampNeg) 0) ((3 : Int32).toNatClampNeg) 0) ((3 : Int32).toNatClampNeg) ((p1 - p1 / 10 * 10).toInt64)))))] H := hP
  replace hD : va_D A [(h0, .inr (5, [.ref h2, .ref h3, .ref h4, .ref h5, .int 0])), (h3, .inr (8, [.ref h8, .int wp4100330])), (h8, .inl (y 1, 200, .inr (.inl wf4100331))), (h5, .inr (8, [.ref h11, .int wp4100332])), (h11, .inl (y 1, 3, .inr (.inl (fun _ => 0)))), (h2, .inr (8, [.ref h6, .int 4])), (h6, .inl (y 1, 200, .inr (.inl (vp_updL (vp_updL (vp_updL (vp_updL (vp_updL wf4100329 ((0 : Int32).toNatClampNeg) 0) ((1 : Int32).toNatClampNeg) 0) ((2 : Int32).toNatClampNeg) 0) ((3 : Int32).toNatClampNeg) 0) ((3 : Int32).toNatClampNeg) ((p1 - p1 / 10 * 10).toInt64)))))] := hD
  refine lv_iload hx hb dX5_append_48 (lv_at hl 1 rfl) ?_
  refine lv_bipush (v := 10) hx hb dX5_append_50 (by decide +kernel) ?_
  refine lv_idiv hx hb dX5_append_52 (by decide +kernel) ?_
  refine lv_istore (lv' := [(4, .int (p1 / 10)), (5, .int 3), (3, .int 0), (0, .ref h0), (1, .int p1), (2, .int 4)]) hx hb dX5_append_53 hl (by decide) rfl ?_
  clear hl
  clear ls
  intro ls hl
  refine lv_iinc (v := 2) (lv' := [(5, .int 2), (4, .int (p1 / 10)), (3, .int 0), (0, .ref h0), (1, .int p1), (2, .int 4)]) hx hb dX5_append_55 hl (k := 1) rfl (by decide +kernel) (by decide) rfl ?_
  clear hl
  clear ls
  intro ls hl
  refine lv_goto (tgt := 27) hx hb dX5_append_58 (by decide) ?_
  refine lv_iload hx hb dX5_append_27 (lv_at hl 0 rfl) ?_
  refine lv_iload_n hx hb dX5_append_29 rfl (lv_at hl 2 rfl) ?_
  refine lv_icmp_lt (tgt := 61) hx hb dX5_append_30 (by decide) (fun c9 => absurd c9 (by decide +kernel)) (fun _ => ?_)
  refine lv_aload_n hx hb dX5_append_33 rfl (lv_at hl 3 rfl) ?_
  refine gm_get (D := D) (ci := 5) (v := .ref h2) (C := RX5) (T := TX5) (N := 5) hx hb hg inlX5 hown hK.1 hP 0 rfl rfl 0 (by decide) tX5_0 (hg _ gw_138) rfl dX5_append_34 ?_
  refine lv_iload hx hb dX5_append_37 (lv_at hl 0 rfl) ?_
  refine lv_iload hx hb dX5_append_39 (lv_at hl 1 rfl) ?_
  refine lv_bipush (v := 10) hx hb dX5_append_41 (by decide +kernel) ?_
  refine lv_irem hx hb dX5_append_43 (by decide +kernel) ?_
  refine lv_i2l (v := (((p1 / 10) - (p1 / 10) / 10 * 10).toInt64)) hx hb dX5_append_44 rfl ?_
  refine g_av (wr := [(h0, .inr (5, [.ref h2, .ref h3, .ref h4, .ref h5, .int 0])), (h3, .inr (8, [.ref h8, .int wp4100330])), (h8, .inl (y 1, 200, .inr (.inl wf4100331))), (h5, .inr (8, [.ref h11, .int wp4100332])), (h11, .inl (y 1, 3, .inr (.inl (fun _ => 0))))]) (va_runV (As := [.int 2, .long (((p1 / 10) - (p1 / 10) / 10 * 10).toInt64)]) (rest := []) ⟨hx, hb, hml, hown, hg⟩ (k_X8_set_47 l D y aS H.size h2 (((p1 / 10) - (p1 / 10) / 10 * 10).toInt64) h6 4 (vp_updL (vp_updL (vp_updL (vp_updL (vp_updL wf4100329 ((0 : Int32).toNatClampNeg) 0) ((1 : Int32).toNatClampNeg) 0) ((2 : Int32).toNatClampNeg) 0) ((3 : Int32).toNatClampNeg) 0) ((3 : Int32).toNatClampNeg) ((p1 - p1 / 10 * 10).toInt64))) (cwV 2 hg ggV_RX5_29_X8_set rfl rfl rfl (by decide +kernel) ⟨Nat.le_of_ble_eq_true rfl, Nat.le_of_ble_eq_true rfl⟩) (g_preV (q := (RX8, TX8, 2)) hK hP hD [5, 6] rfl (by decide) (ci := 8) (q0 := 5) rfl rfl) rfl rfl hl.1 rfl (lv_room (Nat.le_of_ble_eq_true rfl)) dX5_append_45 ⟨Nat.le_of_ble_eq_true rfl, Nat.le_of_ble_eq_true rfl⟩) hP hD hS hA [5, 6] [0, 1, 2, 3, 4] rfl rfl (by decide) (by decide) ?_
  clear hP hD hS H locs
  refine fun u H locs hq hP hD hS => ?_
  replace hP : va_P D vwCl [(h0, .inr (5, [.ref h2, .ref h3, .ref h4, .ref h5, .int 0])), (h3, .inr (8, [.ref h8, .int wp4100330])), (h8, .inl (y 1, 200, .inr (.inl wf4100331))), (h5, .inr (8, [.ref h11, .int wp4100332])), (h11, .inl (y 1, 3, .inr (.inl (fun _ => 0)))), (h2, .inr (8, [.ref h6, .int 4])), (h6, .inl (y 1, 200, .inr (.inl (vp_updL (vp_updL (vp_updL (vp_updL (vp_updL (vp_updL wf4100329 ((0 : Int32).toNatClampNeg) 0) ((1 : Int32).toNatClampNeg) 0) ((2 : Int32).toNatClampNeg) 0) ((3 : Int32).toNatClampNeg) 0) ((3 : Int32).toNatClampNeg) ((p1 - p1 / 10 * 10).toInt64)) ((2 : Int32).toNatClampNeg) (((p1 / 10) - (p1 / 10) / 10 * 10).toInt64)))))] H := hP
  replace hD : va_D A [(h0, .inr (5, [.ref h2, .ref h3, .ref h4, .ref h5, .int 0])), (h3, .inr (8, [.ref h8, .int wp4100330])), (h8, .inl (y 1, 200, .inr (.inl wf4100331))), (h5, .inr (8, [.ref h11, .int wp4100332])), (h11, .inl (y 1, 3, .inr (.inl (fun _ => 0)))), (h2, .inr (8, [.ref h6, .int 4])), (h6, .inl (y 1, 200, .inr (.inl (vp_updL (vp_updL (vp_updL (vp_updL (vp_updL (vp_updL wf4100329 ((0 : Int32).toNatClampNeg) 0) ((1 : Int32).toNatClampNeg) 0) ((2 : Int32).toNatClampNeg) 0) ((3 : Int32).toNatClampNeg) 0) ((3 : Int32).toNatClampNeg) ((p1 - p1 / 10 * 10).toInt64)) ((2 : Int32).toNatClampNeg) (((p1 / 10) - (p1 / 10) / 10 * 10).toInt64)))))] := hD
  refine lv_iload hx hb dX5_append_48 (lv_at hl 1 rfl) ?_
  refine lv_bipush (v := 10) hx hb dX5_append_50 (by decide +kernel) ?_
  refine lv_idiv hx hb dX5_append_52 (by decide +kernel) ?_
  refine lv_istore (lv' := [(4, .int ((p1 / 10) / 10)), (5, .int 2), (3, .int 0), (0, .ref h0), (1, .int p1), (2, .int 4)]) hx hb dX5_append_53 hl (by decide) rfl ?_
  clear hl
  clear ls
  intro ls hl
  refine lv_iinc (v := 1) (lv' := [(5, .int 1), (4, .int ((p1 / 10) / 10)), (3, .int 0), (0, .ref h0), (1, .int p1), (2, .int 4)]) hx hb dX5_append_55 hl (k := 1) rfl (by decide +kernel) (by decide) rfl ?_
  clear hl
  clear ls
  intro ls hl
  refine lv_goto (tgt := 27) hx hb dX5_append_58 (by decide) ?_
  refine lv_iload hx hb dX5_append_27 (lv_at hl 0 rfl) ?_
  refine lv_iload_n hx hb dX5_append_29 rfl (lv_at hl 2 rfl) ?_
  refine lv_icmp_lt (tgt := 61) hx hb dX5_append_30 (by decide) (fun c9 => absurd c9 (by decide +kernel)) (fun _ => ?_)
  refine lv_aload_n hx hb dX5_append_33 rfl (lv_at hl 3 rfl) ?_
  refine gm_get (D := D) (ci := 5) (v := .ref h2) (C := RX5) (T := TX5) (N := 5) hx hb hg inlX5 hown hK.1 hP 0 rfl rfl 0 (by decide) tX5_0 (hg _ gw_138) rfl dX5_append_34 ?_
  refine lv_iload hx hb dX5_append_37 (lv_at hl 0 rfl) ?_
  refine lv_iload hx hb dX5_append_39 (lv_at hl 1 rfl) ?_
  refine lv_bipush (v := 10) hx hb dX5_append_41 (by decide +kernel) ?_
  refine lv_irem hx hb dX5_append_43 (by decide +kernel) ?_
  refine lv_i2l (v := ((((p1 / 10) / 10) - ((p1 / 10) / 10) / 10 * 10).toInt64)) hx hb dX5_append_44 rfl ?_
  refine g_av (wr := [(h0, .inr (5, [.ref h2, .ref h3, .ref h4, .ref h5, .int 0])), (h3, .inr (8, [.ref h8, .int wp4100330])), (h8, .inl (y 1, 200, .inr (.inl wf4100331))), (h5, .inr (8, [.ref h11, .int wp4100332])), (h11, .inl (y 1, 3, .inr (.inl (fun _ => 0))))]) (va_runV (As := [.int 1, .long ((((p1 / 10) / 10) - ((p1 / 10) / 10) / 10 * 10).toInt64)]) (rest := []) ⟨hx, hb, hml, hown, hg⟩ (k_X8_set_46 l D y aS H.size h2 ((((p1 / 10) / 10) - ((p1 / 10) / 10) / 10 * 10).toInt64) h6 4 (vp_updL (vp_updL (vp_updL (vp_updL (vp_updL (vp_updL wf4100329 ((0 : Int32).toNatClampNeg) 0) ((1 : Int32).toNatClampNeg) 0) ((2 : Int32).toNatClampNeg) 0) ((3 : Int32).toNatClampNeg) 0) ((3 : Int32).toNatClampNeg) ((p1 - p1 / 10 * 10).toInt64)) ((2 : Int32).toNatClampNeg) (((p1 / 10) - (p1 / 10) / 10 * 10).toInt64))) (cwV 2 hg ggV_RX5_29_X8_set rfl rfl rfl (by decide +kernel) ⟨Nat.le_of_ble_eq_true rfl, Nat.le_of_ble_eq_true rfl⟩) (g_preV (q := (RX8, TX8, 2)) hK hP hD [5, 6] rfl (by decide) (ci := 8) (q0 := 5) rfl rfl) rfl rfl hl.1 rfl (lv_room (Nat.le_of_ble_eq_true rfl)) dX5_append_45 ⟨Nat.le_of_ble_eq_true rfl, Nat.le_of_ble_eq_true rfl⟩) hP hD hS hA [5, 6] [0, 1, 2, 3, 4] rfl rfl (by decide) (by decide) ?_
  clear hP hD hS H locs
  refine fun u H locs hq hP hD hS => ?_
  replace hP : va_P D vwCl [(h0, .inr (5, [.ref h2, .ref h3, .ref h4, .ref h5, .int 0])), (h3, .inr (8, [.ref h8, .int wp4100330])), (h8, .inl (y 1, 200, .inr (.inl wf4100331))), (h5, .inr (8, [.ref h11, .int wp4100332])), (h11, .inl (y 1, 3, .inr (.inl (fun _ => 0)))), (h2, .inr (8, [.ref h6, .int 4])), (h6, .inl (y 1, 200, .inr (.inl (vp_updL (vp_updL (vp_updL (vp_updL (vp_updL (vp_updL (vp_updL wf4100329 ((0 : Int32).toNatClampNeg) 0) ((1 : Int32).toNatClampNeg) 0) ((2 : Int32).toNatClampNeg) 0) ((3 : Int32).toNatClampNeg) 0) ((3 : Int32).toNatClampNeg) ((p1 - p1 / 10 * 10).toInt64)) ((2 : Int32).toNatClampNeg) (((p1 / 10) - (p1 / 10) / 10 * 10).toInt64)) ((1 : Int32).toNatClampNeg) ((((p1 / 10) / 10) - ((p1 / 10) / 10) / 10 * 10).toInt64)))))] H := hP
  replace hD : va_D A [(h0, .inr (5, [.ref h2, .ref h3, .ref h4, .ref h5, .int 0])), (h3, .inr (8, [.ref h8, .int wp4100330])), (h8, .inl (y 1, 200, .inr (.inl wf4100331))), (h5, .inr (8, [.ref h11, .int wp4100332])), (h11, .inl (y 1, 3, .inr (.inl (fun _ => 0)))), (h2, .inr (8, [.ref h6, .int 4])), (h6, .inl (y 1, 200, .inr (.inl (vp_updL (vp_updL (vp_updL (vp_updL (vp_updL (vp_updL (vp_updL wf4100329 ((0 : Int32).toNatClampNeg) 0) ((1 : Int32).toNatClampNeg) 0) ((2 : Int32).toNatClampNeg) 0) ((3 : Int32).toNatClampNeg) 0) ((3 : Int32).toNatClampNeg) ((p1 - p1 / 10 * 10).toInt64)) ((2 : Int32).toNatClampNeg) (((p1 / 10) - (p1 / 10) / 10 * 10).toInt64)) ((1 : Int32).toNatClampNeg) ((((p1 / 10) / 10) - ((p1 / 10) / 10) / 10 * 10).toInt64)))))] := hD
  refine lv_iload hx hb dX5_append_48 (lv_at hl 1 rfl) ?_
  refine lv_bipush (v := 10) hx hb dX5_append_50 (by decide +kernel) ?_
  refine lv_idiv hx hb dX5_append_52 (by decide +kernel) ?_
  refine lv_istore (lv' := [(4, .int (((p1 / 10) / 10) / 10)), (5, .int 1), (3, .int 0), (0, .ref h0), (1, .int p1), (2, .int 4)]) hx hb dX5_append_53 hl (by decide) rfl ?_
  clear hl
  clear ls
  intro ls hl
  refine lv_iinc (v := 0) (lv' := [(5, .int 0), (4, .int (((p1 / 10) / 10) / 10)), (3, .int 0), (0, .ref h0), (1, .int p1), (2, .int 4)]) hx hb dX5_append_55 hl (k := 1) rfl (by decide +kernel) (by decide) rfl ?_
  clear hl
  clear ls
  intro ls hl
  refine lv_goto (tgt := 27) hx hb dX5_append_58 (by decide) ?_
  refine lv_iload hx hb dX5_append_27 (lv_at hl 0 rfl) ?_
  refine lv_iload_n hx hb dX5_append_29 rfl (lv_at hl 2 rfl) ?_
  refine lv_icmp_lt (tgt := 61) hx hb dX5_append_30 (by decide) (fun c9 => absurd c9 (by decide +kernel)) (fun _ => ?_)
  refine lv_aload_n hx hb dX5_append_33 rfl (lv_at hl 3 rfl) ?_
  refine gm_get (D := D) (ci := 5) (v := .ref h2) (C := RX5) (T := TX5) (N := 5) hx hb hg inlX5 hown hK.1 hP 0 rfl rfl 0 (by decide) tX5_0 (hg _ gw_138) rfl dX5_append_34 ?_
  refine lv_iload hx hb dX5_append_37 (lv_at hl 0 rfl) ?_
  refine lv_iload hx hb dX5_append_39 (lv_at hl 1 rfl) ?_
  refine lv_bipush (v := 10) hx hb dX5_append_41 (by decide +kernel) ?_
  refine lv_irem hx hb dX5_append_43 (by decide +kernel) ?_
  refine lv_i2l (v := (((((p1 / 10) / 10) / 10) - (((p1 / 10) / 10) / 10) / 10 * 10).toInt64)) hx hb dX5_append_44 rfl ?_
  refine g_av (wr := [(h0, .inr (5, [.ref h2, .ref h3, .ref h4, .ref h5, .int 0])), (h3, .inr (8, [.ref h8, .int wp4100330])), (h8, .inl (y 1, 200, .inr (.inl wf4100331))), (h5, .inr (8, [.ref h11, .int wp4100332])), (h11, .inl (y 1, 3, .inr (.inl (fun _ => 0))))]) (va_runV (As := [.int 0, .long (((((p1 / 10) / 10) / 10) - (((p1 / 10) / 10) / 10) / 10 * 10).toInt64)]) (rest := []) ⟨hx, hb, hml, hown, hg⟩ (k_X8_set_45 l D y aS H.size h2 (((((p1 / 10) / 10) / 10) - (((p1 / 10) / 10) / 10) / 10 * 10).toInt64) h6 4 (vp_updL (vp_updL (vp_updL (vp_updL (vp_updL (vp_updL (vp_updL wf4100329 ((0 : Int32).toNatClampNeg) 0) ((1 : Int32).toNatClampNeg) 0) ((2 : Int32).toNatClampNeg) 0) ((3 : Int32).toNatClampNeg) 0) ((3 : Int32).toNatClampNeg) ((p1 - p1 / 10 * 10).toInt64)) ((2 : Int32).toNatClampNeg) (((p1 / 10) - (p1 / 10) / 10 * 10).toInt64)) ((1 : Int32).toNatClampNeg) ((((p1 / 10) / 10) - ((p1 / 10) / 10) / 10 * 10).toInt64))) (cwV 2 hg ggV_RX5_29_X8_set rfl rfl rfl (by decide +kernel) ⟨Nat.le_of_ble_eq_true rfl, Nat.le_of_ble_eq_true rfl⟩) (g_preV (q := (RX8, TX8, 2)) hK hP hD [5, 6] rfl (by decide) (ci := 8) (q0 := 5) rfl rfl) rfl rfl hl.1 rfl (lv_room (Nat.le_of_ble_eq_true rfl)) dX5_append_45 ⟨Nat.le_of_ble_eq_true rfl, Nat.le_of_ble_eq_true rfl⟩) hP hD hS hA [5, 6] [0, 1, 2, 3, 4] rfl rfl (by decide) (by decide) ?_
  clear hP hD hS H locs
  refine fun u H locs hq hP hD hS => ?_
  replace hP : va_P D vwCl [(h0, .inr (5, [.ref h2, .ref h3, .ref h4, .ref h5, .int 0])), (h3, .inr (8, [.ref h8, .int wp4100330])), (h8, .inl (y 1, 200, .inr (.inl wf4100331))), (h5, .inr (8, [.ref h11, .int wp4100332])), (h11, .inl (y 1, 3, .inr (.inl (fun _ => 0)))), (h2, .inr (8, [.ref h6, .int 4])), (h6, .inl (y 1, 200, .inr (.inl (vp_updL (vp_updL (vp_updL (vp_updL (vp_updL (vp_updL (vp_updL (vp_updL wf4100329 ((0 : Int32).toNatClampNeg) 0) ((1 : Int32).toNatClampNeg) 0) ((2 : Int32).toNatClampNeg) 0) ((3 : Int32).toNatClampNeg) 0) ((3 : Int32).toNatClampNeg) ((p1 - p1 / 10 * 10).toInt64)) ((2 : Int32).toNatClampNeg) (((p1 / 10) - (p1 / 10) / 10 * 10).toInt64)) ((1 : Int32).toNatClampNeg) ((((p1 / 10) / 10) - ((p1 / 10) / 10) / 10 * 10).toInt64)) ((0 : Int32).toNatClampNeg) (((((p1 / 10) / 10) / 10) - (((p1 / 10) / 10) / 10) / 10 * 10).toInt64)))))] H := hP
  replace hD : va_D A [(h0, .inr (5, [.ref h2, .ref h3, .ref h4, .ref h5, .int 0])), (h3, .inr (8, [.ref h8, .int wp4100330])), (h8, .inl (y 1, 200, .inr (.inl wf4100331))), (h5, .inr (8, [.ref h11, .int wp4100332])), (h11, .inl (y 1, 3, .inr (.inl (fun _ => 0)))), (h2, .inr (8, [.ref h6, .int 4])), (h6, .inl (y 1, 200, .inr (.inl (vp_updL (vp_updL (vp_updL (vp_updL (vp_updL (vp_updL (vp_updL (vp_updL wf4100329 ((0 : Int32).toNatClampNeg) 0) ((1 : Int32).toNatClampNeg) 0) ((2 : Int32).toNatClampNeg) 0) ((3 : Int32).toNatClampNeg) 0) ((3 : Int32).toNatClampNeg) ((p1 - p1 / 10 * 10).toInt64)) ((2 : Int32).toNatClampNeg) (((p1 / 10) - (p1 / 10) / 10 * 10).toInt64)) ((1 : Int32).toNatClampNeg) ((((p1 / 10) / 10) - ((p1 / 10) / 10) / 10 * 10).toInt64)) ((0 : Int32).toNatClampNeg) (((((p1 / 10) / 10) / 10) - (((p1 / 10) / 10) / 10) / 10 * 10).toInt64)))))] := hD
  refine lv_iload hx hb dX5_append_48 (lv_at hl 1 rfl) ?_
  refine lv_bipush (v := 10) hx hb dX5_append_50 (by decide +kernel) ?_
  refine lv_idiv hx hb dX5_append_52 (by decide +kernel) ?_
  refine lv_istore (lv' := [(4, .int ((((p1 / 10) / 10) / 10) / 10)), (5, .int 0), (3, .int 0), (0, .ref h0), (1, .int p1), (2, .int 4)]) hx hb dX5_append_53 hl (by decide) rfl ?_
  clear hl
  clear ls
  intro ls hl
  refine lv_iinc (v := (-1)) (lv' := [(5, .int (-1)), (4, .int ((((p1 / 10) / 10) / 10) / 10)), (3, .int 0), (0, .ref h0), (1, .int p1), (2, .int 4)]) hx hb dX5_append_55 hl (k := 1) rfl (by decide +kernel) (by decide) rfl ?_
  clear hl
  clear ls
  intro ls hl
  refine lv_goto (tgt := 27) hx hb dX5_append_58 (by decide) ?_
  refine lv_iload hx hb dX5_append_27 (lv_at hl 0 rfl) ?_
  refine lv_iload_n hx hb dX5_append_29 rfl (lv_at hl 2 rfl) ?_
  refine lv_icmp_lt (tgt := 61) hx hb dX5_append_30 (by decide) (fun _ => ?_) (fun c9 => absurd c9 (by decide +kernel))
  refine lv_aload_n hx hb dX5_append_61 rfl (lv_at hl 3 rfl) ?_
  refine g_av (wr := [(h6, .inl (y 1, 200, .inr (.inl (vp_updL (vp_updL (vp_updL (vp_updL (vp_updL (vp_updL (vp_updL (vp_updL wf4100329 ((0 : Int32).toNatClampNeg) 0) ((1 : Int32).toNatClampNeg) 0) ((2 : Int32).toNatClampNeg) 0) ((3 : Int32).toNatClampNeg) 0) ((3 : Int32).toNatClampNeg) ((p1 - p1 / 10 * 10).toInt64)) ((2 : Int32).toNatClampNeg) (((p1 / 10) - (p1 / 10) / 10 * 10).toInt64)) ((1 : Int32).toNatClampNeg) ((((p1 / 10) / 10) - ((p1 / 10) / 10) / 10 * 10).toInt64)) ((0 : Int32).toNatClampNeg) (((((p1 / 10) / 10) / 10) - (((p1 / 10) / 10) / 10) / 10 * 10).toInt64)))))]) (va_runV (As := []) (rest := []) ⟨hx, hb, hml, hown, hg⟩ (k_X5_findOut_4 l D y aS H.size h0 h2 h3 h4 h5 0 h6 h8 wp4100330 wf4100331 h11 wp4100332) (cwV 0 hg ggV_RX5_33_X5_findOut rfl rfl rfl (by decide +kernel) ⟨Nat.le_of_ble_eq_true rfl, Nat.le_of_ble_eq_true rfl⟩) (g_preV (q := (RX5, TX5, 5)) hK hP hD [0, 5, 1, 2, 3, 4] rfl (by decide) (ci := 5) (q0 := 0) rfl rfl) rfl rfl hl.1 rfl (lv_room (Nat.le_of_ble_eq_true rfl)) dX5_append_62 ⟨Nat.le_of_ble_eq_true rfl, Nat.le_of_ble_eq_true rfl⟩) hP hD hS hA [0, 5, 1, 2, 3, 4] [6] rfl rfl (by decide) (by decide) ?_
  clear hP hD hS H locs
  refine fun u H locs hq hP hD hS => ?_
  replace hP : va_P D vwCl [(h6, .inl (y 1, 200, .inr (.inl (vp_updL (vp_updL (vp_updL (vp_updL (vp_updL (vp_updL (vp_updL (vp_updL wf4100329 ((0 : Int32).toNatClampNeg) 0) ((1 : Int32).toNatClampNeg) 0) ((2 : Int32).toNatClampNeg) 0) ((3 : Int32).toNatClampNeg) 0) ((3 : Int32).toNatClampNeg) ((p1 - p1 / 10 * 10).toInt64)) ((2 : Int32).toNatClampNeg) (((p1 / 10) - (p1 / 10) / 10 * 10).toInt64)) ((1 : Int32).toNatClampNeg) ((((p1 / 10) / 10) - ((p1 / 10) / 10) / 10 * 10).toInt64)) ((0 : Int32).toNatClampNeg) (((((p1 / 10) / 10) / 10) - (((p1 / 10) / 10) / 10) / 10 * 10).toInt64))))), (h0, .inr (5, [.ref h2, .ref h3, .ref h4, .ref h5, .int 4])), (h2, .inr (8, [.ref h6, .int 4])), (h3, .inr (8, [.ref h8, .int wp4100330])), (h8, .inl (y 1, 200, .inr (.inl (vp_updL (vp_updL (vp_updL (vp_updL wf4100331 ((0 : Int32).toNatClampNeg) 0) ((1 : Int32).toNatClampNeg) 0) ((2 : Int32).toNatClampNeg) 0) ((3 : Int32).toNatClampNeg) 0)))), (h5, .inr (8, [.ref h11, .int wp4100332])), (h11, .inl (y 1, 3, .inr (.inl (fun _ => 0))))] H := hP
  replace hD : va_D A [(h6, .inl (y 1, 200, .inr (.inl (vp_updL (vp_updL (vp_updL (vp_updL (vp_updL (vp_updL (vp_updL (vp_updL wf4100329 ((0 : Int32).toNatClampNeg) 0) ((1 : Int32).toNatClampNeg) 0) ((2 : Int32).toNatClampNeg) 0) ((3 : Int32).toNatClampNeg) 0) ((3 : Int32).toNatClampNeg) ((p1 - p1 / 10 * 10).toInt64)) ((2 : Int32).toNatClampNeg) (((p1 / 10) - (p1 / 10) / 10 * 10).toInt64)) ((1 : Int32).toNatClampNeg) ((((p1 / 10) / 10) - ((p1 / 10) / 10) / 10 * 10).toInt64)) ((0 : Int32).toNatClampNeg) (((((p1 / 10) / 10) / 10) - (((p1 / 10) / 10) / 10) / 10 * 10).toInt64))))), (h0, .inr (5, [.ref h2, .ref h3, .ref h4, .ref h5, .int 4])), (h2, .inr (8, [.ref h6, .int 4])), (h3, .inr (8, [.ref h8, .int wp4100330])), (h8, .inl (y 1, 200, .inr (.inl (vp_updL (vp_updL (vp_updL (vp_updL wf4100331 ((0 : Int32).toNatClampNeg) 0) ((1 : Int32).toNatClampNeg) 0) ((2 : Int32).toNatClampNeg) 0) ((3 : Int32).toNatClampNeg) 0)))), (h5, .inr (8, [.ref h11, .int wp4100332])), (h11, .inl (y 1, 3, .inr (.inl (fun _ => 0))))] := hD
  refine lv_aload_n hx hb dX5_append_65 rfl (lv_at hl 3 rfl) ?_
  refine gm_get (D := D) (ci := 5) (v := .int 4) (C := RX5) (T := TX5) (N := 5) hx hb hg inlX5 hown hK.1 hP 1 rfl rfl 4 (by decide) tX5_4 (hg _ gw_1442) rfl dX5_append_66 ?_
  exact g_iret hx hb hr hlocks () (hP.sub [1, 2, 0, 3, 4, 5, 6] rfl) (hD.sub [1, 2, 0, 3, 4, 5, 6] (by decide +kernel) rfl) hS rfl rfl (Nat.le_of_ble_eq_true rfl) (Nat.le_of_ble_eq_true rfl) dX5_append_69
set_option maxRecDepth 100000 in
set_option maxHeartbeats 4000000 in
theorem k_X8_add_32 (l : Launch) (D : va_G) (y : Nat → ClassId) (aS : Nat → Nat) (sz : Nat) (h0 : Nat) (h1 : Nat) (wf4100348 : Nat → Int64) : Met l yX8_add (Cond.code yX8_add cX8_add 3 none :: wsL_law) ({ frames := 0, cells := 0, slots := 0, locals := 0 } : Room) (va_Pc [.ref h0, .long 0] (gI D y aS [(h0, .inr (8, [.ref h1, .int 4])), (h1, .inl (y 1, 200, .inr (.inl wf4100348)))] sz)) (va_Qv (fun (u : Unit) => True) (fun u => gO D (va_A [(h0, .inr (8, [.ref h1, .int 4])), (h1, .inl (y 1, 200, .inr (.inl wf4100348)))] sz) [(h0, .inr (8, [.ref h1, .int 5])), (h1, .inl (y 1, 200, .inr (.inl (vp_updL wf4100348 ((4 : Int32).toNatClampNeg) 0))))]) (va_A [(h0, .inr (8, [.ref h1, .int 4])), (h1, .inl (y 1, 200, .inr (.inl wf4100348)))] sz)) 0 0 (va_A [(h0, .inr (8, [.ref h1, .int 4])), (h1, .inl (y 1, 200, .inr (.inl wf4100348)))] sz) := by
  refine g_of (by decide) (Nat.le_of_ble_eq_true rfl) ?_
  intro p e s m below meth c ls A hx hb hr hml hown hg hlocks hin hsz hK hP hD hS hA hAe hl
  rw [← hAe]
  replace hown : s.vm.findClass RX8 = some m.cls := hown
  replace hl : lv_has ls 3 [(0, .ref h0), (1, .long 0)] := hl
  refine lv_aload_n hx hb dX8_add_0 rfl (lv_at hl 0 rfl) ?_
  refine gm_get (D := D) (ci := 8) (v := .int 4) (C := RX8) (T := TX8) (N := 2) hx hb hg inlX8 hown hK.1 hP 0 rfl rfl 1 (by decide) tX8_1 (hg _ gw_155) rfl dX8_add_1 ?_
  refine lv_if_lt (tgt := 39) hx hb dX8_add_4 (by decide) (fun c9 => absurd c9 (by decide +kernel)) (fun _ => ?_)
  refine lv_aload_n hx hb dX8_add_7 rfl (lv_at hl 0 rfl) ?_
  refine gm_get (D := D) (ci := 8) (v := .int 4) (C := RX8) (T := TX8) (N := 2) hx hb hg inlX8 hown hK.1 hP 0 rfl rfl 1 (by decide) tX8_1 (hg _ gw_155) rfl dX8_add_8 ?_
  refine lv_aload_n hx hb dX8_add_11 rfl (lv_at hl 0 rfl) ?_
  refine gm_get (D := D) (ci := 8) (v := .ref h1) (C := RX8) (T := TX8) (N := 2) hx hb hg inlX8 hown hK.1 hP 0 rfl rfl 0 (by decide) tX8_0 (hg _ gw_98) rfl dX8_add_12 ?_
  refine va_alen hx hb hK.1 hP 1 1 rfl rfl (v := 200) rfl dX8_add_15 ?_
  refine lv_icmp_ge (tgt := 39) hx hb dX8_add_16 (by decide) (fun c9 => absurd c9 (by decide +kernel)) (fun _ => ?_)
  refine lv_aload_n hx hb dX8_add_19 rfl (lv_at hl 0 rfl) ?_
  refine gm_get (D := D) (ci := 8) (v := .ref h1) (C := RX8) (T := TX8) (N := 2) hx hb hg inlX8 hown hK.1 hP 0 rfl rfl 0 (by decide) tX8_0 (hg _ gw_98) rfl dX8_add_20 ?_
  refine lv_aload_n hx hb dX8_add_23 rfl (lv_at hl 0 rfl) ?_
  refine gm_get (D := D) (ci := 8) (v := .int 4) (C := RX8) (T := TX8) (N := 2) hx hb hg inlX8 hown hK.1 hP 0 rfl rfl 1 (by decide) tX8_1 (hg _ gw_155) rfl dX8_add_24 ?_
  refine lv_lload_n hx hb dX8_add_27 rfl (lv_at hl 1 rfl) ?_
  refine va_last hx hb hK.1 hP hD hS 1 1 rfl rfl (by unfold vp_in; decide +kernel) dX8_add_28 ?_
  clear hP hD hS
  refine fun H locs (hP : va_P D vwCl [(h0, .inr (8, [.ref h1, .int 4])), (h1, .inl (y 1, 200, .inr (.inl (vp_updL wf4100348 ((4 : Int32).toNatClampNeg) 0))))] H) (hD : va_D A [(h0, .inr (8, [.ref h1, .int 4])), (h1, .inl (y 1, 200, .inr (.inl (vp_updL wf4100348 ((4 : Int32).toNatClampNeg) 0))))]) hS => ?_
  refine lv_aload_n hx hb dX8_add_29 rfl (lv_at hl 0 rfl) ?_
  refine lv_dup hx hb dX8_add_30 rfl ?_
  refine gm_get (D := D) (ci := 8) (v := .int 4) (C := RX8) (T := TX8) (N := 2) hx hb hg inlX8 hown hK.1 hP 0 rfl rfl 1 (by decide) tX8_1 (hg _ gw_155) rfl dX8_add_31 ?_
  refine lv_iconst (v := 1) hx hb dX8_add_34 (by decide) ?_
  refine lv_iadd hx hb dX8_add_35 ?_
  refine g_fi (v := 5) (by decide +kernel) ?_
  refine gm_put (D := D) (ci := 8) (v := .int 5) (ty := .int) (C := RX8) (T := TX8) (N := 2) hx hb hg inlX8 tyX8 tyX8_ok nmX8 hown hK.1 hP hD hS 0 rfl rfl 1 (by decide) tX8_1 (hg _ gw_155) (by decide +kernel) rfl rfl (Nat.le_of_ble_eq_true rfl) dX8_add_36 ?_
  clear hP hD hS H locs
  refine fun H locs (hP : va_P D vwCl [(h0, .inr (8, [.ref h1, .int 5])), (h1, .inl (y 1, 200, .inr (.inl (vp_updL wf4100348 ((4 : Int32).toNatClampNeg) 0))))] H) (hD : va_D A [(h0, .inr (8, [.ref h1, .int 5])), (h1, .inl (y 1, 200, .inr (.inl (vp_updL wf4100348 ((4 : Int32).toNatClampNeg) 0))))]) hS => ?_
  exact g_vret hx hb hr hlocks () hP hD hS trivial (Nat.le_of_ble_eq_true rfl) (Nat.le_of_ble_eq_true rfl) dX8_add_39
set_option maxRecDepth 100000 in
set_option maxHeartbeats 4000000 in
theorem k_X8_addMany_8 (l : Launch) (D : va_G) (y : Nat → ClassId) (aS : Nat → Nat) (sz : Nat) (h0 : Nat) (h1 : Nat) (wf4100350 : Nat → Int64) : Met l yX8_addMany (Cond.code yX8_addMany cX8_addMany 5 none :: wsL_law) ({ frames := 1, cells := 0, slots := 0, locals := 22 } : Room) (va_Pc [.ref h0, .int 5, .long 0] (gI D y aS [(h0, .inr (8, [.ref h1, .int 0])), (h1, .inl (y 1, 200, .inr (.inl wf4100350)))] sz)) (va_Qv (fun (u : Unit) => True) (fun u => gO D (va_A [(h0, .inr (8, [.ref h1, .int 0])), (h1, .inl (y 1, 200, .inr (.inl wf4100350)))] sz) [(h0, .inr (8, [.ref h1, .int 5])), (h1, .inl (y 1, 200, .inr (.inl (vp_updL (vp_updL (vp_updL (vp_updL (vp_updL wf4100350 ((0 : Int32).toNatClampNeg) 0) ((1 : Int32).toNatClampNeg) 0) ((2 : Int32).toNatClampNeg) 0) ((3 : Int32).toNatClampNeg) 0) ((4 : Int32).toNatClampNeg) 0))))]) (va_A [(h0, .inr (8, [.ref h1, .int 0])), (h1, .inl (y 1, 200, .inr (.inl wf4100350)))] sz)) 0 0 (va_A [(h0, .inr (8, [.ref h1, .int 0])), (h1, .inl (y 1, 200, .inr (.inl wf4100350)))] sz) := by
  refine g_of (by decide) (Nat.le_of_ble_eq_true rfl) ?_
  intro p e s m below meth c ls A hx hb hr hml hown hg hlocks hin hsz hK hP hD hS hA hAe hl
  rw [← hAe]
  replace hown : s.vm.findClass RX8 = some m.cls := hown
  replace hl : lv_has ls 5 [(0, .ref h0), (1, .int 5), (2, .long 0)] := hl
  refine lv_iconst (v := 0) hx hb dX8_addMany_0 (by decide) ?_
  refine lv_istore (lv' := [(4, .int 0), (0, .ref h0), (1, .int 5), (2, .long 0)]) hx hb dX8_addMany_1 hl (by decide) rfl ?_
  clear hl
  clear ls
  intro ls hl
  refine lv_iload hx hb dX8_addMany_3 (lv_at hl 0 rfl) ?_
  refine lv_iload_n hx hb dX8_addMany_5 rfl (lv_at hl 2 rfl) ?_
  refine lv_icmp_ge (tgt := 30) hx hb dX8_addMany_6 (by decide) (fun c9 => absurd c9 (by decide +kernel)) (fun _ => ?_)
  refine lv_iload hx hb dX8_addMany_9 (lv_at hl 0 rfl) ?_
  refine lv_aload_n hx hb dX8_addMany_11 rfl (lv_at hl 1 rfl) ?_
  refine gm_get (D := D) (ci := 8) (v := .ref h1) (C := RX8) (T := TX8) (N := 2) hx hb hg inlX8 hown hK.1 hP 0 rfl rfl 0 (by decide) tX8_0 (hg _ gw_98) rfl dX8_addMany_12 ?_
  refine va_alen hx hb hK.1 hP 1 1 rfl rfl (v := 200) rfl dX8_addMany_15 ?_
  refine lv_icmp_ge (tgt := 30) hx hb dX8_addMany_16 (by decide) (fun c9 => absurd c9 (by decide +kernel)) (fun _ => ?_)
  refine lv_aload_n hx hb dX8_addMany_19 rfl (lv_at hl 1 rfl) ?_
  refine lv_lload_n hx hb dX8_addMany_20 rfl (lv_at hl 3 rfl) ?_
  refine g_av (wr := []) (va_runV (As := [.long 0]) (rest := []) ⟨hx, hb, hml, hown, hg⟩ (k_X8_add_28 l D y aS s.heap.size h0 h1 wf4100350) (cwV 1 hg ghV_RX8_19_X8_add rfl rfl rfl (by decide +kernel) ⟨Nat.le_of_ble_eq_true rfl, Nat.le_of_ble_eq_true rfl⟩) (g_preV (q := (RX8, TX8, 2)) hK hP hD [0, 1] rfl (by decide) (ci := 8) (q0 := 0) rfl rfl) rfl rfl hl.1 rfl (lv_room (Nat.le_of_ble_eq_true rfl)) dX8_addMany_21 ⟨Nat.le_of_ble_eq_true rfl, Nat.le_of_ble_eq_true rfl⟩) hP hD hS hA [0, 1] [] rfl rfl (by decide) (by decide) ?_
  clear hP hD hS
  refine fun u H locs hq hP hD hS => ?_
  replace hP : va_P D vwCl [(h0, .inr (8, [.ref h1, .int 1])), (h1, .inl (y 1, 200, .inr (.inl (vp_updL wf4100350 ((0 : Int32).toNatClampNeg) 0))))] H := hP
  replace hD : va_D A [(h0, .inr (8, [.ref h1, .int 1])), (h1, .inl (y 1, 200, .inr (.inl (vp_updL wf4100350 ((0 : Int32).toNatClampNeg) 0))))] := hD
  refine lv_iinc (v := 1) (lv' := [(4, .int 1), (0, .ref h0), (1, .int 5), (2, .long 0)]) hx hb dX8_addMany_24 hl (k := 0) rfl (by decide +kernel) (by decide) rfl ?_
  clear hl
  clear ls
  intro ls hl
  refine lv_goto (tgt := 3) hx hb dX8_addMany_27 (by decide) ?_
  refine lv_iload hx hb dX8_addMany_3 (lv_at hl 0 rfl) ?_
  refine lv_iload_n hx hb dX8_addMany_5 rfl (lv_at hl 2 rfl) ?_
  refine lv_icmp_ge (tgt := 30) hx hb dX8_addMany_6 (by decide) (fun c9 => absurd c9 (by decide +kernel)) (fun _ => ?_)
  refine lv_iload hx hb dX8_addMany_9 (lv_at hl 0 rfl) ?_
  refine lv_aload_n hx hb dX8_addMany_11 rfl (lv_at hl 1 rfl) ?_
  refine gm_get (D := D) (ci := 8) (v := .ref h1) (C := RX8) (T := TX8) (N := 2) hx hb hg inlX8 hown hK.1 hP 0 rfl rfl 0 (by decide) tX8_0 (hg _ gw_98) rfl dX8_addMany_12 ?_
  refine va_alen hx hb hK.1 hP 1 1 rfl rfl (v := 200) rfl dX8_addMany_15 ?_
  refine lv_icmp_ge (tgt := 30) hx hb dX8_addMany_16 (by decide) (fun c9 => absurd c9 (by decide +kernel)) (fun _ => ?_)
  refine lv_aload_n hx hb dX8_addMany_19 rfl (lv_at hl 1 rfl) ?_
  refine lv_lload_n hx hb dX8_addMany_20 rfl (lv_at hl 3 rfl) ?_
  refine g_av (wr := []) (va_runV (As := [.long 0]) (rest := []) ⟨hx, hb, hml, hown, hg⟩ (k_X8_add_29 l D y aS H.size h0 h1 (vp_updL wf4100350 ((0 : Int32).toNatClampNeg) 0)) (cwV 1 hg ghV_RX8_19_X8_add rfl rfl rfl (by decide +kernel) ⟨Nat.le_of_ble_eq_true rfl, Nat.le_of_ble_eq_true rfl⟩) (g_preV (q := (RX8, TX8, 2)) hK hP hD [0, 1] rfl (by decide) (ci := 8) (q0 := 0) rfl rfl) rfl rfl hl.1 rfl (lv_room (Nat.le_of_ble_eq_true rfl)) dX8_addMany_21 ⟨Nat.le_of_ble_eq_true rfl, Nat.le_of_ble_eq_true rfl⟩) hP hD hS hA [0, 1] [] rfl rfl (by decide) (by decide) ?_
  clear hP hD hS H locs
  refine fun u H locs hq hP hD hS => ?_
  replace hP : va_P D vwCl [(h0, .inr (8, [.ref h1, .int 2])), (h1, .inl (y 1, 200, .inr (.inl (vp_updL (vp_updL wf4100350 ((0 : Int32).toNatClampNeg) 0) ((1 : Int32).toNatClampNeg) 0))))] H := hP
  replace hD : va_D A [(h0, .inr (8, [.ref h1, .int 2])), (h1, .inl (y 1, 200, .inr (.inl (vp_updL (vp_updL wf4100350 ((0 : Int32).toNatClampNeg) 0) ((1 : Int32).toNatClampNeg) 0))))] := hD
  refine lv_iinc (v := 2) (lv' := [(4, .int 2), (0, .ref h0), (1, .int 5), (2, .long 0)]) hx hb dX8_addMany_24 hl (k := 0) rfl (by decide +kernel) (by decide) rfl ?_
  clear hl
  clear ls
  intro ls hl
  refine lv_goto (tgt := 3) hx hb dX8_addMany_27 (by decide) ?_
  refine lv_iload hx hb dX8_addMany_3 (lv_at hl 0 rfl) ?_
  refine lv_iload_n hx hb dX8_addMany_5 rfl (lv_at hl 2 rfl) ?_
  refine lv_icmp_ge (tgt := 30) hx hb dX8_addMany_6 (by decide) (fun c9 => absurd c9 (by decide +kernel)) (fun _ => ?_)
  refine lv_iload hx hb dX8_addMany_9 (lv_at hl 0 rfl) ?_
  refine lv_aload_n hx hb dX8_addMany_11 rfl (lv_at hl 1 rfl) ?_
  refine gm_get (D := D) (ci := 8) (v := .ref h1) (C := RX8) (T := TX8) (N := 2) hx hb hg inlX8 hown hK.1 hP 0 rfl rfl 0 (by decide) tX8_0 (hg _ gw_98) rfl dX8_addMany_12 ?_
  refine va_alen hx hb hK.1 hP 1 1 rfl rfl (v := 200) rfl dX8_addMany_15 ?_
  refine lv_icmp_ge (tgt := 30) hx hb dX8_addMany_16 (by decide) (fun c9 => absurd c9 (by decide +kernel)) (fun _ => ?_)
  refine lv_aload_n hx hb dX8_addMany_19 rfl (lv_at hl 1 rfl) ?_
  refine lv_lload_n hx hb dX8_addMany_20 rfl (lv_at hl 3 rfl) ?_
  refine g_av (wr := []) (va_runV (As := [.long 0]) (rest := []) ⟨hx, hb, hml, hown, hg⟩ (k_X8_add_30 l D y aS H.size h0 h1 (vp_updL (vp_updL wf4100350 ((0 : Int32).toNatClampNeg) 0) ((1 : Int32).toNatClampNeg) 0)) (cwV 1 hg ghV_RX8_19_X8_add rfl rfl rfl (by decide +kernel) ⟨Nat.le_of_ble_eq_true rfl, Nat.le_of_ble_eq_true rfl⟩) (g_preV (q := (RX8, TX8, 2)) hK hP hD [0, 1] rfl (by decide) (ci := 8) (q0 := 0) rfl rfl) rfl rfl hl.1 rfl (lv_room (Nat.le_of_ble_eq_true rfl)) dX8_addMany_21 ⟨Nat.le_of_ble_eq_true rfl, Nat.le_of_ble_eq_true rfl⟩) hP hD hS hA [0, 1] [] rfl rfl (by decide) (by decide) ?_
  clear hP hD hS H locs
  refine fun u H locs hq hP hD hS => ?_
  replace hP : va_P D vwCl [(h0, .inr (8, [.ref h1, .int 3])), (h1, .inl (y 1, 200, .inr (.inl (vp_updL (vp_updL (vp_updL wf4100350 ((0 : Int32).toNatClampNeg) 0) ((1 : Int32).toNatClampNeg) 0) ((2 : Int32).toNatClampNeg) 0))))] H := hP
  replace hD : va_D A [(h0, .inr (8, [.ref h1, .int 3])), (h1, .inl (y 1, 200, .inr (.inl (vp_updL (vp_updL (vp_updL wf4100350 ((0 : Int32).toNatClampNeg) 0) ((1 : Int32).toNatClampNeg) 0) ((2 : Int32).toNatClampNeg) 0))))] := hD
  refine lv_iinc (v := 3) (lv' := [(4, .int 3), (0, .ref h0), (1, .int 5), (2, .long 0)]) hx hb dX8_addMany_24 hl (k := 0) rfl (by decide +kernel) (by decide) rfl ?_
  clear hl
  clear ls
  intro ls hl
  refine lv_goto (tgt := 3) hx hb dX8_addMany_27 (by decide) ?_
  refine lv_iload hx hb dX8_addMany_3 (lv_at hl 0 rfl) ?_
  refine lv_iload_n hx hb dX8_addMany_5 rfl (lv_at hl 2 rfl) ?_
  refine lv_icmp_ge (tgt := 30) hx hb dX8_addMany_6 (by decide) (fun c9 => absurd c9 (by decide +kernel)) (fun _ => ?_)
  refine lv_iload hx hb dX8_addMany_9 (lv_at hl 0 rfl) ?_
  refine lv_aload_n hx hb dX8_addMany_11 rfl (lv_at hl 1 rfl) ?_
  refine gm_get (D := D) (ci := 8) (v := .ref h1) (C := RX8) (T := TX8) (N := 2) hx hb hg inlX8 hown hK.1 hP 0 rfl rfl 0 (by decide) tX8_0 (hg _ gw_98) rfl dX8_addMany_12 ?_
  refine va_alen hx hb hK.1 hP 1 1 rfl rfl (v := 200) rfl dX8_addMany_15 ?_
  refine lv_icmp_ge (tgt := 30) hx hb dX8_addMany_16 (by decide) (fun c9 => absurd c9 (by decide +kernel)) (fun _ => ?_)
  refine lv_aload_n hx hb dX8_addMany_19 rfl (lv_at hl 1 rfl) ?_
  refine lv_lload_n hx hb dX8_addMany_20 rfl (lv_at hl 3 rfl) ?_
  refine g_av (wr := []) (va_runV (As := [.long 0]) (rest := []) ⟨hx, hb, hml, hown, hg⟩ (k_X8_add_31 l D y aS H.size h0 h1 (vp_updL (vp_updL (vp_updL wf4100350 ((0 : Int32).toNatClampNeg) 0) ((1 : Int32).toNatClampNeg) 0) ((2 : Int32).toNatClampNeg) 0)) (cwV 1 hg ghV_RX8_19_X8_add rfl rfl rfl (by decide +kernel) ⟨Nat.le_of_ble_eq_true rfl, Nat.le_of_ble_eq_true rfl⟩) (g_preV (q := (RX8, TX8, 2)) hK hP hD [0, 1] rfl (by decide) (ci := 8) (q0 := 0) rfl rfl) rfl rfl hl.1 rfl (lv_room (Nat.le_of_ble_eq_true rfl)) dX8_addMany_21 ⟨Nat.le_of_ble_eq_true rfl, Nat.le_of_ble_eq_true rfl⟩) hP hD hS hA [0, 1] [] rfl rfl (by decide) (by decide) ?_
  clear hP hD hS H locs
  refine fun u H locs hq hP hD hS => ?_
  replace hP : va_P D vwCl [(h0, .inr (8, [.ref h1, .int 4])), (h1, .inl (y 1, 200, .inr (.inl (vp_updL (vp_updL (vp_updL (vp_updL wf4100350 ((0 : Int32).toNatClampNeg) 0) ((1 : Int32).toNatClampNeg) 0) ((2 : Int32).toNatClampNeg) 0) ((3 : Int32).toNatClampNeg) 0))))] H := hP
  replace hD : va_D A [(h0, .inr (8, [.ref h1, .int 4])), (h1, .inl (y 1, 200, .inr (.inl (vp_updL (vp_updL (vp_updL (vp_updL wf4100350 ((0 : Int32).toNatClampNeg) 0) ((1 : Int32).toNatClampNeg) 0) ((2 : Int32).toNatClampNeg) 0) ((3 : Int32).toNatClampNeg) 0))))] := hD
  refine lv_iinc (v := 4) (lv' := [(4, .int 4), (0, .ref h0), (1, .int 5), (2, .long 0)]) hx hb dX8_addMany_24 hl (k := 0) rfl (by decide +kernel) (by decide) rfl ?_
  clear hl
  clear ls
  intro ls hl
  refine lv_goto (tgt := 3) hx hb dX8_addMany_27 (by decide) ?_
  refine lv_iload hx hb dX8_addMany_3 (lv_at hl 0 rfl) ?_
  refine lv_iload_n hx hb dX8_addMany_5 rfl (lv_at hl 2 rfl) ?_
  refine lv_icmp_ge (tgt := 30) hx hb dX8_addMany_6 (by decide) (fun c9 => absurd c9 (by decide +kernel)) (fun _ => ?_)
  refine lv_iload hx hb dX8_addMany_9 (lv_at hl 0 rfl) ?_
  refine lv_aload_n hx hb dX8_addMany_11 rfl (lv_at hl 1 rfl) ?_
  refine gm_get (D := D) (ci := 8) (v := .ref h1) (C := RX8) (T := TX8) (N := 2) hx hb hg inlX8 hown hK.1 hP 0 rfl rfl 0 (by decide) tX8_0 (hg _ gw_98) rfl dX8_addMany_12 ?_
  refine va_alen hx hb hK.1 hP 1 1 rfl rfl (v := 200) rfl dX8_addMany_15 ?_
  refine lv_icmp_ge (tgt := 30) hx hb dX8_addMany_16 (by decide) (fun c9 => absurd c9 (by decide +kernel)) (fun _ => ?_)
  refine lv_aload_n hx hb dX8_addMany_19 rfl (lv_at hl 1 rfl) ?_
  refine lv_lload_n hx hb dX8_addMany_20 rfl (lv_at hl 3 rfl) ?_
  refine g_av (wr := []) (va_runV (As := [.long 0]) (rest := []) ⟨hx, hb, hml, hown, hg⟩ (k_X8_add_32 l D y aS H.size h0 h1 (vp_updL (vp_updL (vp_updL (vp_updL wf4100350 ((0 : Int32).toNatClampNeg) 0) ((1 : Int32).toNatClampNeg) 0) ((2 : Int32).toNatClampNeg) 0) ((3 : Int32).toNatClampNeg) 0)) (cwV 1 hg ghV_RX8_19_X8_add rfl rfl rfl (by decide +kernel) ⟨Nat.le_of_ble_eq_true rfl, Nat.le_of_ble_eq_true rfl⟩) (g_preV (q := (RX8, TX8, 2)) hK hP hD [0, 1] rfl (by decide) (ci := 8) (q0 := 0) rfl rfl) rfl rfl hl.1 rfl (lv_room (Nat.le_of_ble_eq_true rfl)) dX8_addMany_21 ⟨Nat.le_of_ble_eq_true rfl, Nat.le_of_ble_eq_true rfl⟩) hP hD hS hA [0, 1] [] rfl rfl (by decide) (by decide) ?_
  clear hP hD hS H locs
  refine fun u H locs hq hP hD hS => ?_
  replace hP : va_P D vwCl [(h0, .inr (8, [.ref h1, .int 5])), (h1, .inl (y 1, 200, .inr (.inl (vp_updL (vp_updL (vp_updL (vp_updL (vp_updL wf4100350 ((0 : Int32).toNatClampNeg) 0) ((1 : Int32).toNatClampNeg) 0) ((2 : Int32).toNatClampNeg) 0) ((3 : Int32).toNatClampNeg) 0) ((4 : Int32).toNatClampNeg) 0))))] H := hP
  replace hD : va_D A [(h0, .inr (8, [.ref h1, .int 5])), (h1, .inl (y 1, 200, .inr (.inl (vp_updL (vp_updL (vp_updL (vp_updL (vp_updL wf4100350 ((0 : Int32).toNatClampNeg) 0) ((1 : Int32).toNatClampNeg) 0) ((2 : Int32).toNatClampNeg) 0) ((3 : Int32).toNatClampNeg) 0) ((4 : Int32).toNatClampNeg) 0))))] := hD
  refine lv_iinc (v := 5) (lv' := [(4, .int 5), (0, .ref h0), (1, .int 5), (2, .long 0)]) hx hb dX8_addMany_24 hl (k := 0) rfl (by decide +kernel) (by decide) rfl ?_
  clear hl
  clear ls
  intro ls hl
  refine lv_goto (tgt := 3) hx hb dX8_addMany_27 (by decide) ?_
  refine lv_iload hx hb dX8_addMany_3 (lv_at hl 0 rfl) ?_
  refine lv_iload_n hx hb dX8_addMany_5 rfl (lv_at hl 2 rfl) ?_
  refine lv_icmp_ge (tgt := 30) hx hb dX8_addMany_6 (by decide) (fun _ => ?_) (fun c9 => absurd c9 (by decide +kernel))
  exact g_vret hx hb hr hlocks () hP hD hS trivial (Nat.le_of_ble_eq_true rfl) (Nat.le_of_ble_eq_true rfl) dX8_addMany_30
set_option maxRecDepth 100000 in
set_option maxHeartbeats 4000000 in
theorem k_X8_set_49 (l : Launch) (D : va_G) (y : Nat → ClassId) (aS : Nat → Nat) (sz : Nat) (h0 : Nat) (p1 : Int64) (h2 : Nat) (wp4100358 : Int32) (wf4100359 : Nat → Int64) : Met l yX8_set (Cond.code yX8_set cX8_set 4 none :: wsL_law) ({ frames := 0, cells := 0, slots := 0, locals := 0 } : Room) (va_Pc [.ref h0, .int 4, .long p1] (gI D y aS [(h0, .inr (8, [.ref h2, .int wp4100358])), (h2, .inl (y 1, 200, .inr (.inl wf4100359)))] sz)) (va_Qv (fun (u : Unit) => True) (fun u => gO D (va_A [(h0, .inr (8, [.ref h2, .int wp4100358])), (h2, .inl (y 1, 200, .inr (.inl wf4100359)))] sz) [(h0, .inr (8, [.ref h2, .int wp4100358])), (h2, .inl (y 1, 200, .inr (.inl (vp_updL wf4100359 ((4 : Int32).toNatClampNeg) p1))))]) (va_A [(h0, .inr (8, [.ref h2, .int wp4100358])), (h2, .inl (y 1, 200, .inr (.inl wf4100359)))] sz)) 0 0 (va_A [(h0, .inr (8, [.ref h2, .int wp4100358])), (h2, .inl (y 1, 200, .inr (.inl wf4100359)))] sz) := by
  refine g_of (by decide) (Nat.le_of_ble_eq_true rfl) ?_
  intro p e s m below meth c ls A hx hb hr hml hown hg hlocks hin hsz hK hP hD hS hA hAe hl
  rw [← hAe]
  replace hown : s.vm.findClass RX8 = some m.cls := hown
  replace hl : lv_has ls 4 [(0, .ref h0), (1, .int 4), (2, .long p1)] := hl
  refine lv_iload_n hx hb dX8_set_0 rfl (lv_at hl 1 rfl) ?_
  refine lv_if_lt (tgt := 20) hx hb dX8_set_1 (by decide) (fun c9 => absurd c9 (by decide +kernel)) (fun _ => ?_)
  refine lv_iload_n hx hb dX8_set_4 rfl (lv_at hl 1 rfl) ?_
  refine lv_aload_n hx hb dX8_set_5 rfl (lv_at hl 0 rfl) ?_
  refine gm_get (D := D) (ci := 8) (v := .ref h2) (C := RX8) (T := TX8) (N := 2) hx hb hg inlX8 hown hK.1 hP 0 rfl rfl 0 (by decide) tX8_0 (hg _ gw_98) rfl dX8_set_6 ?_
  refine va_alen hx hb hK.1 hP 1 1 rfl rfl (v := 200) rfl dX8_set_9 ?_
  refine lv_icmp_ge (tgt := 20) hx hb dX8_set_10 (by decide) (fun c9 => absurd c9 (by decide +kernel)) (fun _ => ?_)
  refine lv_aload_n hx hb dX8_set_13 rfl (lv_at hl 0 rfl) ?_
  refine gm_get (D := D) (ci := 8) (v := .ref h2) (C := RX8) (T := TX8) (N := 2) hx hb hg inlX8 hown hK.1 hP 0 rfl rfl 0 (by decide) tX8_0 (hg _ gw_98) rfl dX8_set_14 ?_
  refine lv_iload_n hx hb dX8_set_17 rfl (lv_at hl 1 rfl) ?_
  refine lv_lload_n hx hb dX8_set_18 rfl (lv_at hl 2 rfl) ?_
  refine va_last hx hb hK.1 hP hD hS 1 1 rfl rfl (by unfold vp_in; decide +kernel) dX8_set_19 ?_
  clear hP hD hS
  refine fun H locs (hP : va_P D vwCl [(h0, .inr (8, [.ref h2, .int wp4100358])), (h2, .inl (y 1, 200, .inr (.inl (vp_updL wf4100359 ((4 : Int32).toNatClampNeg) p1))))] H) (hD : va_D A [(h0, .inr (8, [.ref h2, .int wp4100358])), (h2, .inl (y 1, 200, .inr (.inl (vp_updL wf4100359 ((4 : Int32).toNatClampNeg) p1))))]) hS => ?_
  exact g_vret hx hb hr hlocks () hP hD hS trivial (Nat.le_of_ble_eq_true rfl) (Nat.le_of_ble_eq_true rfl) dX8_set_20
set_option maxRecDepth 100000 in
set_option maxHeartbeats 4000000 in
theorem k_X5_find_12 (l : Launch) (D : va_G) (y : Nat → ClassId) (aS : Nat → Nat) (sz : Nat) (h0 : Nat) (h1 : Nat) (h2 : Nat) (h3 : Nat) (h4 : Nat) (wp4100383 : Int32) (h6 : Nat) (wp4100384 : Int32) : Met l yX5_find (Cond.code yX5_find cX5_find 6 none :: wsL_law) ({ frames := 1, cells := 0, slots := 0, locals := 21 } : Room) (va_Pc [.ref h0, .int 0, .int 4] (gI D y aS [(h0, .inr (5, [.ref h1, .ref h2, .ref h3, .ref h4, .int wp4100383])), (h4, .inr (8, [.ref h6, .int wp4100384])), (h6, .inl (y 1, 3, .inr (.inl (fun _ => 0))))] sz)) (va_Qv (fun (u : Unit) => True) (fun u => gO D (va_A [(h0, .inr (5, [.ref h1, .ref h2, .ref h3, .ref h4, .int wp4100383])), (h4, .inr (8, [.ref h6, .int wp4100384])), (h6, .inl (y 1, 3, .inr (.inl (fun _ => 0))))] sz) [(h0, .inr (5, [.ref h1, .ref h2, .ref h3, .ref h4, .int wp4100383])), (h4, .inr (8, [.ref h6, .int wp4100384])), (h6, .inl (y 1, 3, .inr (.inl (fun _ => 0))))]) (va_A [(h0, .inr (5, [.ref h1, .ref h2, .ref h3, .ref h4, .int wp4100383])), (h4, .inr (8, [.ref h6, .int wp4100384])), (h6, .inl (y 1, 3, .inr (.inl (fun _ => 0))))] sz)) 0 0 (va_A [(h0, .inr (5, [.ref h1, .ref h2, .ref h3, .ref h4, .int wp4100383])), (h4, .inr (8, [.ref h6, .int wp4100384])), (h6, .inl (y 1, 3, .inr (.inl (fun _ => 0))))] sz) := by
  refine g_of (by decide) (Nat.le_of_ble_eq_true rfl) ?_
  intro p e s m below meth c ls A hx hb hr hml hown hg hlocks hin hsz hK hP hD hS hA hAe hl
  rw [← hAe]
  replace hown : s.vm.findClass RX5 = some m.cls := hown
  replace hl : lv_has ls 6 [(0, .ref h0), (1, .int 0), (2, .int 4)] := hl
  refine lv_aload_n hx hb dX5_find_0 rfl (lv_at hl 0 rfl) ?_
  refine gm_get (D := D) (ci := 5) (v := .ref h4) (C := RX5) (T := TX5) (N := 5) hx hb hg inlX5 hown hK.1 hP 0 rfl rfl 3 (by decide) tX5_3 (hg _ gw_141) rfl dX5_find_1 ?_
  refine lv_iload_n hx hb dX5_find_4 rfl (lv_at hl 1 rfl) ?_
  refine g_ai (wr := [(h0, .inr (5, [.ref h1, .ref h2, .ref h3, .ref h4, .int wp4100383]))]) (va_runV (As := [.int 0]) (rest := []) ⟨hx, hb, hml, hown, hg⟩ (k_X8_whole_27 l D y aS s.heap.size h4 h6 wp4100384) (cwV 1 hg ggV_RX5_50_X8_whole rfl rfl rfl (by decide +kernel) ⟨Nat.le_of_ble_eq_true rfl, Nat.le_of_ble_eq_true rfl⟩) (g_preV (q := (RX8, TX8, 2)) hK hP hD [1, 2] rfl (by decide) (ci := 8) (q0 := 1) rfl rfl) rfl rfl hl.1 rfl (lv_room (Nat.le_of_ble_eq_true rfl)) dX5_find_5 ⟨Nat.le_of_ble_eq_true rfl, Nat.le_of_ble_eq_true rfl⟩) hP hD hS hA [1, 2] [0] rfl rfl (by decide) (by decide) ?_
  clear hP hD hS
  refine fun r4100385 u H locs hq hP hD hS => ?_
  subst hq
  replace hP : va_P D vwCl [(h0, .inr (5, [.ref h1, .ref h2, .ref h3, .ref h4, .int wp4100383])), (h4, .inr (8, [.ref h6, .int wp4100384])), (h6, .inl (y 1, 3, .inr (.inl (fun _ => 0))))] H := hP
  replace hD : va_D A [(h0, .inr (5, [.ref h1, .ref h2, .ref h3, .ref h4, .int wp4100383])), (h4, .inr (8, [.ref h6, .int wp4100384])), (h6, .inl (y 1, 3, .inr (.inl (fun _ => 0))))] := hD
  refine lv_istore_n (lv' := [(3, .int 0), (0, .ref h0), (1, .int 0), (2, .int 4)]) hx hb dX5_find_8 rfl hl (by decide) rfl ?_
  clear hl
  clear ls
  intro ls hl
  refine lv_iconst (v := 0) hx hb dX5_find_9 (by decide) ?_
  refine lv_istore (lv' := [(4, .int 0), (3, .int 0), (0, .ref h0), (1, .int 0), (2, .int 4)]) hx hb dX5_find_10 hl (by decide) rfl ?_
  clear hl
  clear ls
  intro ls hl
  refine lv_iload hx hb dX5_find_12 (lv_at hl 0 rfl) ?_
  refine lv_iload_n hx hb dX5_find_14 rfl (lv_at hl 1 rfl) ?_
  refine lv_icmp_ge (tgt := 67) hx hb dX5_find_15 (by decide) (fun _ => ?_) (fun c9 => absurd c9 (by decide +kernel))
  refine lv_iload_n hx hb dX5_find_67 rfl (lv_at hl 1 rfl) ?_
  refine lv_if_le (tgt := 107) hx hb dX5_find_68 (by decide) (fun _ => ?_) (fun c9 => absurd c9 (by decide +kernel))
  refine lv_iload hx hb dX5_find_107 (lv_at hl 0 rfl) ?_
  refine lv_if_le (tgt := 139) hx hb dX5_find_109 (by decide) (fun _ => ?_) (fun c9 => absurd c9 (by decide +kernel))
  exact g_vret hx hb hr hlocks () hP hD hS trivial (Nat.le_of_ble_eq_true rfl) (Nat.le_of_ble_eq_true rfl) dX5_find_139
set_option maxRecDepth 100000 in
set_option maxHeartbeats 4000000 in
theorem k_X5_find_13 (l : Launch) (D : va_G) (y : Nat → ClassId) (aS : Nat → Nat) (sz : Nat) (h0 : Nat) (h1 : Nat) (h2 : Nat) (h3 : Nat) (h4 : Nat) (wp4100388 : Int32) (h6 : Nat) (wp4100389 : Int32) : Met l yX5_find (Cond.code yX5_find cX5_find 6 none :: wsL_law) ({ frames := 1, cells := 0, slots := 0, locals := 21 } : Room) (va_Pc [.ref h0, .int 1, .int 4] (gI D y aS [(h0, .inr (5, [.ref h1, .ref h2, .ref h3, .ref h4, .int wp4100388])), (h4, .inr (8, [.ref h6, .int wp4100389])), (h6, .inl (y 1, 3, .inr (.inl (fun _ => 0))))] sz)) (va_Qv (fun (u : Unit) => True) (fun u => gO D (va_A [(h0, .inr (5, [.ref h1, .ref h2, .ref h3, .ref h4, .int wp4100388])), (h4, .inr (8, [.ref h6, .int wp4100389])), (h6, .inl (y 1, 3, .inr (.inl (fun _ => 0))))] sz) [(h0, .inr (5, [.ref h1, .ref h2, .ref h3, .ref h4, .int wp4100388])), (h4, .inr (8, [.ref h6, .int wp4100389])), (h6, .inl (y 1, 3, .inr (.inl (fun _ => 0))))]) (va_A [(h0, .inr (5, [.ref h1, .ref h2, .ref h3, .ref h4, .int wp4100388])), (h4, .inr (8, [.ref h6, .int wp4100389])), (h6, .inl (y 1, 3, .inr (.inl (fun _ => 0))))] sz)) 0 0 (va_A [(h0, .inr (5, [.ref h1, .ref h2, .ref h3, .ref h4, .int wp4100388])), (h4, .inr (8, [.ref h6, .int wp4100389])), (h6, .inl (y 1, 3, .inr (.inl (fun _ => 0))))] sz) := by
  refine g_of (by decide) (Nat.le_of_ble_eq_true rfl) ?_
  intro p e s m below meth c ls A hx hb hr hml hown hg hlocks hin hsz hK hP hD hS hA hAe hl
  rw [← hAe]
  replace hown : s.vm.findClass RX5 = some m.cls := hown
  replace hl : lv_has ls 6 [(0, .ref h0), (1, .int 1), (2, .int 4)] := hl
  refine lv_aload_n hx hb dX5_find_0 rfl (lv_at hl 0 rfl) ?_
  refine gm_get (D := D) (ci := 5) (v := .ref h4) (C := RX5) (T := TX5) (N := 5) hx hb hg inlX5 hown hK.1 hP 0 rfl rfl 3 (by decide) tX5_3 (hg _ gw_141) rfl dX5_find_1 ?_
  refine lv_iload_n hx hb dX5_find_4 rfl (lv_at hl 1 rfl) ?_
  refine g_ai (wr := [(h0, .inr (5, [.ref h1, .ref h2, .ref h3, .ref h4, .int wp4100388]))]) (va_runV (As := [.int 1]) (rest := []) ⟨hx, hb, hml, hown, hg⟩ (k_X8_whole_28 l D y aS s.heap.size h4 h6 wp4100389) (cwV 1 hg ggV_RX5_50_X8_whole rfl rfl rfl (by decide +kernel) ⟨Nat.le_of_ble_eq_true rfl, Nat.le_of_ble_eq_true rfl⟩) (g_preV (q := (RX8, TX8, 2)) hK hP hD [1, 2] rfl (by decide) (ci := 8) (q0 := 1) rfl rfl) rfl rfl hl.1 rfl (lv_room (Nat.le_of_ble_eq_true rfl)) dX5_find_5 ⟨Nat.le_of_ble_eq_true rfl, Nat.le_of_ble_eq_true rfl⟩) hP hD hS hA [1, 2] [0] rfl rfl (by decide) (by decide) ?_
  clear hP hD hS
  refine fun r4100390 u H locs hq hP hD hS => ?_
  subst hq
  replace hP : va_P D vwCl [(h0, .inr (5, [.ref h1, .ref h2, .ref h3, .ref h4, .int wp4100388])), (h4, .inr (8, [.ref h6, .int wp4100389])), (h6, .inl (y 1, 3, .inr (.inl (fun _ => 0))))] H := hP
  replace hD : va_D A [(h0, .inr (5, [.ref h1, .ref h2, .ref h3, .ref h4, .int wp4100388])), (h4, .inr (8, [.ref h6, .int wp4100389])), (h6, .inl (y 1, 3, .inr (.inl (fun _ => 0))))] := hD
  refine lv_istore_n (lv' := [(3, .int 0), (0, .ref h0), (1, .int 1), (2, .int 4)]) hx hb dX5_find_8 rfl hl (by decide) rfl ?_
  clear hl
  clear ls
  intro ls hl
  refine lv_iconst (v := 0) hx hb dX5_find_9 (by decide) ?_
  refine lv_istore (lv' := [(4, .int 0), (3, .int 0), (0, .ref h0), (1, .int 1), (2, .int 4)]) hx hb dX5_find_10 hl (by decide) rfl ?_
  clear hl
  clear ls
  intro ls hl
  refine lv_iload hx hb dX5_find_12 (lv_at hl 0 rfl) ?_
  refine lv_iload_n hx hb dX5_find_14 rfl (lv_at hl 1 rfl) ?_
  refine lv_icmp_ge (tgt := 67) hx hb dX5_find_15 (by decide) (fun _ => ?_) (fun c9 => absurd c9 (by decide +kernel))
  refine lv_iload_n hx hb dX5_find_67 rfl (lv_at hl 1 rfl) ?_
  refine lv_if_le (tgt := 107) hx hb dX5_find_68 (by decide) (fun _ => ?_) (fun c9 => absurd c9 (by decide +kernel))
  refine lv_iload hx hb dX5_find_107 (lv_at hl 0 rfl) ?_
  refine lv_if_le (tgt := 139) hx hb dX5_find_109 (by decide) (fun _ => ?_) (fun c9 => absurd c9 (by decide +kernel))
  exact g_vret hx hb hr hlocks () hP hD hS trivial (Nat.le_of_ble_eq_true rfl) (Nat.le_of_ble_eq_true rfl) dX5_find_139
set_option maxRecDepth 100000 in
set_option maxHeartbeats 4000000 in
theorem k_X5_find_14 (l : Launch) (D : va_G) (y : Nat → ClassId) (aS : Nat → Nat) (sz : Nat) (h0 : Nat) (h1 : Nat) (h2 : Nat) (h3 : Nat) (h4 : Nat) (wp4100393 : Int32) (h6 : Nat) (wp4100394 : Int32) : Met l yX5_find (Cond.code yX5_find cX5_find 6 none :: wsL_law) ({ frames := 1, cells := 0, slots := 0, locals := 21 } : Room) (va_Pc [.ref h0, .int 2, .int 4] (gI D y aS [(h0, .inr (5, [.ref h1, .ref h2, .ref h3, .ref h4, .int wp4100393])), (h4, .inr (8, [.ref h6, .int wp4100394])), (h6, .inl (y 1, 3, .inr (.inl (fun _ => 0))))] sz)) (va_Qv (fun (u : Unit) => True) (fun u => gO D (va_A [(h0, .inr (5, [.ref h1, .ref h2, .ref h3, .ref h4, .int wp4100393])), (h4, .inr (8, [.ref h6, .int wp4100394])), (h6, .inl (y 1, 3, .inr (.inl (fun _ => 0))))] sz) [(h0, .inr (5, [.ref h1, .ref h2, .ref h3, .ref h4, .int wp4100393])), (h4, .inr (8, [.ref h6, .int wp4100394])), (h6, .inl (y 1, 3, .inr (.inl (fun _ => 0))))]) (va_A [(h0, .inr (5, [.ref h1, .ref h2, .ref h3, .ref h4, .int wp4100393])), (h4, .inr (8, [.ref h6, .int wp4100394])), (h6, .inl (y 1, 3, .inr (.inl (fun _ => 0))))] sz)) 0 0 (va_A [(h0, .inr (5, [.ref h1, .ref h2, .ref h3, .ref h4, .int wp4100393])), (h4, .inr (8, [.ref h6, .int wp4100394])), (h6, .inl (y 1, 3, .inr (.inl (fun _ => 0))))] sz) := by
  refine g_of (by decide) (Nat.le_of_ble_eq_true rfl) ?_
  intro p e s m below meth c ls A hx hb hr hml hown hg hlocks hin hsz hK hP hD hS hA hAe hl
  rw [← hAe]
  replace hown : s.vm.findClass RX5 = some m.cls := hown
  replace hl : lv_has ls 6 [(0, .ref h0), (1, .int 2), (2, .int 4)] := hl
  refine lv_aload_n hx hb dX5_find_0 rfl (lv_at hl 0 rfl) ?_
  refine gm_get (D := D) (ci := 5) (v := .ref h4) (C := RX5) (T := TX5) (N := 5) hx hb hg inlX5 hown hK.1 hP 0 rfl rfl 3 (by decide) tX5_3 (hg _ gw_141) rfl dX5_find_1 ?_
  refine lv_iload_n hx hb dX5_find_4 rfl (lv_at hl 1 rfl) ?_
  refine g_ai (wr := [(h0, .inr (5, [.ref h1, .ref h2, .ref h3, .ref h4, .int wp4100393]))]) (va_runV (As := [.int 2]) (rest := []) ⟨hx, hb, hml, hown, hg⟩ (k_X8_whole_29 l D y aS s.heap.size h4 h6 wp4100394) (cwV 1 hg ggV_RX5_50_X8_whole rfl rfl rfl (by decide +kernel) ⟨Nat.le_of_ble_eq_true rfl, Nat.le_of_ble_eq_true rfl⟩) (g_preV (q := (RX8, TX8, 2)) hK hP hD [1, 2] rfl (by decide) (ci := 8) (q0 := 1) rfl rfl) rfl rfl hl.1 rfl (lv_room (Nat.le_of_ble_eq_true rfl)) dX5_find_5 ⟨Nat.le_of_ble_eq_true rfl, Nat.le_of_ble_eq_true rfl⟩) hP hD hS hA [1, 2] [0] rfl rfl (by decide) (by decide) ?_
  clear hP hD hS
  refine fun r4100395 u H locs hq hP hD hS => ?_
  subst hq
  replace hP : va_P D vwCl [(h0, .inr (5, [.ref h1, .ref h2, .ref h3, .ref h4, .int wp4100393])), (h4, .inr (8, [.ref h6, .int wp4100394])), (h6, .inl (y 1, 3, .inr (.inl (fun _ => 0))))] H := hP
  replace hD : va_D A [(h0, .inr (5, [.ref h1, .ref h2, .ref h3, .ref h4, .int wp4100393])), (h4, .inr (8, [.ref h6, .int wp4100394])), (h6, .inl (y 1, 3, .inr (.inl (fun _ => 0))))] := hD
  refine lv_istore_n (lv' := [(3, .int 0), (0, .ref h0), (1, .int 2), (2, .int 4)]) hx hb dX5_find_8 rfl hl (by decide) rfl ?_
  clear hl
  clear ls
  intro ls hl
  refine lv_iconst (v := 0) hx hb dX5_find_9 (by decide) ?_
  refine lv_istore (lv' := [(4, .int 0), (3, .int 0), (0, .ref h0), (1, .int 2), (2, .int 4)]) hx hb dX5_find_10 hl (by decide) rfl ?_
  clear hl
  clear ls
  intro ls hl
  refine lv_iload hx hb dX5_find_12 (lv_at hl 0 rfl) ?_
  refine lv_iload_n hx hb dX5_find_14 rfl (lv_at hl 1 rfl) ?_
  refine lv_icmp_ge (tgt := 67) hx hb dX5_find_15 (by decide) (fun _ => ?_) (fun c9 => absurd c9 (by decide +kernel))
  refine lv_iload_n hx hb dX5_find_67 rfl (lv_at hl 1 rfl) ?_
  refine lv_if_le (tgt := 107) hx hb dX5_find_68 (by decide) (fun _ => ?_) (fun c9 => absurd c9 (by decide +kernel))
  refine lv_iload hx hb dX5_find_107 (lv_at hl 0 rfl) ?_
  refine lv_if_le (tgt := 139) hx hb dX5_find_109 (by decide) (fun _ => ?_) (fun c9 => absurd c9 (by decide +kernel))
  exact g_vret hx hb hr hlocks () hP hD hS trivial (Nat.le_of_ble_eq_true rfl) (Nat.le_of_ble_eq_true rfl) dX5_find_139
set_option maxRecDepth 100000 in
set_option maxHeartbeats 4000000 in
theorem k_X5_findOut_5 (l : Launch) (D : va_G) (y : Nat → ClassId) (aS : Nat → Nat) (sz : Nat) (h0 : Nat) (h1 : Nat) (h2 : Nat) (h3 : Nat) (h4 : Nat) (wp4100397 : Int32) (h6 : Nat) (h7 : Nat) (wp4100398 : Int32) (wf4100399 : Nat → Int64) (h10 : Nat) (wp4100400 : Int32) : Met l yX5_findOut (Cond.code yX5_findOut cX5_findOut 3 none :: wsL_law) ({ frames := 2, cells := 0, slots := 0, locals := 46 } : Room) (va_Pc [.ref h0] (gI D y aS [(h0, .inr (5, [.ref h1, .ref h2, .ref h3, .ref h4, .int wp4100397])), (h1, .inr (8, [.ref h6, .int 5])), (h2, .inr (8, [.ref h7, .int wp4100398])), (h7, .inl (y 1, 200, .inr (.inl wf4100399))), (h4, .inr (8, [.ref h10, .int wp4100400])), (h10, .inl (y 1, 3, .inr (.inl (fun _ => 0))))] sz)) (va_Qv (fun (u : Unit) => True) (fun u => gO D (va_A [(h0, .inr (5, [.ref h1, .ref h2, .ref h3, .ref h4, .int wp4100397])), (h1, .inr (8, [.ref h6, .int 5])), (h2, .inr (8, [.ref h7, .int wp4100398])), (h7, .inl (y 1, 200, .inr (.inl wf4100399))), (h4, .inr (8, [.ref h10, .int wp4100400])), (h10, .inl (y 1, 3, .inr (.inl (fun _ => 0))))] sz) [(h0, .inr (5, [.ref h1, .ref h2, .ref h3, .ref h4, .int 5])), (h1, .inr (8, [.ref h6, .int 5])), (h2, .inr (8, [.ref h7, .int wp4100398])), (h7, .inl (y 1, 200, .inr (.inl (vp_updL (vp_updL (vp_updL (vp_updL (vp_updL wf4100399 ((0 : Int32).toNatClampNeg) 0) ((1 : Int32).toNatClampNeg) 0) ((2 : Int32).toNatClampNeg) 0) ((3 : Int32).toNatClampNeg) 0) ((4 : Int32).toNatClampNeg) 0)))), (h4, .inr (8, [.ref h10, .int wp4100400])), (h10, .inl (y 1, 3, .inr (.inl (fun _ => 0))))]) (va_A [(h0, .inr (5, [.ref h1, .ref h2, .ref h3, .ref h4, .int wp4100397])), (h1, .inr (8, [.ref h6, .int 5])), (h2, .inr (8, [.ref h7, .int wp4100398])), (h7, .inl (y 1, 200, .inr (.inl wf4100399))), (h4, .inr (8, [.ref h10, .int wp4100400])), (h10, .inl (y 1, 3, .inr (.inl (fun _ => 0))))] sz)) 0 0 (va_A [(h0, .inr (5, [.ref h1, .ref h2, .ref h3, .ref h4, .int wp4100397])), (h1, .inr (8, [.ref h6, .int 5])), (h2, .inr (8, [.ref h7, .int wp4100398])), (h7, .inl (y 1, 200, .inr (.inl wf4100399))), (h4, .inr (8, [.ref h10, .int wp4100400])), (h10, .inl (y 1, 3, .inr (.inl (fun _ => 0))))] sz) := by
  refine g_of (by decide) (Nat.le_of_ble_eq_true rfl) ?_
  intro p e s m below meth c ls A hx hb hr hml hown hg hlocks hin hsz hK hP hD hS hA hAe hl
  rw [← hAe]
  replace hown : s.vm.findClass RX5 = some m.cls := hown
  replace hl : lv_has ls 3 [(0, .ref h0)] := hl
  refine lv_aload_n hx hb dX5_findOut_0 rfl (lv_at hl 0 rfl) ?_
  refine lv_aload_n hx hb dX5_findOut_1 rfl (lv_at hl 0 rfl) ?_
  refine gm_get (D := D) (ci := 5) (v := .ref h1) (C := RX5) (T := TX5) (N := 5) hx hb hg inlX5 hown hK.1 hP 0 rfl rfl 0 (by decide) tX5_0 (hg _ gw_138) rfl dX5_findOut_2 ?_
  refine gm_get (D := D) (ci := 8) (v := .int 5) (C := RX8) (T := TX8) (N := 2) hx hb hg inlX8 hown hK.1 hP 1 rfl rfl 1 (by decide) tX8_1 (hg _ gw_1441) rfl dX5_findOut_5 ?_
  refine gm_put (D := D) (ci := 5) (v := .int 5) (ty := .int) (C := RX5) (T := TX5) (N := 5) hx hb hg inlX5 tyX5 tyX5_ok nmX5 hown hK.1 hP hD hS 0 rfl rfl 4 (by decide) tX5_4 (hg _ gw_1442) (by decide +kernel) rfl rfl (Nat.le_of_ble_eq_true rfl) dX5_findOut_8 ?_
  clear hP hD hS
  refine fun H locs (hP : va_P D vwCl [(h0, .inr (5, [.ref h1, .ref h2, .ref h3, .ref h4, .int 5])), (h1, .inr (8, [.ref h6, .int 5])), (h2, .inr (8, [.ref h7, .int wp4100398])), (h7, .inl (y 1, 200, .inr (.inl wf4100399))), (h4, .inr (8, [.ref h10, .int wp4100400])), (h10, .inl (y 1, 3, .inr (.inl (fun _ => 0))))] H) (hD : va_D A [(h0, .inr (5, [.ref h1, .ref h2, .ref h3, .ref h4, .int 5])), (h1, .inr (8, [.ref h6, .int 5])), (h2, .inr (8, [.ref h7, .int wp4100398])), (h7, .inl (y 1, 200, .inr (.inl wf4100399))), (h4, .inr (8, [.ref h10, .int wp4100400])), (h10, .inl (y 1, 3, .inr (.inl (fun _ => 0))))]) hS => ?_
  refine lv_iconst (v := 0) hx hb dX5_findOut_11 (by decide) ?_
  refine lv_istore_n (lv' := [(1, .int 0), (0, .ref h0)]) hx hb dX5_findOut_12 rfl hl (by decide) rfl ?_
  clear hl
  clear ls
  intro ls hl
  refine lv_iload_n hx hb dX5_findOut_13 rfl (lv_at hl 0 rfl) ?_
  refine lv_aload_n hx hb dX5_findOut_14 rfl (lv_at hl 1 rfl) ?_
  refine gm_get (D := D) (ci := 5) (v := .ref h1) (C := RX5) (T := TX5) (N := 5) hx hb hg inlX5 hown hK.1 hP 0 rfl rfl 0 (by decide) tX5_0 (hg _ gw_138) rfl dX5_findOut_15 ?_
  refine gm_get (D := D) (ci := 8) (v := .int 5) (C := RX8) (T := TX8) (N := 2) hx hb hg inlX8 hown hK.1 hP 1 rfl rfl 1 (by decide) tX8_1 (hg _ gw_1441) rfl dX5_findOut_18 ?_
  refine lv_icmp_ge (tgt := 39) hx hb dX5_findOut_21 (by decide) (fun c9 => absurd c9 (by decide +kernel)) (fun _ => ?_)
  refine lv_aload_n hx hb dX5_findOut_24 rfl (lv_at hl 1 rfl) ?_
  refine gm_get (D := D) (ci := 5) (v := .ref h2) (C := RX5) (T := TX5) (N := 5) hx hb hg inlX5 hown hK.1 hP 0 rfl rfl 1 (by decide) tX5_1 (hg _ gw_139) rfl dX5_findOut_25 ?_
  refine lv_iload_n hx hb dX5_findOut_28 rfl (lv_at hl 0 rfl) ?_
  refine lv_lconst (v := 0) hx hb dX5_findOut_29 (by decide) ?_
  refine g_av (wr := [(h0, .inr (5, [.ref h1, .ref h2, .ref h3, .ref h4, .int 5])), (h1, .inr (8, [.ref h6, .int 5])), (h4, .inr (8, [.ref h10, .int wp4100400])), (h10, .inl (y 1, 3, .inr (.inl (fun _ => 0))))]) (va_runV (As := [.int 0, .long 0]) (rest := []) ⟨hx, hb, hml, hown, hg⟩ (k_X8_set_45 l D y aS H.size h2 0 h7 wp4100398 wf4100399) (cwV 2 hg ggV_RX5_29_X8_set rfl rfl rfl (by decide +kernel) ⟨Nat.le_of_ble_eq_true rfl, Nat.le_of_ble_eq_true rfl⟩) (g_preV (q := (RX8, TX8, 2)) hK hP hD [2, 3] rfl (by decide) (ci := 8) (q0 := 2) rfl rfl) rfl rfl hl.1 rfl (lv_room (Nat.le_of_ble_eq_true rfl)) dX5_findOut_30 ⟨Nat.le_of_ble_eq_true rfl, Nat.le_of_ble_eq_true rfl⟩) hP hD hS hA [2, 3] [0, 1, 4, 5] rfl rfl (by decide) (by decide) ?_
  clear hP hD hS H locs
  refine fun u H locs hq hP hD hS => ?_
  replace hP : va_P D vwCl [(h0, .inr (5, [.ref h1, .ref h2, .ref h3, .ref h4, .int 5])), (h1, .inr (8, [.ref h6, .int 5])), (h4, .inr (8, [.ref h10, .int wp4100400])), (h10, .inl (y 1, 3, .inr (.inl (fun _ => 0)))), (h2, .inr (8, [.ref h7, .int wp4100398])), (h7, .inl (y 1, 200, .inr (.inl (vp_updL wf4100399 ((0 : Int32).toNatClampNeg) 0))))] H := hP
  replace hD : va_D A [(h0, .inr (5, [.ref h1, .ref h2, .ref h3, .ref h4, .int 5])), (h1, .inr (8, [.ref h6, .int 5])), (h4, .inr (8, [.ref h10, .int wp4100400])), (h10, .inl (y 1, 3, .inr (.inl (fun _ => 0)))), (h2, .inr (8, [.ref h7, .int wp4100398])), (h7, .inl (y 1, 200, .inr (.inl (vp_updL wf4100399 ((0 : Int32).toNatClampNeg) 0))))] := hD
  refine lv_iinc (v := 1) (lv' := [(1, .int 1), (0, .ref h0)]) hx hb dX5_findOut_33 hl (k := 0) rfl (by decide +kernel) (by decide) rfl ?_
  clear hl
  clear ls
  intro ls hl
  refine lv_goto (tgt := 13) hx hb dX5_findOut_36 (by decide) ?_
  refine lv_iload_n hx hb dX5_findOut_13 rfl (lv_at hl 0 rfl) ?_
  refine lv_aload_n hx hb dX5_findOut_14 rfl (lv_at hl 1 rfl) ?_
  refine gm_get (D := D) (ci := 5) (v := .ref h1) (C := RX5) (T := TX5) (N := 5) hx hb hg inlX5 hown hK.1 hP 0 rfl rfl 0 (by decide) tX5_0 (hg _ gw_138) rfl dX5_findOut_15 ?_
  refine gm_get (D := D) (ci := 8) (v := .int 5) (C := RX8) (T := TX8) (N := 2) hx hb hg inlX8 hown hK.1 hP 1 rfl rfl 1 (by decide) tX8_1 (hg _ gw_1441) rfl dX5_findOut_18 ?_
  refine lv_icmp_ge (tgt := 39) hx hb dX5_findOut_21 (by decide) (fun c9 => absurd c9 (by decide +kernel)) (fun _ => ?_)
  refine lv_aload_n hx hb dX5_findOut_24 rfl (lv_at hl 1 rfl) ?_
  refine gm_get (D := D) (ci := 5) (v := .ref h2) (C := RX5) (T := TX5) (N := 5) hx hb hg inlX5 hown hK.1 hP 0 rfl rfl 1 (by decide) tX5_1 (hg _ gw_139) rfl dX5_findOut_25 ?_
  refine lv_iload_n hx hb dX5_findOut_28 rfl (lv_at hl 0 rfl) ?_
  refine lv_lconst (v := 0) hx hb dX5_findOut_29 (by decide) ?_
  refine g_av (wr := [(h0, .inr (5, [.ref h1, .ref h2, .ref h3, .ref h4, .int 5])), (h1, .inr (8, [.ref h6, .int 5])), (h4, .inr (8, [.ref h10, .int wp4100400])), (h10, .inl (y 1, 3, .inr (.inl (fun _ => 0))))]) (va_runV (As := [.int 1, .long 0]) (rest := []) ⟨hx, hb, hml, hown, hg⟩ (k_X8_set_46 l D y aS H.size h2 0 h7 wp4100398 (vp_updL wf4100399 ((0 : Int32).toNatClampNeg) 0)) (cwV 2 hg ggV_RX5_29_X8_set rfl rfl rfl (by decide +kernel) ⟨Nat.le_of_ble_eq_true rfl, Nat.le_of_ble_eq_true rfl⟩) (g_preV (q := (RX8, TX8, 2)) hK hP hD [4, 5] rfl (by decide) (ci := 8) (q0 := 4) rfl rfl) rfl rfl hl.1 rfl (lv_room (Nat.le_of_ble_eq_true rfl)) dX5_findOut_30 ⟨Nat.le_of_ble_eq_true rfl, Nat.le_of_ble_eq_true rfl⟩) hP hD hS hA [4, 5] [0, 1, 2, 3] rfl rfl (by decide) (by decide) ?_
  clear hP hD hS H locs
  refine fun u H locs hq hP hD hS => ?_
  replace hP : va_P D vwCl [(h0, .inr (5, [.ref h1, .ref h2, .ref h3, .ref h4, .int 5])), (h1, .inr (8, [.ref h6, .int 5])), (h4, .inr (8, [.ref h10, .int wp4100400])), (h10, .inl (y 1, 3, .inr (.inl (fun _ => 0)))), (h2, .inr (8, [.ref h7, .int wp4100398])), (h7, .inl (y 1, 200, .inr (.inl (vp_updL (vp_updL wf4100399 ((0 : Int32).toNatClampNeg) 0) ((1 : Int32).toNatClampNeg) 0))))] H := hP
  replace hD : va_D A [(h0, .inr (5, [.ref h1, .ref h2, .ref h3, .ref h4, .int 5])), (h1, .inr (8, [.ref h6, .int 5])), (h4, .inr (8, [.ref h10, .int wp4100400])), (h10, .inl (y 1, 3, .inr (.inl (fun _ => 0)))), (h2, .inr (8, [.ref h7, .int wp4100398])), (h7, .inl (y 1, 200, .inr (.inl (vp_updL (vp_updL wf4100399 ((0 : Int32).toNatClampNeg) 0) ((1 : Int32).toNatClampNeg) 0))))] := hD
  refine lv_iinc (v := 2) (lv' := [(1, .int 2), (0, .ref h0)]) hx hb dX5_findOut_33 hl (k := 0) rfl (by decide +kernel) (by decide) rfl ?_
  clear hl
  clear ls
  intro ls hl
  refine lv_goto (tgt := 13) hx hb dX5_findOut_36 (by decide) ?_
  refine lv_iload_n hx hb dX5_findOut_13 rfl (lv_at hl 0 rfl) ?_
  refine lv_aload_n hx hb dX5_findOut_14 rfl (lv_at hl 1 rfl) ?_
  refine gm_get (D := D) (ci := 5) (v := .ref h1) (C := RX5) (T := TX5) (N := 5) hx hb hg inlX5 hown hK.1 hP 0 rfl rfl 0 (by decide) tX5_0 (hg _ gw_138) rfl dX5_findOut_15 ?_
  refine gm_get (D := D) (ci := 8) (v := .int 5) (C := RX8) (T := TX8) (N := 2) hx hb hg inlX8 hown hK.1 hP 1 rfl rfl 1 (by decide) tX8_1 (hg _ gw_1441) rfl dX5_findOut_18 ?_
  refine lv_icmp_ge (tgt := 39) hx hb dX5_findOut_21 (by decide) (fun c9 => absurd c9 (by decide +kernel)) (fun _ => ?_)
  refine lv_aload_n hx hb dX5_findOut_24 rfl (lv_at hl 1 rfl) ?_
  refine gm_get (D := D) (ci := 5) (v := .ref h2) (C := RX5) (T := TX5) (N := 5) hx hb hg inlX5 hown hK.1 hP 0 rfl rfl 1 (by decide) tX5_1 (hg _ gw_139) rfl dX5_findOut_25 ?_
  refine lv_iload_n hx hb dX5_findOut_28 rfl (lv_at hl 0 rfl) ?_
  refine lv_lconst (v := 0) hx hb dX5_findOut_29 (by decide) ?_
  refine g_av (wr := [(h0, .inr (5, [.ref h1, .ref h2, .ref h3, .ref h4, .int 5])), (h1, .inr (8, [.ref h6, .int 5])), (h4, .inr (8, [.ref h10, .int wp4100400])), (h10, .inl (y 1, 3, .inr (.inl (fun _ => 0))))]) (va_runV (As := [.int 2, .long 0]) (rest := []) ⟨hx, hb, hml, hown, hg⟩ (k_X8_set_47 l D y aS H.size h2 0 h7 wp4100398 (vp_updL (vp_updL wf4100399 ((0 : Int32).toNatClampNeg) 0) ((1 : Int32).toNatClampNeg) 0)) (cwV 2 hg ggV_RX5_29_X8_set rfl rfl rfl (by decide +kernel) ⟨Nat.le_of_ble_eq_true rfl, Nat.le_of_ble_eq_true rfl⟩) (g_preV (q := (RX8, TX8, 2)) hK hP hD [4, 5] rfl (by decide) (ci := 8) (q0 := 4) rfl rfl) rfl rfl hl.1 rfl (lv_room (Nat.le_of_ble_eq_true rfl)) dX5_findOut_30 ⟨Nat.le_of_ble_eq_true rfl, Nat.le_of_ble_eq_true rfl⟩) hP hD hS hA [4, 5] [0, 1, 2, 3] rfl rfl (by decide) (by decide) ?_
  clear hP hD hS H locs
  refine fun u H locs hq hP hD hS => ?_
  replace hP : va_P D vwCl [(h0, .inr (5, [.ref h1, .ref h2, .ref h3, .ref h4, .int 5])), (h1, .inr (8, [.ref h6, .int 5])), (h4, .inr (8, [.ref h10, .int wp4100400])), (h10, .inl (y 1, 3, .inr (.inl (fun _ => 0)))), (h2, .inr (8, [.ref h7, .int wp4100398])), (h7, .inl (y 1, 200, .inr (.inl (vp_updL (vp_updL (vp_updL wf4100399 ((0 : Int32).toNatClampNeg) 0) ((1 : Int32).toNatClampNeg) 0) ((2 : Int32).toNatClampNeg) 0))))] H := hP
  replace hD : va_D A [(h0, .inr (5, [.ref h1, .ref h2, .ref h3, .ref h4, .int 5])), (h1, .inr (8, [.ref h6, .int 5])), (h4, .inr (8, [.ref h10, .int wp4100400])), (h10, .inl (y 1, 3, .inr (.inl (fun _ => 0)))), (h2, .inr (8, [.ref h7, .int wp4100398])), (h7, .inl (y 1, 200, .inr (.inl (vp_updL (vp_updL (vp_updL wf4100399 ((0 : Int32).toNatClampNeg) 0) ((1 : Int32).toNatClampNeg) 0) ((2 : Int32).toNatClampNeg) 0))))] := hD
  refine lv_iinc (v := 3) (lv' := [(1, .int 3), (0, .ref h0)]) hx hb dX5_findOut_33 hl (k := 0) rfl (by decide +kernel) (by decide) rfl ?_
  clear hl
  clear ls
  intro ls hl
  refine lv_goto (tgt := 13) hx hb dX5_findOut_36 (by decide) ?_
  refine lv_iload_n hx hb dX5_findOut_13 rfl (lv_at hl 0 rfl) ?_
  refine lv_aload_n hx hb dX5_findOut_14 rfl (lv_at hl 1 rfl) ?_
  refine gm_get (D := D) (ci := 5) (v := .ref h1) (C := RX5) (T := TX5) (N := 5) hx hb hg inlX5 hown hK.1 hP 0 rfl rfl 0 (by decide) tX5_0 (hg _ gw_138) rfl dX5_findOut_15 ?_
  refine gm_get (D := D) (ci := 8) (v := .int 5) (C := RX8) (T := TX8) (N := 2) hx hb hg inlX8 hown hK.1 hP 1 rfl rfl 1 (by decide) tX8_1 (hg _ gw_1441) rfl dX5_findOut_18 ?_
  refine lv_icmp_ge (tgt := 39) hx hb dX5_findOut_21 (by decide) (fun c9 => absurd c9 (by decide +kernel)) (fun _ => ?_)
  refine lv_aload_n hx hb dX5_findOut_24 rfl (lv_at hl 1 rfl) ?_
  refine gm_get (D := D) (ci := 5) (v := .ref h2) (C := RX5) (T := TX5) (N := 5) hx hb hg inlX5 hown hK.1 hP 0 rfl rfl 1 (by decide) tX5_1 (hg _ gw_139) rfl dX5_findOut_25 ?_
  refine lv_iload_n hx hb dX5_findOut_28 rfl (lv_at hl 0 rfl) ?_
  refine lv_lconst (v := 0) hx hb dX5_findOut_29 (by decide) ?_
  refine g_av (wr := [(h0, .inr (5, [.ref h1, .ref h2, .ref h3, .ref h4, .int 5])), (h1, .inr (8, [.ref h6, .int 5])), (h4, .inr (8, [.ref h10, .int wp4100400])), (h10, .inl (y 1, 3, .inr (.inl (fun _ => 0))))]) (va_runV (As := [.int 3, .long 0]) (rest := []) ⟨hx, hb, hml, hown, hg⟩ (k_X8_set_48 l D y aS H.size h2 0 h7 wp4100398 (vp_updL (vp_updL (vp_updL wf4100399 ((0 : Int32).toNatClampNeg) 0) ((1 : Int32).toNatClampNeg) 0) ((2 : Int32).toNatClampNeg) 0)) (cwV 2 hg ggV_RX5_29_X8_set rfl rfl rfl (by decide +kernel) ⟨Nat.le_of_ble_eq_true rfl, Nat.le_of_ble_eq_true rfl⟩) (g_preV (q := (RX8, TX8, 2)) hK hP hD [4, 5] rfl (by decide) (ci := 8) (q0 := 4) rfl rfl) rfl rfl hl.1 rfl (lv_room (Nat.le_of_ble_eq_true rfl)) dX5_findOut_30 ⟨Nat.le_of_ble_eq_true rfl, Nat.le_of_ble_eq_true rfl⟩) hP hD hS hA [4, 5] [0, 1, 2, 3] rfl rfl (by decide) (by decide) ?_
  clear hP hD hS H locs
  refine fun u H locs hq hP hD hS => ?_
  replace hP : va_P D vwCl [(h0, .inr (5, [.ref h1, .ref h2, .ref h3, .ref h4, .int 5])), (h1, .inr (8, [.ref h6, .int 5])), (h4, .inr (8, [.ref h10, .int wp4100400])), (h10, .inl (y 1, 3, .inr (.inl (fun _ => 0)))), (h2, .inr (8, [.ref h7, .int wp4100398])), (h7, .inl (y 1, 200, .inr (.inl (vp_updL (vp_updL (vp_updL (vp_updL wf4100399 ((0 : Int32).toNatClampNeg) 0) ((1 : Int32).toNatClampNeg) 0) ((2 : Int32).toNatClampNeg) 0) ((3 : Int32).toNatClampNeg) 0))))] H := hP
  replace hD : va_D A [(h0, .inr (5, [.ref h1, .ref h2, .ref h3, .ref h4, .int 5])), (h1, .inr (8, [.ref h6, .int 5])), (h4, .inr (8, [.ref h10, .int wp4100400])), (h10, .inl (y 1, 3, .inr (.inl (fun _ => 0)))), (h2, .inr (8, [.ref h7, .int wp4100398])), (h7, .inl (y 1, 200, .inr (.inl (vp_updL (vp_updL (vp_updL (vp_updL wf4100399 ((0 : Int32).toNatClampNeg) 0) ((1 : Int32).toNatClampNeg) 0) ((2 : Int32).toNatClampNeg) 0) ((3 : Int32).toNatClampNeg) 0))))] := hD
  refine lv_iinc (v := 4) (lv' := [(1, .int 4), (0, .ref h0)]) hx hb dX5_findOut_33 hl (k := 0) rfl (by decide +kernel) (by decide) rfl ?_
  clear hl
  clear ls
  intro ls hl
  refine lv_goto (tgt := 13) hx hb dX5_findOut_36 (by decide) ?_
  refine lv_iload_n hx hb dX5_findOut_13 rfl (lv_at hl 0 rfl) ?_
  refine lv_aload_n hx hb dX5_findOut_14 rfl (lv_at hl 1 rfl) ?_
  refine gm_get (D := D) (ci := 5) (v := .ref h1) (C := RX5) (T := TX5) (N := 5) hx hb hg inlX5 hown hK.1 hP 0 rfl rfl 0 (by decide) tX5_0 (hg _ gw_138) rfl dX5_findOut_15 ?_
  refine gm_get (D := D) (ci := 8) (v := .int 5) (C := RX8) (T := TX8) (N := 2) hx hb hg inlX8 hown hK.1 hP 1 rfl rfl 1 (by decide) tX8_1 (hg _ gw_1441) rfl dX5_findOut_18 ?_
  refine lv_icmp_ge (tgt := 39) hx hb dX5_findOut_21 (by decide) (fun c9 => absurd c9 (by decide +kernel)) (fun _ => ?_)
  refine lv_aload_n hx hb dX5_findOut_24 rfl (lv_at hl 1 rfl) ?_
  refine gm_get (D := D) (ci := 5) (v := .ref h2) (C := RX5) (T := TX5) (N := 5) hx hb hg inlX5 hown hK.1 hP 0 rfl rfl 1 (by decide) tX5_1 (hg _ gw_139) rfl dX5_findOut_25 ?_
  refine lv_iload_n hx hb dX5_findOut_28 rfl (lv_at hl 0 rfl) ?_
  refine lv_lconst (v := 0) hx hb dX5_findOut_29 (by decide) ?_
  refine g_av (wr := [(h0, .inr (5, [.ref h1, .ref h2, .ref h3, .ref h4, .int 5])), (h1, .inr (8, [.ref h6, .int 5])), (h4, .inr (8, [.ref h10, .int wp4100400])), (h10, .inl (y 1, 3, .inr (.inl (fun _ => 0))))]) (va_runV (As := [.int 4, .long 0]) (rest := []) ⟨hx, hb, hml, hown, hg⟩ (k_X8_set_49 l D y aS H.size h2 0 h7 wp4100398 (vp_updL (vp_updL (vp_updL (vp_updL wf4100399 ((0 : Int32).toNatClampNeg) 0) ((1 : Int32).toNatClampNeg) 0) ((2 : Int32).toNatClampNeg) 0) ((3 : Int32).toNatClampNeg) 0)) (cwV 2 hg ggV_RX5_29_X8_set rfl rfl rfl (by decide +kernel) ⟨Nat.le_of_ble_eq_true rfl, Nat.le_of_ble_eq_true rfl⟩) (g_preV (q := (RX8, TX8, 2)) hK hP hD [4, 5] rfl (by decide) (ci := 8) (q0 := 4) rfl rfl) rfl rfl hl.1 rfl (lv_room (Nat.le_of_ble_eq_true rfl)) dX5_findOut_30 ⟨Nat.le_of_ble_eq_true rfl, Nat.le_of_ble_eq_true rfl⟩) hP hD hS hA [4, 5] [0, 1, 2, 3] rfl rfl (by decide) (by decide) ?_
  clear hP hD hS H locs
  refine fun u H locs hq hP hD hS => ?_
  replace hP : va_P D vwCl [(h0, .inr (5, [.ref h1, .ref h2, .ref h3, .ref h4, .int 5])), (h1, .inr (8, [.ref h6, .int 5])), (h4, .inr (8, [.ref h10, .int wp4100400])), (h10, .inl (y 1, 3, .inr (.inl (fun _ => 0)))), (h2, .inr (8, [.ref h7, .int wp4100398])), (h7, .inl (y 1, 200, .inr (.inl (vp_updL (vp_updL (vp_updL (vp_updL (vp_updL wf4100399 ((0 : Int32).toNatClampNeg) 0) ((1 : Int32).toNatClampNeg) 0) ((2 : Int32).toNatClampNeg) 0) ((3 : Int32).toNatClampNeg) 0) ((4 : Int32).toNatClampNeg) 0))))] H := hP
  replace hD : va_D A [(h0, .inr (5, [.ref h1, .ref h2, .ref h3, .ref h4, .int 5])), (h1, .inr (8, [.ref h6, .int 5])), (h4, .inr (8, [.ref h10, .int wp4100400])), (h10, .inl (y 1, 3, .inr (.inl (fun _ => 0)))), (h2, .inr (8, [.ref h7, .int wp4100398])), (h7, .inl (y 1, 200, .inr (.inl (vp_updL (vp_updL (vp_updL (vp_updL (vp_updL wf4100399 ((0 : Int32).toNatClampNeg) 0) ((1 : Int32).toNatClampNeg) 0) ((2 : Int32).toNatClampNeg) 0) ((3 : Int32).toNatClampNeg) 0) ((4 : Int32).toNatClampNeg) 0))))] := hD
  refine lv_iinc (v := 5) (lv' := [(1, .int 5), (0, .ref h0)]) hx hb dX5_findOut_33 hl (k := 0) rfl (by decide +kernel) (by decide) rfl ?_
  clear hl
  clear ls
  intro ls hl
  refine lv_goto (tgt := 13) hx hb dX5_findOut_36 (by decide) ?_
  refine lv_iload_n hx hb dX5_findOut_13 rfl (lv_at hl 0 rfl) ?_
  refine lv_aload_n hx hb dX5_findOut_14 rfl (lv_at hl 1 rfl) ?_
  refine gm_get (D := D) (ci := 5) (v := .ref h1) (C := RX5) (T := TX5) (N := 5) hx hb hg inlX5 hown hK.1 hP 0 rfl rfl 0 (by decide) tX5_0 (hg _ gw_138) rfl dX5_findOut_15 ?_
  refine gm_get (D := D) (ci := 8) (v := .int 5) (C := RX8) (T := TX8) (N := 2) hx hb hg inlX8 hown hK.1 hP 1 rfl rfl 1 (by decide) tX8_1 (hg _ gw_1441) rfl dX5_findOut_18 ?_
  refine lv_icmp_ge (tgt := 39) hx hb dX5_findOut_21 (by decide) (fun _ => ?_) (fun c9 => absurd c9 (by decide +kernel))
  refine lv_iconst (v := 0) hx hb dX5_findOut_39 (by decide) ?_
  refine lv_istore_n (lv' := [(1, .int 0), (0, .ref h0)]) hx hb dX5_findOut_40 rfl hl (by decide) rfl ?_
  clear hl
  clear ls
  intro ls hl
  refine lv_iload_n hx hb dX5_findOut_41 rfl (lv_at hl 0 rfl) ?_
  refine lv_aload_n hx hb dX5_findOut_42 rfl (lv_at hl 1 rfl) ?_
  refine gm_get (D := D) (ci := 5) (v := .ref h1) (C := RX5) (T := TX5) (N := 5) hx hb hg inlX5 hown hK.1 hP 0 rfl rfl 0 (by decide) tX5_0 (hg _ gw_138) rfl dX5_findOut_43 ?_
  refine gm_get (D := D) (ci := 8) (v := .int 5) (C := RX8) (T := TX8) (N := 2) hx hb hg inlX8 hown hK.1 hP 1 rfl rfl 1 (by decide) tX8_1 (hg _ gw_1441) rfl dX5_findOut_46 ?_
  refine lv_icmp_ge (tgt := 77) hx hb dX5_findOut_49 (by decide) (fun c9 => absurd c9 (by decide +kernel)) (fun _ => ?_)
  refine lv_iconst (v := 0) hx hb dX5_findOut_52 (by decide) ?_
  refine lv_istore_n (lv' := [(2, .int 0), (1, .int 0), (0, .ref h0)]) hx hb dX5_findOut_53 rfl hl (by decide) rfl ?_
  clear hl
  clear ls
  intro ls hl
  refine lv_iload_n hx hb dX5_findOut_54 rfl (lv_at hl 0 rfl) ?_
  refine lv_iconst (v := 3) hx hb dX5_findOut_55 (by decide) ?_
  refine lv_icmp_ge (tgt := 71) hx hb dX5_findOut_56 (by decide) (fun c9 => absurd c9 (by decide +kernel)) (fun _ => ?_)
  refine lv_aload_n hx hb dX5_findOut_59 rfl (lv_at hl 2 rfl) ?_
  refine lv_iload_n hx hb dX5_findOut_60 rfl (lv_at hl 0 rfl) ?_
  refine lv_iload_n hx hb dX5_findOut_61 rfl (lv_at hl 1 rfl) ?_
  refine g_av (wr := [(h1, .inr (8, [.ref h6, .int 5])), (h2, .inr (8, [.ref h7, .int wp4100398])), (h7, .inl (y 1, 200, .inr (.inl (vp_updL (vp_updL (vp_updL (vp_updL (vp_updL wf4100399 ((0 : Int32).toNatClampNeg) 0) ((1 : Int32).toNatClampNeg) 0) ((2 : Int32).toNatClampNeg) 0) ((3 : Int32).toNatClampNeg) 0) ((4 : Int32).toNatClampNeg) 0))))]) (va_runV (As := [.int 0, .int 0]) (rest := []) ⟨hx, hb, hml, hown, hg⟩ (k_X5_find_0 l D y aS H.size h0 h1 h2 h3 h4 5 h10 wp4100400) (cwV 2 hg ggV_RX5_54_X5_find rfl rfl rfl (by decide +kernel) ⟨Nat.le_of_ble_eq_true rfl, Nat.le_of_ble_eq_true rfl⟩) (g_preV (q := (RX5, TX5, 5)) hK hP hD [0, 2, 3] rfl (by decide) (ci := 5) (q0 := 0) rfl rfl) rfl rfl hl.1 rfl (lv_room (Nat.le_of_ble_eq_true rfl)) dX5_findOut_62 ⟨Nat.le_of_ble_eq_true rfl, Nat.le_of_ble_eq_true rfl⟩) hP hD hS hA [0, 2, 3] [1, 4, 5] rfl rfl (by decide) (by decide) ?_
  clear hP hD hS H locs
  refine fun u H locs hq hP hD hS => ?_
  replace hP : va_P D vwCl [(h1, .inr (8, [.ref h6, .int 5])), (h2, .inr (8, [.ref h7, .int wp4100398])), (h7, .inl (y 1, 200, .inr (.inl (vp_updL (vp_updL (vp_updL (vp_updL (vp_updL wf4100399 ((0 : Int32).toNatClampNeg) 0) ((1 : Int32).toNatClampNeg) 0) ((2 : Int32).toNatClampNeg) 0) ((3 : Int32).toNatClampNeg) 0) ((4 : Int32).toNatClampNeg) 0)))), (h0, .inr (5, [.ref h1, .ref h2, .ref h3, .ref h4, .int 5])), (h4, .inr (8, [.ref h10, .int wp4100400])), (h10, .inl (y 1, 3, .inr (.inl (fun _ => 0))))] H := hP
  replace hD : va_D A [(h1, .inr (8, [.ref h6, .int 5])), (h2, .inr (8, [.ref h7, .int wp4100398])), (h7, .inl (y 1, 200, .inr (.inl (vp_updL (vp_updL (vp_updL (vp_updL (vp_updL wf4100399 ((0 : Int32).toNatClampNeg) 0) ((1 : Int32).toNatClampNeg) 0) ((2 : Int32).toNatClampNeg) 0) ((3 : Int32).toNatClampNeg) 0) ((4 : Int32).toNatClampNeg) 0)))), (h0, .inr (5, [.ref h1, .ref h2, .ref h3, .ref h4, .int 5])), (h4, .inr (8, [.ref h10, .int wp4100400])), (h10, .inl (y 1, 3, .inr (.inl (fun _ => 0))))] := hD
  refine lv_iinc (v := 1) (lv' := [(2, .int 1), (1, .int 0), (0, .ref h0)]) hx hb dX5_findOut_65 hl (k := 0) rfl (by decide +kernel) (by decide) rfl ?_
  clear hl
  clear ls
  intro ls hl
  refine lv_goto (tgt := 54) hx hb dX5_findOut_68 (by decide) ?_
  refine lv_iload_n hx hb dX5_findOut_54 rfl (lv_at hl 0 rfl) ?_
  refine lv_iconst (v := 3) hx hb dX5_findOut_55 (by decide) ?_
  refine lv_icmp_ge (tgt := 71) hx hb dX5_findOut_56 (by decide) (fun c9 => absurd c9 (by decide +kernel)) (fun _ => ?_)
  refine lv_aload_n hx hb dX5_findOut_59 rfl (lv_at hl 2 rfl) ?_
  refine lv_iload_n hx hb dX5_findOut_60 rfl (lv_at hl 0 rfl) ?_
  refine lv_iload_n hx hb dX5_findOut_61 rfl (lv_at hl 1 rfl) ?_
  refine g_av (wr := [(h1, .inr (8, [.ref h6, .int 5])), (h2, .inr (8, [.ref h7, .int wp4100398])), (h7, .inl (y 1, 200, .inr (.inl (vp_updL (vp_updL (vp_updL (vp_updL (vp_updL wf4100399 ((0 : Int32).toNatClampNeg) 0) ((1 : Int32).toNatClampNeg) 0) ((2 : Int32).toNatClampNeg) 0) ((3 : Int32).toNatClampNeg) 0) ((4 : Int32).toNatClampNeg) 0))))]) (va_runV (As := [.int 1, .int 0]) (rest := []) ⟨hx, hb, hml, hown, hg⟩ (k_X5_find_1 l D y aS H.size h0 h1 h2 h3 h4 5 h10 wp4100400) (cwV 2 hg ggV_RX5_54_X5_find rfl rfl rfl (by decide +kernel) ⟨Nat.le_of_ble_eq_true rfl, Nat.le_of_ble_eq_true rfl⟩) (g_preV (q := (RX5, TX5, 5)) hK hP hD [3, 4, 5] rfl (by decide) (ci := 5) (q0 := 3) rfl rfl) rfl rfl hl.1 rfl (lv_room (Nat.le_of_ble_eq_true rfl)) dX5_findOut_62 ⟨Nat.le_of_ble_eq_true rfl, Nat.le_of_ble_eq_true rfl⟩) hP hD hS hA [3, 4, 5] [0, 1, 2] rfl rfl (by decide) (by decide) ?_
  clear hP hD hS H locs
  refine fun u H locs hq hP hD hS => ?_
  replace hP : va_P D vwCl [(h1, .inr (8, [.ref h6, .int 5])), (h2, .inr (8, [.ref h7, .int wp4100398])), (h7, .inl (y 1, 200, .inr (.inl (vp_updL (vp_updL (vp_updL (vp_updL (vp_updL wf4100399 ((0 : Int32).toNatClampNeg) 0) ((1 : Int32).toNatClampNeg) 0) ((2 : Int32).toNatClampNeg) 0) ((3 : Int32).toNatClampNeg) 0) ((4 : Int32).toNatClampNeg) 0)))), (h0, .inr (5, [.ref h1, .ref h2, .ref h3, .ref h4, .int 5])), (h4, .inr (8, [.ref h10, .int wp4100400])), (h10, .inl (y 1, 3, .inr (.inl (fun _ => 0))))] H := hP
  replace hD : va_D A [(h1, .inr (8, [.ref h6, .int 5])), (h2, .inr (8, [.ref h7, .int wp4100398])), (h7, .inl (y 1, 200, .inr (.inl (vp_updL (vp_updL (vp_updL (vp_updL (vp_updL wf4100399 ((0 : Int32).toNatClampNeg) 0) ((1 : Int32).toNatClampNeg) 0) ((2 : Int32).toNatClampNeg) 0) ((3 : Int32).toNatClampNeg) 0) ((4 : Int32).toNatClampNeg) 0)))), (h0, .inr (5, [.ref h1, .ref h2, .ref h3, .ref h4, .int 5])), (h4, .inr (8, [.ref h10, .int wp4100400])), (h10, .inl (y 1, 3, .inr (.inl (fun _ => 0))))] := hD
  refine lv_iinc (v := 2) (lv' := [(2, .int 2), (1, .int 0), (0, .ref h0)]) hx hb dX5_findOut_65 hl (k := 0) rfl (by decide +kernel) (by decide) rfl ?_
  clear hl
  clear ls
  intro ls hl
  refine lv_goto (tgt := 54) hx hb dX5_findOut_68 (by decide) ?_
  refine lv_iload_n hx hb dX5_findOut_54 rfl (lv_at hl 0 rfl) ?_
  refine lv_iconst (v := 3) hx hb dX5_findOut_55 (by decide) ?_
  refine lv_icmp_ge (tgt := 71) hx hb dX5_findOut_56 (by decide) (fun c9 => absurd c9 (by decide +kernel)) (fun _ => ?_)
  refine lv_aload_n hx hb dX5_findOut_59 rfl (lv_at hl 2 rfl) ?_
  refine lv_iload_n hx hb dX5_findOut_60 rfl (lv_at hl 0 rfl) ?_
  refine lv_iload_n hx hb dX5_findOut_61 rfl (lv_at hl 1 rfl) ?_
  refine g_av (wr := [(h1, .inr (8, [.ref h6, .int 5])), (h2, .inr (8, [.ref h7, .int wp4100398])), (h7, .inl (y 1, 200, .inr (.inl (vp_updL (vp_updL (vp_updL (vp_updL (vp_updL wf4100399 ((0 : Int32).toNatClampNeg) 0) ((1 : Int32).toNatClampNeg) 0) ((2 : Int32).toNatClampNeg) 0) ((3 : Int32).toNatClampNeg) 0) ((4 : Int32).toNatClampNeg) 0))))]) (va_runV (As := [.int 2, .int 0]) (rest := []) ⟨hx, hb, hml, hown, hg⟩ (k_X5_find_2 l D y aS H.size h0 h1 h2 h3 h4 5 h10 wp4100400) (cwV 2 hg ggV_RX5_54_X5_find rfl rfl rfl (by decide +kernel) ⟨Nat.le_of_ble_eq_true rfl, Nat.le_of_ble_eq_true rfl⟩) (g_preV (q := (RX5, TX5, 5)) hK hP hD [3, 4, 5] rfl (by decide) (ci := 5) (q0 := 3) rfl rfl) rfl rfl hl.1 rfl (lv_room (Nat.le_of_ble_eq_true rfl)) dX5_findOut_62 ⟨Nat.le_of_ble_eq_true rfl, Nat.le_of_ble_eq_true rfl⟩) hP hD hS hA [3, 4, 5] [0, 1, 2] rfl rfl (by decide) (by decide) ?_
  clear hP hD hS H locs
  refine fun u H locs hq hP hD hS => ?_
  replace hP : va_P D vwCl [(h1, .inr (8, [.ref h6, .int 5])), (h2, .inr (8, [.ref h7, .int wp4100398])), (h7, .inl (y 1, 200, .inr (.inl (vp_updL (vp_updL (vp_updL (vp_updL (vp_updL wf4100399 ((0 : Int32).toNatClampNeg) 0) ((1 : Int32).toNatClampNeg) 0) ((2 : Int32).toNatClampNeg) 0) ((3 : Int32).toNatClampNeg) 0) ((4 : Int32).toNatClampNeg) 0)))), (h0, .inr (5, [.ref h1, .ref h2, .ref h3, .ref h4, .int 5])), (h4, .inr (8, [.ref h10, .int wp4100400])), (h10, .inl (y 1, 3, .inr (.inl (fun _ => 0))))] H := hP
  replace hD : va_D A [(h1, .inr (8, [.ref h6, .int 5])), (h2, .inr (8, [.ref h7, .int wp4100398])), (h7, .inl (y 1, 200, .inr (.inl (vp_updL (vp_updL (vp_updL (vp_updL (vp_updL wf4100399 ((0 : Int32).toNatClampNeg) 0) ((1 : Int32).toNatClampNeg) 0) ((2 : Int32).toNatClampNeg) 0) ((3 : Int32).toNatClampNeg) 0) ((4 : Int32).toNatClampNeg) 0)))), (h0, .inr (5, [.ref h1, .ref h2, .ref h3, .ref h4, .int 5])), (h4, .inr (8, [.ref h10, .int wp4100400])), (h10, .inl (y 1, 3, .inr (.inl (fun _ => 0))))] := hD
  refine lv_iinc (v := 3) (lv' := [(2, .int 3), (1, .int 0), (0, .ref h0)]) hx hb dX5_findOut_65 hl (k := 0) rfl (by decide +kernel) (by decide) rfl ?_
  clear hl
  clear ls
  intro ls hl
  refine lv_goto (tgt := 54) hx hb dX5_findOut_68 (by decide) ?_
  refine lv_iload_n hx hb dX5_findOut_54 rfl (lv_at hl 0 rfl) ?_
  refine lv_iconst (v := 3) hx hb dX5_findOut_55 (by decide) ?_
  refine lv_icmp_ge (tgt := 71) hx hb dX5_findOut_56 (by decide) (fun _ => ?_) (fun c9 => absurd c9 (by decide +kernel))
  refine lv_iinc (v := 1) (lv' := [(1, .int 1), (2, .int 3), (0, .ref h0)]) hx hb dX5_findOut_71 hl (k := 1) rfl (by decide +kernel) (by decide) rfl ?_
  clear hl
  clear ls
  intro ls hl
  refine lv_goto (tgt := 41) hx hb dX5_findOut_74 (by decide) ?_
  refine lv_iload_n hx hb dX5_findOut_41 rfl (lv_at hl 0 rfl) ?_
  refine lv_aload_n hx hb dX5_findOut_42 rfl (lv_at hl 2 rfl) ?_
  refine gm_get (D := D) (ci := 5) (v := .ref h1) (C := RX5) (T := TX5) (N := 5) hx hb hg inlX5 hown hK.1 hP 3 rfl rfl 0 (by decide) tX5_0 (hg _ gw_138) rfl dX5_findOut_43 ?_
  refine gm_get (D := D) (ci := 8) (v := .int 5) (C := RX8) (T := TX8) (N := 2) hx hb hg inlX8 hown hK.1 hP 0 rfl rfl 1 (by decide) tX8_1 (hg _ gw_1441) rfl dX5_findOut_46 ?_
  refine lv_icmp_ge (tgt := 77) hx hb dX5_findOut_49 (by decide) (fun c9 => absurd c9 (by decide +kernel)) (fun _ => ?_)
  refine lv_iconst (v := 0) hx hb dX5_findOut_52 (by decide) ?_
  refine lv_istore_n (lv' := [(2, .int 0), (1, .int 1), (0, .ref h0)]) hx hb dX5_findOut_53 rfl hl (by decide) rfl ?_
  clear hl
  clear ls
  intro ls hl
  refine lv_iload_n hx hb dX5_findOut_54 rfl (lv_at hl 0 rfl) ?_
  refine lv_iconst (v := 3) hx hb dX5_findOut_55 (by decide) ?_
  refine lv_icmp_ge (tgt := 71) hx hb dX5_findOut_56 (by decide) (fun c9 => absurd c9 (by decide +kernel)) (fun _ => ?_)
  refine lv_aload_n hx hb dX5_findOut_59 rfl (lv_at hl 2 rfl) ?_
  refine lv_iload_n hx hb dX5_findOut_60 rfl (lv_at hl 0 rfl) ?_
  refine lv_iload_n hx hb dX5_findOut_61 rfl (lv_at hl 1 rfl) ?_
  refine g_av (wr := [(h1, .inr (8, [.ref h6, .int 5])), (h2, .inr (8, [.ref h7, .int wp4100398])), (h7, .inl (y 1, 200, .inr (.inl (vp_updL (vp_updL (vp_updL (vp_updL (vp_updL wf4100399 ((0 : Int32).toNatClampNeg) 0) ((1 : Int32).toNatClampNeg) 0) ((2 : Int32).toNatClampNeg) 0) ((3 : Int32).toNatClampNeg) 0) ((4 : Int32).toNatClampNeg) 0))))]) (va_runV (As := [.int 0, .int 1]) (rest := []) ⟨hx, hb, hml, hown, hg⟩ (k_X5_find_3 l D y aS H.size h0 h1 h2 h3 h4 5 h10 wp4100400) (cwV 2 hg ggV_RX5_54_X5_find rfl rfl rfl (by decide +kernel) ⟨Nat.le_of_ble_eq_true rfl, Nat.le_of_ble_eq_true rfl⟩) (g_preV (q := (RX5, TX5, 5)) hK hP hD [3, 4, 5] rfl (by decide) (ci := 5) (q0 := 3) rfl rfl) rfl rfl hl.1 rfl (lv_room (Nat.le_of_ble_eq_true rfl)) dX5_findOut_62 ⟨Nat.le_of_ble_eq_true rfl, Nat.le_of_ble_eq_true rfl⟩) hP hD hS hA [3, 4, 5] [0, 1, 2] rfl rfl (by decide) (by decide) ?_
  clear hP hD hS H locs
  refine fun u H locs hq hP hD hS => ?_
  replace hP : va_P D vwCl [(h1, .inr (8, [.ref h6, .int 5])), (h2, .inr (8, [.ref h7, .int wp4100398])), (h7, .inl (y 1, 200, .inr (.inl (vp_updL (vp_updL (vp_updL (vp_updL (vp_updL wf4100399 ((0 : Int32).toNatClampNeg) 0) ((1 : Int32).toNatClampNeg) 0) ((2 : Int32).toNatClampNeg) 0) ((3 : Int32).toNatClampNeg) 0) ((4 : Int32).toNatClampNeg) 0)))), (h0, .inr (5, [.ref h1, .ref h2, .ref h3, .ref h4, .int 5])), (h4, .inr (8, [.ref h10, .int wp4100400])), (h10, .inl (y 1, 3, .inr (.inl (fun _ => 0))))] H := hP
  replace hD : va_D A [(h1, .inr (8, [.ref h6, .int 5])), (h2, .inr (8, [.ref h7, .int wp4100398])), (h7, .inl (y 1, 200, .inr (.inl (vp_updL (vp_updL (vp_updL (vp_updL (vp_updL wf4100399 ((0 : Int32).toNatClampNeg) 0) ((1 : Int32).toNatClampNeg) 0) ((2 : Int32).toNatClampNeg) 0) ((3 : Int32).toNatClampNeg) 0) ((4 : Int32).toNatClampNeg) 0)))), (h0, .inr (5, [.ref h1, .ref h2, .ref h3, .ref h4, .int 5])), (h4, .inr (8, [.ref h10, .int wp4100400])), (h10, .inl (y 1, 3, .inr (.inl (fun _ => 0))))] := hD
  refine lv_iinc (v := 1) (lv' := [(2, .int 1), (1, .int 1), (0, .ref h0)]) hx hb dX5_findOut_65 hl (k := 0) rfl (by decide +kernel) (by decide) rfl ?_
  clear hl
  clear ls
  intro ls hl
  refine lv_goto (tgt := 54) hx hb dX5_findOut_68 (by decide) ?_
  refine lv_iload_n hx hb dX5_findOut_54 rfl (lv_at hl 0 rfl) ?_
  refine lv_iconst (v := 3) hx hb dX5_findOut_55 (by decide) ?_
  refine lv_icmp_ge (tgt := 71) hx hb dX5_findOut_56 (by decide) (fun c9 => absurd c9 (by decide +kernel)) (fun _ => ?_)
  refine lv_aload_n hx hb dX5_findOut_59 rfl (lv_at hl 2 rfl) ?_
  refine lv_iload_n hx hb dX5_findOut_60 rfl (lv_at hl 0 rfl) ?_
  refine lv_iload_n hx hb dX5_findOut_61 rfl (lv_at hl 1 rfl) ?_
  refine g_av (wr := [(h1, .inr (8, [.ref h6, .int 5])), (h2, .inr (8, [.ref h7, .int wp4100398])), (h7, .inl (y 1, 200, .inr (.inl (vp_updL (vp_updL (vp_updL (vp_updL (vp_updL wf4100399 ((0 : Int32).toNatClampNeg) 0) ((1 : Int32).toNatClampNeg) 0) ((2 : Int32).toNatClampNeg) 0) ((3 : Int32).toNatClampNeg) 0) ((4 : Int32).toNatClampNeg) 0))))]) (va_runV (As := [.int 1, .int 1]) (rest := []) ⟨hx, hb, hml, hown, hg⟩ (k_X5_find_4 l D y aS H.size h0 h1 h2 h3 h4 5 h10 wp4100400) (cwV 2 hg ggV_RX5_54_X5_find rfl rfl rfl (by decide +kernel) ⟨Nat.le_of_ble_eq_true rfl, Nat.le_of_ble_eq_true rfl⟩) (g_preV (q := (RX5, TX5, 5)) hK hP hD [3, 4, 5] rfl (by decide) (ci := 5) (q0 := 3) rfl rfl) rfl rfl hl.1 rfl (lv_room (Nat.le_of_ble_eq_true rfl)) dX5_findOut_62 ⟨Nat.le_of_ble_eq_true rfl, Nat.le_of_ble_eq_true rfl⟩) hP hD hS hA [3, 4, 5] [0, 1, 2] rfl rfl (by decide) (by decide) ?_
  clear hP hD hS H locs
  refine fun u H locs hq hP hD hS => ?_
  replace hP : va_P D vwCl [(h1, .inr (8, [.ref h6, .int 5])), (h2, .inr (8, [.ref h7, .int wp4100398])), (h7, .inl (y 1, 200, .inr (.inl (vp_updL (vp_updL (vp_updL (vp_updL (vp_updL wf4100399 ((0 : Int32).toNatClampNeg) 0) ((1 : Int32).toNatClampNeg) 0) ((2 : Int32).toNatClampNeg) 0) ((3 : Int32).toNatClampNeg) 0) ((4 : Int32).toNatClampNeg) 0)))), (h0, .inr (5, [.ref h1, .ref h2, .ref h3, .ref h4, .int 5])), (h4, .inr (8, [.ref h10, .int wp4100400])), (h10, .inl (y 1, 3, .inr (.inl (fun _ => 0))))] H := hP
  replace hD : va_D A [(h1, .inr (8, [.ref h6, .int 5])), (h2, .inr (8, [.ref h7, .int wp4100398])), (h7, .inl (y 1, 200, .inr (.inl (vp_updL (vp_updL (vp_updL (vp_updL (vp_updL wf4100399 ((0 : Int32).toNatClampNeg) 0) ((1 : Int32).toNatClampNeg) 0) ((2 : Int32).toNatClampNeg) 0) ((3 : Int32).toNatClampNeg) 0) ((4 : Int32).toNatClampNeg) 0)))), (h0, .inr (5, [.ref h1, .ref h2, .ref h3, .ref h4, .int 5])), (h4, .inr (8, [.ref h10, .int wp4100400])), (h10, .inl (y 1, 3, .inr (.inl (fun _ => 0))))] := hD
  refine lv_iinc (v := 2) (lv' := [(2, .int 2), (1, .int 1), (0, .ref h0)]) hx hb dX5_findOut_65 hl (k := 0) rfl (by decide +kernel) (by decide) rfl ?_
  clear hl
  clear ls
  intro ls hl
  refine lv_goto (tgt := 54) hx hb dX5_findOut_68 (by decide) ?_
  refine lv_iload_n hx hb dX5_findOut_54 rfl (lv_at hl 0 rfl) ?_
  refine lv_iconst (v := 3) hx hb dX5_findOut_55 (by decide) ?_
  refine lv_icmp_ge (tgt := 71) hx hb dX5_findOut_56 (by decide) (fun c9 => absurd c9 (by decide +kernel)) (fun _ => ?_)
  refine lv_aload_n hx hb dX5_findOut_59 rfl (lv_at hl 2 rfl) ?_
  refine lv_iload_n hx hb dX5_findOut_60 rfl (lv_at hl 0 rfl) ?_
  refine lv_iload_n hx hb dX5_findOut_61 rfl (lv_at hl 1 rfl) ?_
  refine g_av (wr := [(h1, .inr (8, [.ref h6, .int 5])), (h2, .inr (8, [.ref h7, .int wp4100398])), (h7, .inl (y 1, 200, .inr (.inl (vp_updL (vp_updL (vp_updL (vp_updL (vp_updL wf4100399 ((0 : Int32).toNatClampNeg) 0) ((1 : Int32).toNatClampNeg) 0) ((2 : Int32).toNatClampNeg) 0) ((3 : Int32).toNatClampNeg) 0) ((4 : Int32).toNatClampNeg) 0))))]) (va_runV (As := [.int 2, .int 1]) (rest := []) ⟨hx, hb, hml, hown, hg⟩ (k_X5_find_5 l D y aS H.size h0 h1 h2 h3 h4 5 h10 wp4100400) (cwV 2 hg ggV_RX5_54_X5_find rfl rfl rfl (by decide +kernel) ⟨Nat.le_of_ble_eq_true rfl, Nat.le_of_ble_eq_true rfl⟩) (g_preV (q := (RX5, TX5, 5)) hK hP hD [3, 4, 5] rfl (by decide) (ci := 5) (q0 := 3) rfl rfl) rfl rfl hl.1 rfl (lv_room (Nat.le_of_ble_eq_true rfl)) dX5_findOut_62 ⟨Nat.le_of_ble_eq_true rfl, Nat.le_of_ble_eq_true rfl⟩) hP hD hS hA [3, 4, 5] [0, 1, 2] rfl rfl (by decide) (by decide) ?_
  clear hP hD hS H locs
  refine fun u H locs hq hP hD hS => ?_
  replace hP : va_P D vwCl [(h1, .inr (8, [.ref h6, .int 5])), (h2, .inr (8, [.ref h7, .int wp4100398])), (h7, .inl (y 1, 200, .inr (.inl (vp_updL (vp_updL (vp_updL (vp_updL (vp_updL wf4100399 ((0 : Int32).toNatClampNeg) 0) ((1 : Int32).toNatClampNeg) 0) ((2 : Int32).toNatClampNeg) 0) ((3 : Int32).toNatClampNeg) 0) ((4 : Int32).toNatClampNeg) 0)))), (h0, .inr (5, [.ref h1, .ref h2, .ref h3, .ref h4, .int 5])), (h4, .inr (8, [.ref h10, .int wp4100400])), (h10, .inl (y 1, 3, .inr (.inl (fun _ => 0))))] H := hP
  replace hD : va_D A [(h1, .inr (8, [.ref h6, .int 5])), (h2, .inr (8, [.ref h7, .int wp4100398])), (h7, .inl (y 1, 200, .inr (.inl (vp_updL (vp_updL (vp_updL (vp_updL (vp_updL wf4100399 ((0 : Int32).toNatClampNeg) 0) ((1 : Int32).toNatClampNeg) 0) ((2 : Int32).toNatClampNeg) 0) ((3 : Int32).toNatClampNeg) 0) ((4 : Int32).toNatClampNeg) 0)))), (h0, .inr (5, [.ref h1, .ref h2, .ref h3, .ref h4, .int 5])), (h4, .inr (8, [.ref h10, .int wp4100400])), (h10, .inl (y 1, 3, .inr (.inl (fun _ => 0))))] := hD
  refine lv_iinc (v := 3) (lv' := [(2, .int 3), (1, .int 1), (0, .ref h0)]) hx hb dX5_findOut_65 hl (k := 0) rfl (by decide +kernel) (by decide) rfl ?_
  clear hl
  clear ls
  intro ls hl
  refine lv_goto (tgt := 54) hx hb dX5_findOut_68 (by decide) ?_
  refine lv_iload_n hx hb dX5_findOut_54 rfl (lv_at hl 0 rfl) ?_
  refine lv_iconst (v := 3) hx hb dX5_findOut_55 (by decide) ?_
  refine lv_icmp_ge (tgt := 71) hx hb dX5_findOut_56 (by decide) (fun _ => ?_) (fun c9 => absurd c9 (by decide +kernel))
  refine lv_iinc (v := 2) (lv' := [(1, .int 2), (2, .int 3), (0, .ref h0)]) hx hb dX5_findOut_71 hl (k := 1) rfl (by decide +kernel) (by decide) rfl ?_
  clear hl
  clear ls
  intro ls hl
  refine lv_goto (tgt := 41) hx hb dX5_findOut_74 (by decide) ?_
  refine lv_iload_n hx hb dX5_findOut_41 rfl (lv_at hl 0 rfl) ?_
  refine lv_aload_n hx hb dX5_findOut_42 rfl (lv_at hl 2 rfl) ?_
  refine gm_get (D := D) (ci := 5) (v := .ref h1) (C := RX5) (T := TX5) (N := 5) hx hb hg inlX5 hown hK.1 hP 3 rfl rfl 0 (by decide) tX5_0 (hg _ gw_138) rfl dX5_findOut_43 ?_
  refine gm_get (D := D) (ci := 8) (v := .int 5) (C := RX8) (T := TX8) (N := 2) hx hb hg inlX8 hown hK.1 hP 0 rfl rfl 1 (by decide) tX8_1 (hg _ gw_1441) rfl dX5_findOut_46 ?_
  refine lv_icmp_ge (tgt := 77) hx hb dX5_findOut_49 (by decide) (fun c9 => absurd c9 (by decide +kernel)) (fun _ => ?_)
  refine lv_iconst (v := 0) hx hb dX5_findOut_52 (by decide) ?_
  refine lv_istore_n (lv' := [(2, .int 0), (1, .int 2), (0, .ref h0)]) hx hb dX5_findOut_53 rfl hl (by decide) rfl ?_
  clear hl
  clear ls
  intro ls hl
  refine lv_iload_n hx hb dX5_findOut_54 rfl (lv_at hl 0 rfl) ?_
  refine lv_iconst (v := 3) hx hb dX5_findOut_55 (by decide) ?_
  refine lv_icmp_ge (tgt := 71) hx hb dX5_findOut_56 (by decide) (fun c9 => absurd c9 (by decide +kernel)) (fun _ => ?_)
  refine lv_aload_n hx hb dX5_findOut_59 rfl (lv_at hl 2 rfl) ?_
  refine lv_iload_n hx hb dX5_findOut_60 rfl (lv_at hl 0 rfl) ?_
  refine lv_iload_n hx hb dX5_findOut_61 rfl (lv_at hl 1 rfl) ?_
  refine g_av (wr := [(h1, .inr (8, [.ref h6, .int 5])), (h2, .inr (8, [.ref h7, .int wp4100398])), (h7, .inl (y 1, 200, .inr (.inl (vp_updL (vp_updL (vp_updL (vp_updL (vp_updL wf4100399 ((0 : Int32).toNatClampNeg) 0) ((1 : Int32).toNatClampNeg) 0) ((2 : Int32).toNatClampNeg) 0) ((3 : Int32).toNatClampNeg) 0) ((4 : Int32).toNatClampNeg) 0))))]) (va_runV (As := [.int 0, .int 2]) (rest := []) ⟨hx, hb, hml, hown, hg⟩ (k_X5_find_6 l D y aS H.size h0 h1 h2 h3 h4 5 h10 wp4100400) (cwV 2 hg ggV_RX5_54_X5_find rfl rfl rfl (by decide +kernel) ⟨Nat.le_of_ble_eq_true rfl, Nat.le_of_ble_eq_true rfl⟩) (g_preV (q := (RX5, TX5, 5)) hK hP hD [3, 4, 5] rfl (by decide) (ci := 5) (q0 := 3) rfl rfl) rfl rfl hl.1 rfl (lv_room (Nat.le_of_ble_eq_true rfl)) dX5_findOut_62 ⟨Nat.le_of_ble_eq_true rfl, Nat.le_of_ble_eq_true rfl⟩) hP hD hS hA [3, 4, 5] [0, 1, 2] rfl rfl (by decide) (by decide) ?_
  clear hP hD hS H locs
  refine fun u H locs hq hP hD hS => ?_
  replace hP : va_P D vwCl [(h1, .inr (8, [.ref h6, .int 5])), (h2, .inr (8, [.ref h7, .int wp4100398])), (h7, .inl (y 1, 200, .inr (.inl (vp_updL (vp_updL (vp_updL (vp_updL (vp_updL wf4100399 ((0 : Int32).toNatClampNeg) 0) ((1 : Int32).toNatClampNeg) 0) ((2 : Int32).toNatClampNeg) 0) ((3 : Int32).toNatClampNeg) 0) ((4 : Int32).toNatClampNeg) 0)))), (h0, .inr (5, [.ref h1, .ref h2, .ref h3, .ref h4, .int 5])), (h4, .inr (8, [.ref h10, .int wp4100400])), (h10, .inl (y 1, 3, .inr (.inl (fun _ => 0))))] H := hP
  replace hD : va_D A [(h1, .inr (8, [.ref h6, .int 5])), (h2, .inr (8, [.ref h7, .int wp4100398])), (h7, .inl (y 1, 200, .inr (.inl (vp_updL (vp_updL (vp_updL (vp_updL (vp_updL wf4100399 ((0 : Int32).toNatClampNeg) 0) ((1 : Int32).toNatClampNeg) 0) ((2 : Int32).toNatClampNeg) 0) ((3 : Int32).toNatClampNeg) 0) ((4 : Int32).toNatClampNeg) 0)))), (h0, .inr (5, [.ref h1, .ref h2, .ref h3, .ref h4, .int 5])), (h4, .inr (8, [.ref h10, .int wp4100400])), (h10, .inl (y 1, 3, .inr (.inl (fun _ => 0))))] := hD
  refine lv_iinc (v := 1) (lv' := [(2, .int 1), (1, .int 2), (0, .ref h0)]) hx hb dX5_findOut_65 hl (k := 0) rfl (by decide +kernel) (by decide) rfl ?_
  clear hl
  clear ls
  intro ls hl
  refine lv_goto (tgt := 54) hx hb dX5_findOut_68 (by decide) ?_
  refine lv_iload_n hx hb dX5_findOut_54 rfl (lv_at hl 0 rfl) ?_
  refine lv_iconst (v := 3) hx hb dX5_findOut_55 (by decide) ?_
  refine lv_icmp_ge (tgt := 71) hx hb dX5_findOut_56 (by decide) (fun c9 => absurd c9 (by decide +kernel)) (fun _ => ?_)
  refine lv_aload_n hx hb dX5_findOut_59 rfl (lv_at hl 2 rfl) ?_
  refine lv_iload_n hx hb dX5_findOut_60 rfl (lv_at hl 0 rfl) ?_
  refine lv_iload_n hx hb dX5_findOut_61 rfl (lv_at hl 1 rfl) ?_
  refine g_av (wr := [(h1, .inr (8, [.ref h6, .int 5])), (h2, .inr (8, [.ref h7, .int wp4100398])), (h7, .inl (y 1, 200, .inr (.inl (vp_updL (vp_updL (vp_updL (vp_updL (vp_updL wf4100399 ((0 : Int32).toNatClampNeg) 0) ((1 : Int32).toNatClampNeg) 0) ((2 : Int32).toNatClampNeg) 0) ((3 : Int32).toNatClampNeg) 0) ((4 : Int32).toNatClampNeg) 0))))]) (va_runV (As := [.int 1, .int 2]) (rest := []) ⟨hx, hb, hml, hown, hg⟩ (k_X5_find_7 l D y aS H.size h0 h1 h2 h3 h4 5 h10 wp4100400) (cwV 2 hg ggV_RX5_54_X5_find rfl rfl rfl (by decide +kernel) ⟨Nat.le_of_ble_eq_true rfl, Nat.le_of_ble_eq_true rfl⟩) (g_preV (q := (RX5, TX5, 5)) hK hP hD [3, 4, 5] rfl (by decide) (ci := 5) (q0 := 3) rfl rfl) rfl rfl hl.1 rfl (lv_room (Nat.le_of_ble_eq_true rfl)) dX5_findOut_62 ⟨Nat.le_of_ble_eq_true rfl, Nat.le_of_ble_eq_true rfl⟩) hP hD hS hA [3, 4, 5] [0, 1, 2] rfl rfl (by decide) (by decide) ?_
  clear hP hD hS H locs
  refine fun u H locs hq hP hD hS => ?_
  replace hP : va_P D vwCl [(h1, .inr (8, [.ref h6, .int 5])), (h2, .inr (8, [.ref h7, .int wp4100398])), (h7, .inl (y 1, 200, .inr (.inl (vp_updL (vp_updL (vp_updL (vp_updL (vp_updL wf4100399 ((0 : Int32).toNatClampNeg) 0) ((1 : Int32).toNatClampNeg) 0) ((2 : Int32).toNatClampNeg) 0) ((3 : Int32).toNatClampNeg) 0) ((4 : Int32).toNatClampNeg) 0)))), (h0, .inr (5, [.ref h1, .ref h2, .ref h3, .ref h4, .int 5])), (h4, .inr (8, [.ref h10, .int wp4100400])), (h10, .inl (y 1, 3, .inr (.inl (fun _ => 0))))] H := hP
  replace hD : va_D A [(h1, .inr (8, [.ref h6, .int 5])), (h2, .inr (8, [.ref h7, .int wp4100398])), (h7, .inl (y 1, 200, .inr (.inl (vp_updL (vp_updL (vp_updL (vp_updL (vp_updL wf4100399 ((0 : Int32).toNatClampNeg) 0) ((1 : Int32).toNatClampNeg) 0) ((2 : Int32).toNatClampNeg) 0) ((3 : Int32).toNatClampNeg) 0) ((4 : Int32).toNatClampNeg) 0)))), (h0, .inr (5, [.ref h1, .ref h2, .ref h3, .ref h4, .int 5])), (h4, .inr (8, [.ref h10, .int wp4100400])), (h10, .inl (y 1, 3, .inr (.inl (fun _ => 0))))] := hD
  refine lv_iinc (v := 2) (lv' := [(2, .int 2), (1, .int 2), (0, .ref h0)]) hx hb dX5_findOut_65 hl (k := 0) rfl (by decide +kernel) (by decide) rfl ?_
  clear hl
  clear ls
  intro ls hl
  refine lv_goto (tgt := 54) hx hb dX5_findOut_68 (by decide) ?_
  refine lv_iload_n hx hb dX5_findOut_54 rfl (lv_at hl 0 rfl) ?_
  refine lv_iconst (v := 3) hx hb dX5_findOut_55 (by decide) ?_
  refine lv_icmp_ge (tgt := 71) hx hb dX5_findOut_56 (by decide) (fun c9 => absurd c9 (by decide +kernel)) (fun _ => ?_)
  refine lv_aload_n hx hb dX5_findOut_59 rfl (lv_at hl 2 rfl) ?_
  refine lv_iload_n hx hb dX5_findOut_60 rfl (lv_at hl 0 rfl) ?_
  refine lv_iload_n hx hb dX5_findOut_61 rfl (lv_at hl 1 rfl) ?_
  refine g_av (wr := [(h1, .inr (8, [.ref h6, .int 5])), (h2, .inr (8, [.ref h7, .int wp4100398])), (h7, .inl (y 1, 200, .inr (.inl (vp_updL (vp_updL (vp_updL (vp_updL (vp_updL wf4100399 ((0 : Int32).toNatClampNeg) 0) ((1 : Int32).toNatClampNeg) 0) ((2 : Int32).toNatClampNeg) 0) ((3 : Int32).toNatClampNeg) 0) ((4 : Int32).toNatClampNeg) 0))))]) (va_runV (As := [.int 2, .int 2]) (rest := []) ⟨hx, hb, hml, hown, hg⟩ (k_X5_find_8 l D y aS H.size h0 h1 h2 h3 h4 5 h10 wp4100400) (cwV 2 hg ggV_RX5_54_X5_find rfl rfl rfl (by decide +kernel) ⟨Nat.le_of_ble_eq_true rfl, Nat.le_of_ble_eq_true rfl⟩) (g_preV (q := (RX5, TX5, 5)) hK hP hD [3, 4, 5] rfl (by decide) (ci := 5) (q0 := 3) rfl rfl) rfl rfl hl.1 rfl (lv_room (Nat.le_of_ble_eq_true rfl)) dX5_findOut_62 ⟨Nat.le_of_ble_eq_true rfl, Nat.le_of_ble_eq_true rfl⟩) hP hD hS hA [3, 4, 5] [0, 1, 2] rfl rfl (by decide) (by decide) ?_
  clear hP hD hS H locs
  refine fun u H locs hq hP hD hS => ?_
  replace hP : va_P D vwCl [(h1, .inr (8, [.ref h6, .int 5])), (h2, .inr (8, [.ref h7, .int wp4100398])), (h7, .inl (y 1, 200, .inr (.inl (vp_updL (vp_updL (vp_updL (vp_updL (vp_updL wf4100399 ((0 : Int32).toNatClampNeg) 0) ((1 : Int32).toNatClampNeg) 0) ((2 : Int32).toNatClampNeg) 0) ((3 : Int32).toNatClampNeg) 0) ((4 : Int32).toNatClampNeg) 0)))), (h0, .inr (5, [.ref h1, .ref h2, .ref h3, .ref h4, .int 5])), (h4, .inr (8, [.ref h10, .int wp4100400])), (h10, .inl (y 1, 3, .inr (.inl (fun _ => 0))))] H := hP
  replace hD : va_D A [(h1, .inr (8, [.ref h6, .int 5])), (h2, .inr (8, [.ref h7, .int wp4100398])), (h7, .inl (y 1, 200, .inr (.inl (vp_updL (vp_updL (vp_updL (vp_updL (vp_updL wf4100399 ((0 : Int32).toNatClampNeg) 0) ((1 : Int32).toNatClampNeg) 0) ((2 : Int32).toNatClampNeg) 0) ((3 : Int32).toNatClampNeg) 0) ((4 : Int32).toNatClampNeg) 0)))), (h0, .inr (5, [.ref h1, .ref h2, .ref h3, .ref h4, .int 5])), (h4, .inr (8, [.ref h10, .int wp4100400])), (h10, .inl (y 1, 3, .inr (.inl (fun _ => 0))))] := hD
  refine lv_iinc (v := 3) (lv' := [(2, .int 3), (1, .int 2), (0, .ref h0)]) hx hb dX5_findOut_65 hl (k := 0) rfl (by decide +kernel) (by decide) rfl ?_
  clear hl
  clear ls
  intro ls hl
  refine lv_goto (tgt := 54) hx hb dX5_findOut_68 (by decide) ?_
  refine lv_iload_n hx hb dX5_findOut_54 rfl (lv_at hl 0 rfl) ?_
  refine lv_iconst (v := 3) hx hb dX5_findOut_55 (by decide) ?_
  refine lv_icmp_ge (tgt := 71) hx hb dX5_findOut_56 (by decide) (fun _ => ?_) (fun c9 => absurd c9 (by decide +kernel))
  refine lv_iinc (v := 3) (lv' := [(1, .int 3), (2, .int 3), (0, .ref h0)]) hx hb dX5_findOut_71 hl (k := 1) rfl (by decide +kernel) (by decide) rfl ?_
  clear hl
  clear ls
  intro ls hl
  refine lv_goto (tgt := 41) hx hb dX5_findOut_74 (by decide) ?_
  refine lv_iload_n hx hb dX5_findOut_41 rfl (lv_at hl 0 rfl) ?_
  refine lv_aload_n hx hb dX5_findOut_42 rfl (lv_at hl 2 rfl) ?_
  refine gm_get (D := D) (ci := 5) (v := .ref h1) (C := RX5) (T := TX5) (N := 5) hx hb hg inlX5 hown hK.1 hP 3 rfl rfl 0 (by decide) tX5_0 (hg _ gw_138) rfl dX5_findOut_43 ?_
  refine gm_get (D := D) (ci := 8) (v := .int 5) (C := RX8) (T := TX8) (N := 2) hx hb hg inlX8 hown hK.1 hP 0 rfl rfl 1 (by decide) tX8_1 (hg _ gw_1441) rfl dX5_findOut_46 ?_
  refine lv_icmp_ge (tgt := 77) hx hb dX5_findOut_49 (by decide) (fun c9 => absurd c9 (by decide +kernel)) (fun _ => ?_)
  refine lv_iconst (v := 0) hx hb dX5_findOut_52 (by decide) ?_
  refine lv_istore_n (lv' := [(2, .int 0), (1, .int 3), (0, .ref h0)]) hx hb dX5_findOut_53 rfl hl (by decide) rfl ?_
  clear hl
  clear ls
  intro ls hl
  refine lv_iload_n hx hb dX5_findOut_54 rfl (lv_at hl 0 rfl) ?_
  refine lv_iconst (v := 3) hx hb dX5_findOut_55 (by decide) ?_
  refine lv_icmp_ge (tgt := 71) hx hb dX5_findOut_56 (by decide) (fun c9 => absurd c9 (by decide +kernel)) (fun _ => ?_)
  refine lv_aload_n hx hb dX5_findOut_59 rfl (lv_at hl 2 rfl) ?_
  refine lv_iload_n hx hb dX5_findOut_60 rfl (lv_at hl 0 rfl) ?_
  refine lv_iload_n hx hb dX5_findOut_61 rfl (lv_at hl 1 rfl) ?_
  refine g_av (wr := [(h1, .inr (8, [.ref h6, .int 5])), (h2, .inr (8, [.ref h7, .int wp4100398])), (h7, .inl (y 1, 200, .inr (.inl (vp_updL (vp_updL (vp_updL (vp_updL (vp_updL wf4100399 ((0 : Int32).toNatClampNeg) 0) ((1 : Int32).toNatClampNeg) 0) ((2 : Int32).toNatClampNeg) 0) ((3 : Int32).toNatClampNeg) 0) ((4 : Int32).toNatClampNeg) 0))))]) (va_runV (As := [.int 0, .int 3]) (rest := []) ⟨hx, hb, hml, hown, hg⟩ (k_X5_find_9 l D y aS H.size h0 h1 h2 h3 h4 5 h10 wp4100400) (cwV 2 hg ggV_RX5_54_X5_find rfl rfl rfl (by decide +kernel) ⟨Nat.le_of_ble_eq_true rfl, Nat.le_of_ble_eq_true rfl⟩) (g_preV (q := (RX5, TX5, 5)) hK hP hD [3, 4, 5] rfl (by decide) (ci := 5) (q0 := 3) rfl rfl) rfl rfl hl.1 rfl (lv_room (Nat.le_of_ble_eq_true rfl)) dX5_findOut_62 ⟨Nat.le_of_ble_eq_true rfl, Nat.le_of_ble_eq_true rfl⟩) hP hD hS hA [3, 4, 5] [0, 1, 2] rfl rfl (by decide) (by decide) ?_
  clear hP hD hS H locs
  refine fun u H locs hq hP hD hS => ?_
  replace hP : va_P D vwCl [(h1, .inr (8, [.ref h6, .int 5])), (h2, .inr (8, [.ref h7, .int wp4100398])), (h7, .inl (y 1, 200, .inr (.inl (vp_updL (vp_updL (vp_updL (vp_updL (vp_updL wf4100399 ((0 : Int32).toNatClampNeg) 0) ((1 : Int32).toNatClampNeg) 0) ((2 : Int32).toNatClampNeg) 0) ((3 : Int32).toNatClampNeg) 0) ((4 : Int32).toNatClampNeg) 0)))), (h0, .inr (5, [.ref h1, .ref h2, .ref h3, .ref h4, .int 5])), (h4, .inr (8, [.ref h10, .int wp4100400])), (h10, .inl (y 1, 3, .inr (.inl (fun _ => 0))))] H := hP
  replace hD : va_D A [(h1, .inr (8, [.ref h6, .int 5])), (h2, .inr (8, [.ref h7, .int wp4100398])), (h7, .inl (y 1, 200, .inr (.inl (vp_updL (vp_updL (vp_updL (vp_updL (vp_updL wf4100399 ((0 : Int32).toNatClampNeg) 0) ((1 : Int32).toNatClampNeg) 0) ((2 : Int32).toNatClampNeg) 0) ((3 : Int32).toNatClampNeg) 0) ((4 : Int32).toNatClampNeg) 0)))), (h0, .inr (5, [.ref h1, .ref h2, .ref h3, .ref h4, .int 5])), (h4, .inr (8, [.ref h10, .int wp4100400])), (h10, .inl (y 1, 3, .inr (.inl (fun _ => 0))))] := hD
  refine lv_iinc (v := 1) (lv' := [(2, .int 1), (1, .int 3), (0, .ref h0)]) hx hb dX5_findOut_65 hl (k := 0) rfl (by decide +kernel) (by decide) rfl ?_
  clear hl
  clear ls
  intro ls hl
  refine lv_goto (tgt := 54) hx hb dX5_findOut_68 (by decide) ?_
  refine lv_iload_n hx hb dX5_findOut_54 rfl (lv_at hl 0 rfl) ?_
  refine lv_iconst (v := 3) hx hb dX5_findOut_55 (by decide) ?_
  refine lv_icmp_ge (tgt := 71) hx hb dX5_findOut_56 (by decide) (fun c9 => absurd c9 (by decide +kernel)) (fun _ => ?_)
  refine lv_aload_n hx hb dX5_findOut_59 rfl (lv_at hl 2 rfl) ?_
  refine lv_iload_n hx hb dX5_findOut_60 rfl (lv_at hl 0 rfl) ?_
  refine lv_iload_n hx hb dX5_findOut_61 rfl (lv_at hl 1 rfl) ?_
  refine g_av (wr := [(h1, .inr (8, [.ref h6, .int 5])), (h2, .inr (8, [.ref h7, .int wp4100398])), (h7, .inl (y 1, 200, .inr (.inl (vp_updL (vp_updL (vp_updL (vp_updL (vp_updL wf4100399 ((0 : Int32).toNatClampNeg) 0) ((1 : Int32).toNatClampNeg) 0) ((2 : Int32).toNatClampNeg) 0) ((3 : Int32).toNatClampNeg) 0) ((4 : Int32).toNatClampNeg) 0))))]) (va_runV (As := [.int 1, .int 3]) (rest := []) ⟨hx, hb, hml, hown, hg⟩ (k_X5_find_10 l D y aS H.size h0 h1 h2 h3 h4 5 h10 wp4100400) (cwV 2 hg ggV_RX5_54_X5_find rfl rfl rfl (by decide +kernel) ⟨Nat.le_of_ble_eq_true rfl, Nat.le_of_ble_eq_true rfl⟩) (g_preV (q := (RX5, TX5, 5)) hK hP hD [3, 4, 5] rfl (by decide) (ci := 5) (q0 := 3) rfl rfl) rfl rfl hl.1 rfl (lv_room (Nat.le_of_ble_eq_true rfl)) dX5_findOut_62 ⟨Nat.le_of_ble_eq_true rfl, Nat.le_of_ble_eq_true rfl⟩) hP hD hS hA [3, 4, 5] [0, 1, 2] rfl rfl (by decide) (by decide) ?_
  clear hP hD hS H locs
  refine fun u H locs hq hP hD hS => ?_
  replace hP : va_P D vwCl [(h1, .inr (8, [.ref h6, .int 5])), (h2, .inr (8, [.ref h7, .int wp4100398])), (h7, .inl (y 1, 200, .inr (.inl (vp_updL (vp_updL (vp_updL (vp_updL (vp_updL wf4100399 ((0 : Int32).toNatClampNeg) 0) ((1 : Int32).toNatClampNeg) 0) ((2 : Int32).toNatClampNeg) 0) ((3 : Int32).toNatClampNeg) 0) ((4 : Int32).toNatClampNeg) 0)))), (h0, .inr (5, [.ref h1, .ref h2, .ref h3, .ref h4, .int 5])), (h4, .inr (8, [.ref h10, .int wp4100400])), (h10, .inl (y 1, 3, .inr (.inl (fun _ => 0))))] H := hP
  replace hD : va_D A [(h1, .inr (8, [.ref h6, .int 5])), (h2, .inr (8, [.ref h7, .int wp4100398])), (h7, .inl (y 1, 200, .inr (.inl (vp_updL (vp_updL (vp_updL (vp_updL (vp_updL wf4100399 ((0 : Int32).toNatClampNeg) 0) ((1 : Int32).toNatClampNeg) 0) ((2 : Int32).toNatClampNeg) 0) ((3 : Int32).toNatClampNeg) 0) ((4 : Int32).toNatClampNeg) 0)))), (h0, .inr (5, [.ref h1, .ref h2, .ref h3, .ref h4, .int 5])), (h4, .inr (8, [.ref h10, .int wp4100400])), (h10, .inl (y 1, 3, .inr (.inl (fun _ => 0))))] := hD
  refine lv_iinc (v := 2) (lv' := [(2, .int 2), (1, .int 3), (0, .ref h0)]) hx hb dX5_findOut_65 hl (k := 0) rfl (by decide +kernel) (by decide) rfl ?_
  clear hl
  clear ls
  intro ls hl
  refine lv_goto (tgt := 54) hx hb dX5_findOut_68 (by decide) ?_
  refine lv_iload_n hx hb dX5_findOut_54 rfl (lv_at hl 0 rfl) ?_
  refine lv_iconst (v := 3) hx hb dX5_findOut_55 (by decide) ?_
  refine lv_icmp_ge (tgt := 71) hx hb dX5_findOut_56 (by decide) (fun c9 => absurd c9 (by decide +kernel)) (fun _ => ?_)
  refine lv_aload_n hx hb dX5_findOut_59 rfl (lv_at hl 2 rfl) ?_
  refine lv_iload_n hx hb dX5_findOut_60 rfl (lv_at hl 0 rfl) ?_
  refine lv_iload_n hx hb dX5_findOut_61 rfl (lv_at hl 1 rfl) ?_
  refine g_av (wr := [(h1, .inr (8, [.ref h6, .int 5])), (h2, .inr (8, [.ref h7, .int wp4100398])), (h7, .inl (y 1, 200, .inr (.inl (vp_updL (vp_updL (vp_updL (vp_updL (vp_updL wf4100399 ((0 : Int32).toNatClampNeg) 0) ((1 : Int32).toNatClampNeg) 0) ((2 : Int32).toNatClampNeg) 0) ((3 : Int32).toNatClampNeg) 0) ((4 : Int32).toNatClampNeg) 0))))]) (va_runV (As := [.int 2, .int 3]) (rest := []) ⟨hx, hb, hml, hown, hg⟩ (k_X5_find_11 l D y aS H.size h0 h1 h2 h3 h4 5 h10 wp4100400) (cwV 2 hg ggV_RX5_54_X5_find rfl rfl rfl (by decide +kernel) ⟨Nat.le_of_ble_eq_true rfl, Nat.le_of_ble_eq_true rfl⟩) (g_preV (q := (RX5, TX5, 5)) hK hP hD [3, 4, 5] rfl (by decide) (ci := 5) (q0 := 3) rfl rfl) rfl rfl hl.1 rfl (lv_room (Nat.le_of_ble_eq_true rfl)) dX5_findOut_62 ⟨Nat.le_of_ble_eq_true rfl, Nat.le_of_ble_eq_true rfl⟩) hP hD hS hA [3, 4, 5] [0, 1, 2] rfl rfl (by decide) (by decide) ?_
  clear hP hD hS H locs
  refine fun u H locs hq hP hD hS => ?_
  replace hP : va_P D vwCl [(h1, .inr (8, [.ref h6, .int 5])), (h2, .inr (8, [.ref h7, .int wp4100398])), (h7, .inl (y 1, 200, .inr (.inl (vp_updL (vp_updL (vp_updL (vp_updL (vp_updL wf4100399 ((0 : Int32).toNatClampNeg) 0) ((1 : Int32).toNatClampNeg) 0) ((2 : Int32).toNatClampNeg) 0) ((3 : Int32).toNatClampNeg) 0) ((4 : Int32).toNatClampNeg) 0)))), (h0, .inr (5, [.ref h1, .ref h2, .ref h3, .ref h4, .int 5])), (h4, .inr (8, [.ref h10, .int wp4100400])), (h10, .inl (y 1, 3, .inr (.inl (fun _ => 0))))] H := hP
  replace hD : va_D A [(h1, .inr (8, [.ref h6, .int 5])), (h2, .inr (8, [.ref h7, .int wp4100398])), (h7, .inl (y 1, 200, .inr (.inl (vp_updL (vp_updL (vp_updL (vp_updL (vp_updL wf4100399 ((0 : Int32).toNatClampNeg) 0) ((1 : Int32).toNatClampNeg) 0) ((2 : Int32).toNatClampNeg) 0) ((3 : Int32).toNatClampNeg) 0) ((4 : Int32).toNatClampNeg) 0)))), (h0, .inr (5, [.ref h1, .ref h2, .ref h3, .ref h4, .int 5])), (h4, .inr (8, [.ref h10, .int wp4100400])), (h10, .inl (y 1, 3, .inr (.inl (fun _ => 0))))] := hD
  refine lv_iinc (v := 3) (lv' := [(2, .int 3), (1, .int 3), (0, .ref h0)]) hx hb dX5_findOut_65 hl (k := 0) rfl (by decide +kernel) (by decide) rfl ?_
  clear hl
  clear ls
  intro ls hl
  refine lv_goto (tgt := 54) hx hb dX5_findOut_68 (by decide) ?_
  refine lv_iload_n hx hb dX5_findOut_54 rfl (lv_at hl 0 rfl) ?_
  refine lv_iconst (v := 3) hx hb dX5_findOut_55 (by decide) ?_
  refine lv_icmp_ge (tgt := 71) hx hb dX5_findOut_56 (by decide) (fun _ => ?_) (fun c9 => absurd c9 (by decide +kernel))
  refine lv_iinc (v := 4) (lv' := [(1, .int 4), (2, .int 3), (0, .ref h0)]) hx hb dX5_findOut_71 hl (k := 1) rfl (by decide +kernel) (by decide) rfl ?_
  clear hl
  clear ls
  intro ls hl
  refine lv_goto (tgt := 41) hx hb dX5_findOut_74 (by decide) ?_
  refine lv_iload_n hx hb dX5_findOut_41 rfl (lv_at hl 0 rfl) ?_
  refine lv_aload_n hx hb dX5_findOut_42 rfl (lv_at hl 2 rfl) ?_
  refine gm_get (D := D) (ci := 5) (v := .ref h1) (C := RX5) (T := TX5) (N := 5) hx hb hg inlX5 hown hK.1 hP 3 rfl rfl 0 (by decide) tX5_0 (hg _ gw_138) rfl dX5_findOut_43 ?_
  refine gm_get (D := D) (ci := 8) (v := .int 5) (C := RX8) (T := TX8) (N := 2) hx hb hg inlX8 hown hK.1 hP 0 rfl rfl 1 (by decide) tX8_1 (hg _ gw_1441) rfl dX5_findOut_46 ?_
  refine lv_icmp_ge (tgt := 77) hx hb dX5_findOut_49 (by decide) (fun c9 => absurd c9 (by decide +kernel)) (fun _ => ?_)
  refine lv_iconst (v := 0) hx hb dX5_findOut_52 (by decide) ?_
  refine lv_istore_n (lv' := [(2, .int 0), (1, .int 4), (0, .ref h0)]) hx hb dX5_findOut_53 rfl hl (by decide) rfl ?_
  clear hl
  clear ls
  intro ls hl
  refine lv_iload_n hx hb dX5_findOut_54 rfl (lv_at hl 0 rfl) ?_
  refine lv_iconst (v := 3) hx hb dX5_findOut_55 (by decide) ?_
  refine lv_icmp_ge (tgt := 71) hx hb dX5_findOut_56 (by decide) (fun c9 => absurd c9 (by decide +kernel)) (fun _ => ?_)
  refine lv_aload_n hx hb dX5_findOut_59 rfl (lv_at hl 2 rfl) ?_
  refine lv_iload_n hx hb dX5_findOut_60 rfl (lv_at hl 0 rfl) ?_
  refine lv_iload_n hx hb dX5_findOut_61 rfl (lv_at hl 1 rfl) ?_
  refine g_av (wr := [(h1, .inr (8, [.ref h6, .int 5])), (h2, .inr (8, [.ref h7, .int wp4100398])), (h7, .inl (y 1, 200, .inr (.inl (vp_updL (vp_updL (vp_updL (vp_updL (vp_updL wf4100399 ((0 : Int32).toNatClampNeg) 0) ((1 : Int32).toNatClampNeg) 0) ((2 : Int32).toNatClampNeg) 0) ((3 : Int32).toNatClampNeg) 0) ((4 : Int32).toNatClampNeg) 0))))]) (va_runV (As := [.int 0, .int 4]) (rest := []) ⟨hx, hb, hml, hown, hg⟩ (k_X5_find_12 l D y aS H.size h0 h1 h2 h3 h4 5 h10 wp4100400) (cwV 2 hg ggV_RX5_54_X5_find rfl rfl rfl (by decide +kernel) ⟨Nat.le_of_ble_eq_true rfl, Nat.le_of_ble_eq_true rfl⟩) (g_preV (q := (RX5, TX5, 5)) hK hP hD [3, 4, 5] rfl (by decide) (ci := 5) (q0 := 3) rfl rfl) rfl rfl hl.1 rfl (lv_room (Nat.le_of_ble_eq_true rfl)) dX5_findOut_62 ⟨Nat.le_of_ble_eq_true rfl, Nat.le_of_ble_eq_true rfl⟩) hP hD hS hA [3, 4, 5] [0, 1, 2] rfl rfl (by decide) (by decide) ?_
  clear hP hD hS H locs
  refine fun u H locs hq hP hD hS => ?_
  replace hP : va_P D vwCl [(h1, .inr (8, [.ref h6, .int 5])), (h2, .inr (8, [.ref h7, .int wp4100398])), (h7, .inl (y 1, 200, .inr (.inl (vp_updL (vp_updL (vp_updL (vp_updL (vp_updL wf4100399 ((0 : Int32).toNatClampNeg) 0) ((1 : Int32).toNatClampNeg) 0) ((2 : Int32).toNatClampNeg) 0) ((3 : Int32).toNatClampNeg) 0) ((4 : Int32).toNatClampNeg) 0)))), (h0, .inr (5, [.ref h1, .ref h2, .ref h3, .ref h4, .int 5])), (h4, .inr (8, [.ref h10, .int wp4100400])), (h10, .inl (y 1, 3, .inr (.inl (fun _ => 0))))] H := hP
  replace hD : va_D A [(h1, .inr (8, [.ref h6, .int 5])), (h2, .inr (8, [.ref h7, .int wp4100398])), (h7, .inl (y 1, 200, .inr (.inl (vp_updL (vp_updL (vp_updL (vp_updL (vp_updL wf4100399 ((0 : Int32).toNatClampNeg) 0) ((1 : Int32).toNatClampNeg) 0) ((2 : Int32).toNatClampNeg) 0) ((3 : Int32).toNatClampNeg) 0) ((4 : Int32).toNatClampNeg) 0)))), (h0, .inr (5, [.ref h1, .ref h2, .ref h3, .ref h4, .int 5])), (h4, .inr (8, [.ref h10, .int wp4100400])), (h10, .inl (y 1, 3, .inr (.inl (fun _ => 0))))] := hD
  refine lv_iinc (v := 1) (lv' := [(2, .int 1), (1, .int 4), (0, .ref h0)]) hx hb dX5_findOut_65 hl (k := 0) rfl (by decide +kernel) (by decide) rfl ?_
  clear hl
  clear ls
  intro ls hl
  refine lv_goto (tgt := 54) hx hb dX5_findOut_68 (by decide) ?_
  refine lv_iload_n hx hb dX5_findOut_54 rfl (lv_at hl 0 rfl) ?_
  refine lv_iconst (v := 3) hx hb dX5_findOut_55 (by decide) ?_
  refine lv_icmp_ge (tgt := 71) hx hb dX5_findOut_56 (by decide) (fun c9 => absurd c9 (by decide +kernel)) (fun _ => ?_)
  refine lv_aload_n hx hb dX5_findOut_59 rfl (lv_at hl 2 rfl) ?_
  refine lv_iload_n hx hb dX5_findOut_60 rfl (lv_at hl 0 rfl) ?_
  refine lv_iload_n hx hb dX5_findOut_61 rfl (lv_at hl 1 rfl) ?_
  refine g_av (wr := [(h1, .inr (8, [.ref h6, .int 5])), (h2, .inr (8, [.ref h7, .int wp4100398])), (h7, .inl (y 1, 200, .inr (.inl (vp_updL (vp_updL (vp_updL (vp_updL (vp_updL wf4100399 ((0 : Int32).toNatClampNeg) 0) ((1 : Int32).toNatClampNeg) 0) ((2 : Int32).toNatClampNeg) 0) ((3 : Int32).toNatClampNeg) 0) ((4 : Int32).toNatClampNeg) 0))))]) (va_runV (As := [.int 1, .int 4]) (rest := []) ⟨hx, hb, hml, hown, hg⟩ (k_X5_find_13 l D y aS H.size h0 h1 h2 h3 h4 5 h10 wp4100400) (cwV 2 hg ggV_RX5_54_X5_find rfl rfl rfl (by decide +kernel) ⟨Nat.le_of_ble_eq_true rfl, Nat.le_of_ble_eq_true rfl⟩) (g_preV (q := (RX5, TX5, 5)) hK hP hD [3, 4, 5] rfl (by decide) (ci := 5) (q0 := 3) rfl rfl) rfl rfl hl.1 rfl (lv_room (Nat.le_of_ble_eq_true rfl)) dX5_findOut_62 ⟨Nat.le_of_ble_eq_true rfl, Nat.le_of_ble_eq_true rfl⟩) hP hD hS hA [3, 4, 5] [0, 1, 2] rfl rfl (by decide) (by decide) ?_
  clear hP hD hS H locs
  refine fun u H locs hq hP hD hS => ?_
  replace hP : va_P D vwCl [(h1, .inr (8, [.ref h6, .int 5])), (h2, .inr (8, [.ref h7, .int wp4100398])), (h7, .inl (y 1, 200, .inr (.inl (vp_updL (vp_updL (vp_updL (vp_updL (vp_updL wf4100399 ((0 : Int32).toNatClampNeg) 0) ((1 : Int32).toNatClampNeg) 0) ((2 : Int32).toNatClampNeg) 0) ((3 : Int32).toNatClampNeg) 0) ((4 : Int32).toNatClampNeg) 0)))), (h0, .inr (5, [.ref h1, .ref h2, .ref h3, .ref h4, .int 5])), (h4, .inr (8, [.ref h10, .int wp4100400])), (h10, .inl (y 1, 3, .inr (.inl (fun _ => 0))))] H := hP
  replace hD : va_D A [(h1, .inr (8, [.ref h6, .int 5])), (h2, .inr (8, [.ref h7, .int wp4100398])), (h7, .inl (y 1, 200, .inr (.inl (vp_updL (vp_updL (vp_updL (vp_updL (vp_updL wf4100399 ((0 : Int32).toNatClampNeg) 0) ((1 : Int32).toNatClampNeg) 0) ((2 : Int32).toNatClampNeg) 0) ((3 : Int32).toNatClampNeg) 0) ((4 : Int32).toNatClampNeg) 0)))), (h0, .inr (5, [.ref h1, .ref h2, .ref h3, .ref h4, .int 5])), (h4, .inr (8, [.ref h10, .int wp4100400])), (h10, .inl (y 1, 3, .inr (.inl (fun _ => 0))))] := hD
  refine lv_iinc (v := 2) (lv' := [(2, .int 2), (1, .int 4), (0, .ref h0)]) hx hb dX5_findOut_65 hl (k := 0) rfl (by decide +kernel) (by decide) rfl ?_
  clear hl
  clear ls
  intro ls hl
  refine lv_goto (tgt := 54) hx hb dX5_findOut_68 (by decide) ?_
  refine lv_iload_n hx hb dX5_findOut_54 rfl (lv_at hl 0 rfl) ?_
  refine lv_iconst (v := 3) hx hb dX5_findOut_55 (by decide) ?_
  refine lv_icmp_ge (tgt := 71) hx hb dX5_findOut_56 (by decide) (fun c9 => absurd c9 (by decide +kernel)) (fun _ => ?_)
  refine lv_aload_n hx hb dX5_findOut_59 rfl (lv_at hl 2 rfl) ?_
  refine lv_iload_n hx hb dX5_findOut_60 rfl (lv_at hl 0 rfl) ?_
  refine lv_iload_n hx hb dX5_findOut_61 rfl (lv_at hl 1 rfl) ?_
  refine g_av (wr := [(h1, .inr (8, [.ref h6, .int 5])), (h2, .inr (8, [.ref h7, .int wp4100398])), (h7, .inl (y 1, 200, .inr (.inl (vp_updL (vp_updL (vp_updL (vp_updL (vp_updL wf4100399 ((0 : Int32).toNatClampNeg) 0) ((1 : Int32).toNatClampNeg) 0) ((2 : Int32).toNatClampNeg) 0) ((3 : Int32).toNatClampNeg) 0) ((4 : Int32).toNatClampNeg) 0))))]) (va_runV (As := [.int 2, .int 4]) (rest := []) ⟨hx, hb, hml, hown, hg⟩ (k_X5_find_14 l D y aS H.size h0 h1 h2 h3 h4 5 h10 wp4100400) (cwV 2 hg ggV_RX5_54_X5_find rfl rfl rfl (by decide +kernel) ⟨Nat.le_of_ble_eq_true rfl, Nat.le_of_ble_eq_true rfl⟩) (g_preV (q := (RX5, TX5, 5)) hK hP hD [3, 4, 5] rfl (by decide) (ci := 5) (q0 := 3) rfl rfl) rfl rfl hl.1 rfl (lv_room (Nat.le_of_ble_eq_true rfl)) dX5_findOut_62 ⟨Nat.le_of_ble_eq_true rfl, Nat.le_of_ble_eq_true rfl⟩) hP hD hS hA [3, 4, 5] [0, 1, 2] rfl rfl (by decide) (by decide) ?_
  clear hP hD hS H locs
  refine fun u H locs hq hP hD hS => ?_
  replace hP : va_P D vwCl [(h1, .inr (8, [.ref h6, .int 5])), (h2, .inr (8, [.ref h7, .int wp4100398])), (h7, .inl (y 1, 200, .inr (.inl (vp_updL (vp_updL (vp_updL (vp_updL (vp_updL wf4100399 ((0 : Int32).toNatClampNeg) 0) ((1 : Int32).toNatClampNeg) 0) ((2 : Int32).toNatClampNeg) 0) ((3 : Int32).toNatClampNeg) 0) ((4 : Int32).toNatClampNeg) 0)))), (h0, .inr (5, [.ref h1, .ref h2, .ref h3, .ref h4, .int 5])), (h4, .inr (8, [.ref h10, .int wp4100400])), (h10, .inl (y 1, 3, .inr (.inl (fun _ => 0))))] H := hP
  replace hD : va_D A [(h1, .inr (8, [.ref h6, .int 5])), (h2, .inr (8, [.ref h7, .int wp4100398])), (h7, .inl (y 1, 200, .inr (.inl (vp_updL (vp_updL (vp_updL (vp_updL (vp_updL wf4100399 ((0 : Int32).toNatClampNeg) 0) ((1 : Int32).toNatClampNeg) 0) ((2 : Int32).toNatClampNeg) 0) ((3 : Int32).toNatClampNeg) 0) ((4 : Int32).toNatClampNeg) 0)))), (h0, .inr (5, [.ref h1, .ref h2, .ref h3, .ref h4, .int 5])), (h4, .inr (8, [.ref h10, .int wp4100400])), (h10, .inl (y 1, 3, .inr (.inl (fun _ => 0))))] := hD
  refine lv_iinc (v := 3) (lv' := [(2, .int 3), (1, .int 4), (0, .ref h0)]) hx hb dX5_findOut_65 hl (k := 0) rfl (by decide +kernel) (by decide) rfl ?_
  clear hl
  clear ls
  intro ls hl
  refine lv_goto (tgt := 54) hx hb dX5_findOut_68 (by decide) ?_
  refine lv_iload_n hx hb dX5_findOut_54 rfl (lv_at hl 0 rfl) ?_
  refine lv_iconst (v := 3) hx hb dX5_findOut_55 (by decide) ?_
  refine lv_icmp_ge (tgt := 71) hx hb dX5_findOut_56 (by decide) (fun _ => ?_) (fun c9 => absurd c9 (by decide +kernel))
  refine lv_iinc (v := 5) (lv' := [(1, .int 5), (2, .int 3), (0, .ref h0)]) hx hb dX5_findOut_71 hl (k := 1) rfl (by decide +kernel) (by decide) rfl ?_
  clear hl
  clear ls
  intro ls hl
  refine lv_goto (tgt := 41) hx hb dX5_findOut_74 (by decide) ?_
  refine lv_iload_n hx hb dX5_findOut_41 rfl (lv_at hl 0 rfl) ?_
  refine lv_aload_n hx hb dX5_findOut_42 rfl (lv_at hl 2 rfl) ?_
  refine gm_get (D := D) (ci := 5) (v := .ref h1) (C := RX5) (T := TX5) (N := 5) hx hb hg inlX5 hown hK.1 hP 3 rfl rfl 0 (by decide) tX5_0 (hg _ gw_138) rfl dX5_findOut_43 ?_
  refine gm_get (D := D) (ci := 8) (v := .int 5) (C := RX8) (T := TX8) (N := 2) hx hb hg inlX8 hown hK.1 hP 0 rfl rfl 1 (by decide) tX8_1 (hg _ gw_1441) rfl dX5_findOut_46 ?_
  refine lv_icmp_ge (tgt := 77) hx hb dX5_findOut_49 (by decide) (fun _ => ?_) (fun c9 => absurd c9 (by decide +kernel))
  exact g_vret hx hb hr hlocks () (hP.sub [3, 0, 1, 2, 4, 5] rfl) (hD.sub [3, 0, 1, 2, 4, 5] (by decide +kernel) rfl) hS trivial (Nat.le_of_ble_eq_true rfl) (Nat.le_of_ble_eq_true rfl) dX5_findOut_77
set_option maxRecDepth 100000 in
set_option maxHeartbeats 4000000 in
theorem k_X5_append_4 (l : Launch) (D : va_G) (y : Nat → ClassId) (aS : Nat → Nat) (sz : Nat) (h0 : Nat) (p1 : Int32) (h2 : Nat) (h3 : Nat) (h4 : Nat) (h5 : Nat) (h6 : Nat) (wf4100422 : Nat → Int64) (h8 : Nat) (wp4100423 : Int32) (wf4100424 : Nat → Int64) (h11 : Nat) (wp4100425 : Int32) : Met l yX5_append (Cond.code yX5_append cX5_append 6 (some .int) :: wsL_law) ({ frames := 3, cells := 0, slots := 0, locals := 68 } : Room) (va_Pc [.ref h0, .int p1, .int 5] (gI D y aS [(h0, .inr (5, [.ref h2, .ref h3, .ref h4, .ref h5, .int 0])), (h2, .inr (8, [.ref h6, .int 0])), (h6, .inl (y 1, 200, .inr (.inl wf4100422))), (h3, .inr (8, [.ref h8, .int wp4100423])), (h8, .inl (y 1, 200, .inr (.inl wf4100424))), (h5, .inr (8, [.ref h11, .int wp4100425])), (h11, .inl (y 1, 3, .inr (.inl (fun _ => 0))))] sz)) (va_Qi (fun (r : Int32) (u : Unit) => 5 = r) (fun u => gO D (va_A [(h0, .inr (5, [.ref h2, .ref h3, .ref h4, .ref h5, .int 0])), (h2, .inr (8, [.ref h6, .int 0])), (h6, .inl (y 1, 200, .inr (.inl wf4100422))), (h3, .inr (8, [.ref h8, .int wp4100423])), (h8, .inl (y 1, 200, .inr (.inl wf4100424))), (h5, .inr (8, [.ref h11, .int wp4100425])), (h11, .inl (y 1, 3, .inr (.inl (fun _ => 0))))] sz) [(h0, .inr (5, [.ref h2, .ref h3, .ref h4, .ref h5, .int 5])), (h2, .inr (8, [.ref h6, .int 5])), (h6, .inl (y 1, 200, .inr (.inl (vp_updL (vp_updL (vp_updL (vp_updL (vp_updL (vp_updL (vp_updL (vp_updL (vp_updL (vp_updL wf4100422 ((0 : Int32).toNatClampNeg) 0) ((1 : Int32).toNatClampNeg) 0) ((2 : Int32).toNatClampNeg) 0) ((3 : Int32).toNatClampNeg) 0) ((4 : Int32).toNatClampNeg) 0) ((4 : Int32).toNatClampNeg) ((p1 - p1 / 10 * 10).toInt64)) ((3 : Int32).toNatClampNeg) (((p1 / 10) - (p1 / 10) / 10 * 10).toInt64)) ((2 : Int32).toNatClampNeg) ((((p1 / 10) / 10) - ((p1 / 10) / 10) / 10 * 10).toInt64)) ((1 : Int32).toNatClampNeg) (((((p1 / 10) / 10) / 10) - (((p1 / 10) / 10) / 10) / 10 * 10).toInt64)) ((0 : Int32).toNatClampNeg) ((((((p1 / 10) / 10) / 10) / 10) - ((((p1 / 10) / 10) / 10) / 10) / 10 * 10).toInt64))))), (h3, .inr (8, [.ref h8, .int wp4100423])), (h8, .inl (y 1, 200, .inr (.inl (vp_updL (vp_updL (vp_updL (vp_updL (vp_updL wf4100424 ((0 : Int32).toNatClampNeg) 0) ((1 : Int32).toNatClampNeg) 0) ((2 : Int32).toNatClampNeg) 0) ((3 : Int32).toNatClampNeg) 0) ((4 : Int32).toNatClampNeg) 0)))), (h5, .inr (8, [.ref h11, .int wp4100425])), (h11, .inl (y 1, 3, .inr (.inl (fun _ => 0))))]) (va_A [(h0, .inr (5, [.ref h2, .ref h3, .ref h4, .ref h5, .int 0])), (h2, .inr (8, [.ref h6, .int 0])), (h6, .inl (y 1, 200, .inr (.inl wf4100422))), (h3, .inr (8, [.ref h8, .int wp4100423])), (h8, .inl (y 1, 200, .inr (.inl wf4100424))), (h5, .inr (8, [.ref h11, .int wp4100425])), (h11, .inl (y 1, 3, .inr (.inl (fun _ => 0))))] sz)) 0 0 (va_A [(h0, .inr (5, [.ref h2, .ref h3, .ref h4, .ref h5, .int 0])), (h2, .inr (8, [.ref h6, .int 0])), (h6, .inl (y 1, 200, .inr (.inl wf4100422))), (h3, .inr (8, [.ref h8, .int wp4100423])), (h8, .inl (y 1, 200, .inr (.inl wf4100424))), (h5, .inr (8, [.ref h11, .int wp4100425])), (h11, .inl (y 1, 3, .inr (.inl (fun _ => 0))))] sz) := by
  refine g_of (by decide) (Nat.le_of_ble_eq_true rfl) ?_
  intro p e s m below meth c ls A hx hb hr hml hown hg hlocks hin hsz hK hP hD hS hA hAe hl
  rw [← hAe]
  replace hown : s.vm.findClass RX5 = some m.cls := hown
  replace hl : lv_has ls 6 [(0, .ref h0), (1, .int p1), (2, .int 5)] := hl
  refine lv_aload_n hx hb dX5_append_0 rfl (lv_at hl 0 rfl) ?_
  refine gm_get (D := D) (ci := 5) (v := .ref h2) (C := RX5) (T := TX5) (N := 5) hx hb hg inlX5 hown hK.1 hP 0 rfl rfl 0 (by decide) tX5_0 (hg _ gw_138) rfl dX5_append_1 ?_
  refine gm_get (D := D) (ci := 8) (v := .int 0) (C := RX8) (T := TX8) (N := 2) hx hb hg inlX8 hown hK.1 hP 1 rfl rfl 1 (by decide) tX8_1 (hg _ gw_1441) rfl dX5_append_4 ?_
  refine lv_istore_n (lv' := [(3, .int 0), (0, .ref h0), (1, .int p1), (2, .int 5)]) hx hb dX5_append_7 rfl hl (by decide) rfl ?_
  clear hl
  clear ls
  intro ls hl
  refine lv_aload_n hx hb dX5_append_8 rfl (lv_at hl 1 rfl) ?_
  refine gm_get (D := D) (ci := 5) (v := .ref h2) (C := RX5) (T := TX5) (N := 5) hx hb hg inlX5 hown hK.1 hP 0 rfl rfl 0 (by decide) tX5_0 (hg _ gw_138) rfl dX5_append_9 ?_
  refine lv_iload_n hx hb dX5_append_12 rfl (lv_at hl 3 rfl) ?_
  refine lv_lconst (v := 0) hx hb dX5_append_13 (by decide) ?_
  refine g_av (wr := [(h0, .inr (5, [.ref h2, .ref h3, .ref h4, .ref h5, .int 0])), (h3, .inr (8, [.ref h8, .int wp4100423])), (h8, .inl (y 1, 200, .inr (.inl wf4100424))), (h5, .inr (8, [.ref h11, .int wp4100425])), (h11, .inl (y 1, 3, .inr (.inl (fun _ => 0))))]) (va_runV (As := [.int 5, .long 0]) (rest := []) ⟨hx, hb, hml, hown, hg⟩ (k_X8_addMany_8 l D y aS s.heap.size h2 h6 wf4100422) (cwV 2 hg ggV_RX5_44_X8_addMany rfl rfl rfl (by decide +kernel) ⟨Nat.le_of_ble_eq_true rfl, Nat.le_of_ble_eq_true rfl⟩) (g_preV (q := (RX8, TX8, 2)) hK hP hD [1, 2] rfl (by decide) (ci := 8) (q0 := 1) rfl rfl) rfl rfl hl.1 rfl (lv_room (Nat.le_of_ble_eq_true rfl)) dX5_append_14 ⟨Nat.le_of_ble_eq_true rfl, Nat.le_of_ble_eq_true rfl⟩) hP hD hS hA [1, 2] [0, 3, 4, 5, 6] rfl rfl (by decide) (by decide) ?_
  clear hP hD hS
  refine fun u H locs hq hP hD hS => ?_
  replace hP : va_P D vwCl [(h0, .inr (5, [.ref h2, .ref h3, .ref h4, .ref h5, .int 0])), (h3, .inr (8, [.ref h8, .int wp4100423])), (h8, .inl (y 1, 200, .inr (.inl wf4100424))), (h5, .inr (8, [.ref h11, .int wp4100425])), (h11, .inl (y 1, 3, .inr (.inl (fun _ => 0)))), (h2, .inr (8, [.ref h6, .int 5])), (h6, .inl (y 1, 200, .inr (.inl (vp_updL (vp_updL (vp_updL (vp_updL (vp_updL wf4100422 ((0 : Int32).toNatClampNeg) 0) ((1 : Int32).toNatClampNeg) 0) ((2 : Int32).toNatClampNeg) 0) ((3 : Int32).toNatClampNeg) 0) ((4 : Int32).toNatClampNeg) 0))))] H := hP
  replace hD : va_D A [(h0, .inr (5, [.ref h2, .ref h3, .ref h4, .ref h5, .int 0])), (h3, .inr (8, [.ref h8, .int wp4100423])), (h8, .inl (y 1, 200, .inr (.inl wf4100424))), (h5, .inr (8, [.ref h11, .int wp4100425])), (h11, .inl (y 1, 3, .inr (.inl (fun _ => 0)))), (h2, .inr (8, [.ref h6, .int 5])), (h6, .inl (y 1, 200, .inr (.inl (vp_updL (vp_updL (vp_updL (vp_updL (vp_updL wf4100422 ((0 : Int32).toNatClampNeg) 0) ((1 : Int32).toNatClampNeg) 0) ((2 : Int32).toNatClampNeg) 0) ((3 : Int32).toNatClampNeg) 0) ((4 : Int32).toNatClampNeg) 0))))] := hD
  refine lv_iload_n hx hb dX5_append_17 rfl (lv_at hl 2 rfl) ?_
  refine lv_istore (lv' := [(4, .int p1), (3, .int 0), (0, .ref h0), (1, .int p1), (2, .int 5)]) hx hb dX5_append_18 hl (by decide) rfl ?_
  clear hl
  clear ls
  intro ls hl
  refine lv_iload_n hx hb dX5_append_20 rfl (lv_at hl 1 rfl) ?_
  refine lv_iload_n hx hb dX5_append_21 rfl (lv_at hl 4 rfl) ?_
  refine lv_iadd hx hb dX5_append_22 ?_
  refine g_fi (v := 5) (by decide +kernel) ?_
  refine lv_iconst (v := 1) hx hb dX5_append_23 (by decide) ?_
  refine lv_isub hx hb dX5_append_24 ?_
  refine g_fi (v := 4) (by decide +kernel) ?_
  refine lv_istore (lv' := [(5, .int 4), (4, .int p1), (3, .int 0), (0, .ref h0), (1, .int p1), (2, .int 5)]) hx hb dX5_append_25 hl (by decide) rfl ?_
  clear hl
  clear ls
  intro ls hl
  refine lv_iload hx hb dX5_append_27 (lv_at hl 0 rfl) ?_
  refine lv_iload_n hx hb dX5_append_29 rfl (lv_at hl 2 rfl) ?_
  refine lv_icmp_lt (tgt := 61) hx hb dX5_append_30 (by decide) (fun c9 => absurd c9 (by decide +kernel)) (fun _ => ?_)
  refine lv_aload_n hx hb dX5_append_33 rfl (lv_at hl 3 rfl) ?_
  refine gm_get (D := D) (ci := 5) (v := .ref h2) (C := RX5) (T := TX5) (N := 5) hx hb hg inlX5 hown hK.1 hP 0 rfl rfl 0 (by decide) tX5_0 (hg _ gw_138) rfl dX5_append_34 ?_
  refine lv_iload hx hb dX5_append_37 (lv_at hl 0 rfl) ?_
  refine lv_iload hx hb dX5_append_39 (lv_at hl 1 rfl) ?_
  refine lv_bipush (v := 10) hx hb dX5_append_41 (by decide +kernel) ?_
  refine lv_irem hx hb dX5_append_43 (by decide +kernel) ?_
  refine lv_i2l (v := ((p1 - p1 / 10 * 10).toInt64)) hx hb dX5_append_44 rfl ?_
  refine g_av (wr := [(h0, .inr (5, [.ref h2, .ref h3, .ref h4, .ref h5, .int 0])), (h3, .inr (8, [.ref h8, .int wp4100423])), (h8, .inl (y 1, 200, .inr (.inl wf4100424))), (h5, .inr (8, [.ref h11, .int wp4100425])), (h11, .inl (y 1, 3, .inr (.inl (fun _ => 0))))]) (va_runV (As := [.int 4, .long ((p1 - p1 / 10 * 10).toInt64)]) (rest := []) ⟨hx, hb, hml, hown, hg⟩ (k_X8_set_49 l D y aS H.size h2 ((p1 - p1 / 10 * 10).toInt64) h6 5 (vp_updL (vp_updL (vp_updL (vp_updL (vp_updL wf4100422 ((0 : Int32).toNatClampNeg) 0) ((1 : Int32).toNatClampNeg) 0) ((2 : Int32).toNatClampNeg) 0) ((3 : Int32).toNatClampNeg) 0) ((4 : Int32).toNatClampNeg) 0)) (cwV 2 hg ggV_RX5_29_X8_set rfl rfl rfl (by decide +kernel) ⟨Nat.le_of_ble_eq_true rfl, Nat.le_of_ble_eq_true rfl⟩) (g_preV (q := (RX8, TX8, 2)) hK hP hD [5, 6] rfl (by decide) (ci := 8) (q0 := 5) rfl rfl) rfl rfl hl.1 rfl (lv_room (Nat.le_of_ble_eq_true rfl)) dX5_append_45 ⟨Nat.le_of_ble_eq_true rfl, Nat.le_of_ble_eq_true rfl⟩) hP hD hS hA [5, 6] [0, 1, 2, 3, 4] rfl rfl (by decide) (by decide) ?_
  clear hP hD hS H locs
  refine fun u H locs hq hP hD hS => ?_
  replace hP : va_P D vwCl [(h0, .inr (5, [.ref h2, .ref h3, .ref h4, .ref h5, .int 0])), (h3, .inr (8, [.ref h8, .int wp4100423])), (h8, .inl (y 1, 200, .inr (.inl wf4100424))), (h5, .inr (8, [.ref h11, .int wp4100425])), (h11, .inl (y 1, 3, .inr (.inl (fun _ => 0)))), (h2, .inr (8, [.ref h6, .int 5])), (h6, .inl (y 1, 200, .inr (.inl (vp_updL (vp_updL (vp_updL (vp_updL (vp_updL (vp_updL wf4100422 ((0 : Int32).toNatClampNeg) 0) ((1 : Int32).toNatClampNeg) 0) ((2 : Int32).toNatClampNeg) 0) ((3 : Int32).toNatClampNeg) 0) ((4 : Int32).toNatClampNeg) 0) ((4 : Int32).toNatClampNeg) ((p1 - p1 / 10 * 10).toInt64)))))] H := hP
  replace hD : va_D A [(h0, .inr (5, [.ref h2, .ref h3, .ref h4, .ref h5, .int 0])), (h3, .inr (8, [.ref h8, .int wp4100423])), (h8, .inl (y 1, 200, .inr (.inl wf4100424))), (h5, .inr (8, [.ref h11, .int wp4100425])), (h11, .inl (y 1, 3, .inr (.inl (fun _ => 0)))), (h2, .inr (8, [.ref h6, .int 5])), (h6, .inl (y 1, 200, .inr (.inl (vp_updL (vp_updL (vp_updL (vp_updL (vp_updL (vp_updL wf4100422 ((0 : Int32).toNatClampNeg) 0) ((1 : Int32).toNatClampNeg) 0) ((2 : Int32).toNatClampNeg) 0) ((3 : Int32).toNatClampNeg) 0) ((4 : Int32).toNatClampNeg) 0) ((4 : Int32).toNatClampNeg) ((p1 - p1 / 10 * 10).toInt64)))))] := hD
  refine lv_iload hx hb dX5_append_48 (lv_at hl 1 rfl) ?_
  refine lv_bipush (v := 10) hx hb dX5_append_50 (by decide +kernel) ?_
  refine lv_idiv hx hb dX5_append_52 (by decide +kernel) ?_
  refine lv_istore (lv' := [(4, .int (p1 / 10)), (5, .int 4), (3, .int 0), (0, .ref h0), (1, .int p1), (2, .int 5)]) hx hb dX5_append_53 hl (by decide) rfl ?_
  clear hl
  clear ls
  intro ls hl
  refine lv_iinc (v := 3) (lv' := [(5, .int 3), (4, .int (p1 / 10)), (3, .int 0), (0, .ref h0), (1, .int p1), (2, .int 5)]) hx hb dX5_append_55 hl (k := 1) rfl (by decide +kernel) (by decide) rfl ?_
  clear hl
  clear ls
  intro ls hl
  refine lv_goto (tgt := 27) hx hb dX5_append_58 (by decide) ?_
  refine lv_iload hx hb dX5_append_27 (lv_at hl 0 rfl) ?_
  refine lv_iload_n hx hb dX5_append_29 rfl (lv_at hl 2 rfl) ?_
  refine lv_icmp_lt (tgt := 61) hx hb dX5_append_30 (by decide) (fun c9 => absurd c9 (by decide +kernel)) (fun _ => ?_)
  refine lv_aload_n hx hb dX5_append_33 rfl (lv_at hl 3 rfl) ?_
  refine gm_get (D := D) (ci := 5) (v := .ref h2) (C := RX5) (T := TX5) (N := 5) hx hb hg inlX5 hown hK.1 hP 0 rfl rfl 0 (by decide) tX5_0 (hg _ gw_138) rfl dX5_append_34 ?_
  refine lv_iload hx hb dX5_append_37 (lv_at hl 0 rfl) ?_
  refine lv_iload hx hb dX5_append_39 (lv_at hl 1 rfl) ?_
  refine lv_bipush (v := 10) hx hb dX5_append_41 (by decide +kernel) ?_
  refine lv_irem hx hb dX5_append_43 (by decide +kernel) ?_
  refine lv_i2l (v := (((p1 / 10) - (p1 / 10) / 10 * 10).toInt64)) hx hb dX5_append_44 rfl ?_
  refine g_av (wr := [(h0, .inr (5, [.ref h2, .ref h3, .ref h4, .ref h5, .int 0])), (h3, .inr (8, [.ref h8, .int wp4100423])), (h8, .inl (y 1, 200, .inr (.inl wf4100424))), (h5, .inr (8, [.ref h11, .int wp4100425])), (h11, .inl (y 1, 3, .inr (.inl (fun _ => 0))))]) (va_runV (As := [.int 3, .long (((p1 / 10) - (p1 / 10) / 10 * 10).toInt64)]) (rest := []) ⟨hx, hb, hml, hown, hg⟩ (k_X8_set_48 l D y aS H.size h2 (((p1 / 10) - (p1 / 10) / 10 * 10).toInt64) h6 5 (vp_updL (vp_updL (vp_updL (vp_updL (vp_updL (vp_updL wf4100422 ((0 : Int32).toNatClampNeg) 0) ((1 : Int32).toNatClampNeg) 0) ((2 : Int32).toNatClampNeg) 0) ((3 : Int32).toNatClampNeg) 0) ((4 : Int32).toNatClampNeg) 0) ((4 : Int32).toNatClampNeg) ((p1 - p1 / 10 * 10).toInt64))) (cwV 2 hg ggV_RX5_29_X8_set rfl rfl rfl (by decide +kernel) ⟨Nat.le_of_ble_eq_true rfl, Nat.le_of_ble_eq_true rfl⟩) (g_preV (q := (RX8, TX8, 2)) hK hP hD [5, 6] rfl (by decide) (ci := 8) (q0 := 5) rfl rfl) rfl rfl hl.1 rfl (lv_room (Nat.le_of_ble_eq_true rfl)) dX5_append_45 ⟨Nat.le_of_ble_eq_true rfl, Nat.le_of_ble_eq_true rfl⟩) hP hD hS hA [5, 6] [0, 1, 2, 3, 4] rfl rfl (by decide) (by decide) ?_
  clear hP hD hS H locs
  refine fun u H locs hq hP hD hS => ?_
  replace hP : va_P D vwCl [(h0, .inr (5, [.ref h2, .ref h3, .ref h4, .ref h5, .int 0])), (h3, .inr (8, [.ref h8, .int wp4100423])), (h8, .inl (y 1, 200, .inr (.inl wf4100424))), (h5, .inr (8, [.ref h11, .int wp4100425])), (h11, .inl (y 1, 3, .inr (.inl (fun _ => 0)))), (h2, .inr (8, [.ref h6, .int 5])), (h6, .inl (y 1, 200, .inr (.inl (vp_updL (vp_updL (vp_updL (vp_updL (vp_updL (vp_updL (vp_updL wf4100422 ((0 : Int32).toNatClampNeg) 0) ((1 : Int32).toNatClampNeg) 0) ((2 : Int32).toNatClampNeg) 0) ((3 : Int32).toNatClampNeg) 0) ((4 : Int32).toNatClampNeg) 0) ((4 : Int32).toNatClampNeg) ((p1 - p1 / 10 * 10).toInt64)) ((3 : Int32).toNatClampNeg) (((p1 / 10) - (p1 / 10) / 10 * 10).toInt64)))))] H := hP
  replace hD : va_D A [(h0, .inr (5, [.ref h2, .ref h3, .ref h4, .ref h5, .int 0])), (h3, .inr (8, [.ref h8, .int wp4100423])), (h8, .inl (y 1, 200, .inr (.inl wf4100424))), (h5, .inr (8, [.ref h11, .int wp4100425])), (h11, .inl (y 1, 3, .inr (.inl (fun _ => 0)))), (h2, .inr (8, [.ref h6, .int 5])), (h6, .inl (y 1, 200, .inr (.inl (vp_updL (vp_updL (vp_updL (vp_updL (vp_updL (vp_updL (vp_updL wf4100422 ((0 : Int32).toNatClampNeg) 0) ((1 : Int32).toNatClampNeg) 0) ((2 : Int32).toNatClampNeg) 0) ((3 : Int32).toNatClampNeg) 0) ((4 : Int32).toNatClampNeg) 0) ((4 : Int32).toNatClampNeg) ((p1 - p1 / 10 * 10).toInt64)) ((3 : Int32).toNatClampNeg) (((p1 / 10) - (p1 / 10) / 10 * 10).toInt64)))))] := hD
  refine lv_iload hx hb dX5_append_48 (lv_at hl 1 rfl) ?_
  refine lv_bipush (v := 10) hx hb dX5_append_50 (by decide +kernel) ?_
  refine lv_idiv hx hb dX5_append_52 (by decide +kernel) ?_
  refine lv_istore (lv' := [(4, .int ((p1 / 10) / 10)), (5, .int 3), (3, .int 0), (0, .ref h0), (1, .int p1), (2, .int 5)]) hx hb dX5_append_53 hl (by decide) rfl ?_
  clear hl
  clear ls
  intro ls hl
  refine lv_iinc (v := 2) (lv' := [(5, .int 2), (4, .int ((p1 / 10) / 10)), (3, .int 0), (0, .ref h0), (1, .int p1), (2, .int 5)]) hx hb dX5_append_55 hl (k := 1) rfl (by decide +kernel) (by decide) rfl ?_
  clear hl
  clear ls
  intro ls hl
  refine lv_goto (tgt := 27) hx hb dX5_append_58 (by decide) ?_
  refine lv_iload hx hb dX5_append_27 (lv_at hl 0 rfl) ?_
  refine lv_iload_n hx hb dX5_append_29 rfl (lv_at hl 2 rfl) ?_
  refine lv_icmp_lt (tgt := 61) hx hb dX5_append_30 (by decide) (fun c9 => absurd c9 (by decide +kernel)) (fun _ => ?_)
  refine lv_aload_n hx hb dX5_append_33 rfl (lv_at hl 3 rfl) ?_
  refine gm_get (D := D) (ci := 5) (v := .ref h2) (C := RX5) (T := TX5) (N := 5) hx hb hg inlX5 hown hK.1 hP 0 rfl rfl 0 (by decide) tX5_0 (hg _ gw_138) rfl dX5_append_34 ?_
  refine lv_iload hx hb dX5_append_37 (lv_at hl 0 rfl) ?_
  refine lv_iload hx hb dX5_append_39 (lv_at hl 1 rfl) ?_
  refine lv_bipush (v := 10) hx hb dX5_append_41 (by decide +kernel) ?_
  refine lv_irem hx hb dX5_append_43 (by decide +kernel) ?_
  refine lv_i2l (v := ((((p1 / 10) / 10) - ((p1 / 10) / 10) / 10 * 10).toInt64)) hx hb dX5_append_44 rfl ?_
  refine g_av (wr := [(h0, .inr (5, [.ref h2, .ref h3, .ref h4, .ref h5, .int 0])), (h3, .inr (8, [.ref h8, .int wp4100423])), (h8, .inl (y 1, 200, .inr (.inl wf4100424))), (h5, .inr (8, [.ref h11, .int wp4100425])), (h11, .inl (y 1, 3, .inr (.inl (fun _ => 0))))]) (va_runV (As := [.int 2, .long ((((p1 / 10) / 10) - ((p1 / 10) / 10) / 10 * 10).toInt64)]) (rest := []) ⟨hx, hb, hml, hown, hg⟩ (k_X8_set_47 l D y aS H.size h2 ((((p1 / 10) / 10) - ((p1 / 10) / 10) / 10 * 10).toInt64) h6 5 (vp_updL (vp_updL (vp_updL (vp_updL (vp_updL (vp_updL (vp_updL wf4100422 ((0 : Int32).toNatClampNeg) 0) ((1 : Int32).toNatClampNeg) 0) ((2 : Int32).toNatClampNeg) 0) ((3 : Int32).toNatClampNeg) 0) ((4 : Int32).toNatClampNeg) 0) ((4 : Int32).toNatClampNeg) ((p1 - p1 / 10 * 10).toInt64)) ((3 : Int32).toNatClampNeg) (((p1 / 10) - (p1 / 10) / 10 * 10).toInt64))) (cwV 2 hg ggV_RX5_29_X8_set rfl rfl rfl (by decide +kernel) ⟨Nat.le_of_ble_eq_true rfl, Nat.le_of_ble_eq_true rfl⟩) (g_preV (q := (RX8, TX8, 2)) hK hP hD [5, 6] rfl (by decide) (ci := 8) (q0 := 5) rfl rfl) rfl rfl hl.1 rfl (lv_room (Nat.le_of_ble_eq_true rfl)) dX5_append_45 ⟨Nat.le_of_ble_eq_true rfl, Nat.le_of_ble_eq_true rfl⟩) hP hD hS hA [5, 6] [0, 1, 2, 3, 4] rfl rfl (by decide) (by decide) ?_
  clear hP hD hS H locs
  refine fun u H locs hq hP hD hS => ?_
  replace hP : va_P D vwCl [(h0, .inr (5, [.ref h2, .ref h3, .ref h4, .ref h5, .int 0])), (h3, .inr (8, [.ref h8, .int wp4100423])), (h8, .inl (y 1, 200, .inr (.inl wf4100424))), (h5, .inr (8, [.ref h11, .int wp4100425])), (h11, .inl (y 1, 3, .inr (.inl (fun _ => 0)))), (h2, .inr (8, [.ref h6, .int 5])), (h6, .inl (y 1, 200, .inr (.inl (vp_updL (vp_updL (vp_updL (vp_updL (vp_updL (vp_updL (vp_updL (vp_updL wf4100422 ((0 : Int32).toNatClampNeg) 0) ((1 : Int32).toNatClampNeg) 0) ((2 : Int32).toNatClampNeg) 0) ((3 : Int32).toNatClampNeg) 0) ((4 : Int32).toNatClampNeg) 0) ((4 : Int32).toNatClampNeg) ((p1 - p1 / 10 * 10).toInt64)) ((3 : Int32).toNatClampNeg) (((p1 / 10) - (p1 / 10) / 10 * 10).toInt64)) ((2 : Int32).toNatClampNeg) ((((p1 / 10) / 10) - ((p1 / 10) / 10) / 10 * 10).toInt64)))))] H := hP
  replace hD : va_D A [(h0, .inr (5, [.ref h2, .ref h3, .ref h4, .ref h5, .int 0])), (h3, .inr (8, [.ref h8, .int wp4100423])), (h8, .inl (y 1, 200, .inr (.inl wf4100424))), (h5, .inr (8, [.ref h11, .int wp4100425])), (h11, .inl (y 1, 3, .inr (.inl (fun _ => 0)))), (h2, .inr (8, [.ref h6, .int 5])), (h6, .inl (y 1, 200, .inr (.inl (vp_updL (vp_updL (vp_updL (vp_updL (vp_updL (vp_updL (vp_updL (vp_updL wf4100422 ((0 : Int32).toNatClampNeg) 0) ((1 : Int32).toNatClampNeg) 0) ((2 : Int32).toNatClampNeg) 0) ((3 : Int32).toNatClampNeg) 0) ((4 : Int32).toNatClampNeg) 0) ((4 : Int32).toNatClampNeg) ((p1 - p1 / 10 * 10).toInt64)) ((3 : Int32).toNatClampNeg) (((p1 / 10) - (p1 / 10) / 10 * 10).toInt64)) ((2 : Int32).toNatClampNeg) ((((p1 / 10) / 10) - ((p1 / 10) / 10) / 10 * 10).toInt64)))))] := hD
  refine lv_iload hx hb dX5_append_48 (lv_at hl 1 rfl) ?_
  refine lv_bipush (v := 10) hx hb dX5_append_50 (by decide +kernel) ?_
  refine lv_idiv hx hb dX5_append_52 (by decide +kernel) ?_
  refine lv_istore (lv' := [(4, .int (((p1 / 10) / 10) / 10)), (5, .int 2), (3, .int 0), (0, .ref h0), (1, .int p1), (2, .int 5)]) hx hb dX5_append_53 hl (by decide) rfl ?_
  clear hl
  clear ls
  intro ls hl
  refine lv_iinc (v := 1) (lv' := [(5, .int 1), (4, .int (((p1 / 10) / 10) / 10)), (3, .int 0), (0, .ref h0), (1, .int p1), (2, .int 5)]) hx hb dX5_append_55 hl (k := 1) rfl (by decide +kernel) (by decide) rfl ?_
  clear hl
  clear ls
  intro ls hl
  refine lv_goto (tgt := 27) hx hb dX5_append_58 (by decide) ?_
  refine lv_iload hx hb dX5_append_27 (lv_at hl 0 rfl) ?_
  refine lv_iload_n hx hb dX5_append_29 rfl (lv_at hl 2 rfl) ?_
  refine lv_icmp_lt (tgt := 61) hx hb dX5_append_30 (by decide) (fun c9 => absurd c9 (by decide +kernel)) (fun _ => ?_)
  refine lv_aload_n hx hb dX5_append_33 rfl (lv_at hl 3 rfl) ?_
  refine gm_get (D := D) (ci := 5) (v := .ref h2) (C := RX5) (T := TX5) (N := 5) hx hb hg inlX5 hown hK.1 hP 0 rfl rfl 0 (by decide) tX5_0 (hg _ gw_138) rfl dX5_append_34 ?_
  refine lv_iload hx hb dX5_append_37 (lv_at hl 0 rfl) ?_
  refine lv_iload hx hb dX5_append_39 (lv_at hl 1 rfl) ?_
  refine lv_bipush (v := 10) hx hb dX5_append_41 (by decide +kernel) ?_
  refine lv_irem hx hb dX5_append_43 (by decide +kernel) ?_
  refine lv_i2l (v := (((((p1 / 10) / 10) / 10) - (((p1 / 10) / 10) / 10) / 10 * 10).toInt64)) hx hb dX5_append_44 rfl ?_
  refine g_av (wr := [(h0, .inr (5, [.ref h2, .ref h3, .ref h4, .ref h5, .int 0])), (h3, .inr (8, [.ref h8, .int wp4100423])), (h8, .inl (y 1, 200, .inr (.inl wf4100424))), (h5, .inr (8, [.ref h11, .int wp4100425])), (h11, .inl (y 1, 3, .inr (.inl (fun _ => 0))))]) (va_runV (As := [.int 1, .long (((((p1 / 10) / 10) / 10) - (((p1 / 10) / 10) / 10) / 10 * 10).toInt64)]) (rest := []) ⟨hx, hb, hml, hown, hg⟩ (k_X8_set_46 l D y aS H.size h2 (((((p1 / 10) / 10) / 10) - (((p1 / 10) / 10) / 10) / 10 * 10).toInt64) h6 5 (vp_updL (vp_updL (vp_updL (vp_updL (vp_updL (vp_updL (vp_updL (vp_updL wf4100422 ((0 : Int32).toNatClampNeg) 0) ((1 : Int32).toNatClampNeg) 0) ((2 : Int32).toNatClampNeg) 0) ((3 : Int32).toNatClampNeg) 0) ((4 : Int32).toNatClampNeg) 0) ((4 : Int32).toNatClampNeg) ((p1 - p1 / 10 * 10).toInt64)) ((3 : Int32).toNatClampNeg) (((p1 / 10) - (p1 / 10) / 10 * 10).toInt64)) ((2 : Int32).toNatClampNeg) ((((p1 / 10) / 10) - ((p1 / 10) / 10) / 10 * 10).toInt64))) (cwV 2 hg ggV_RX5_29_X8_set rfl rfl rfl (by decide +kernel) ⟨Nat.le_of_ble_eq_true rfl, Nat.le_of_ble_eq_true rfl⟩) (g_preV (q := (RX8, TX8, 2)) hK hP hD [5, 6] rfl (by decide) (ci := 8) (q0 := 5) rfl rfl) rfl rfl hl.1 rfl (lv_room (Nat.le_of_ble_eq_true rfl)) dX5_append_45 ⟨Nat.le_of_ble_eq_true rfl, Nat.le_of_ble_eq_true rfl⟩) hP hD hS hA [5, 6] [0, 1, 2, 3, 4] rfl rfl (by decide) (by decide) ?_
  clear hP hD hS H locs
  refine fun u H locs hq hP hD hS => ?_
  replace hP : va_P D vwCl [(h0, .inr (5, [.ref h2, .ref h3, .ref h4, .ref h5, .int 0])), (h3, .inr (8, [.ref h8, .int wp4100423])), (h8, .inl (y 1, 200, .inr (.inl wf4100424))), (h5, .inr (8, [.ref h11, .int wp4100425])), (h11, .inl (y 1, 3, .inr (.inl (fun _ => 0)))), (h2, .inr (8, [.ref h6, .int 5])), (h6, .inl (y 1, 200, .inr (.inl (vp_updL (vp_updL (vp_updL (vp_updL (vp_updL (vp_updL (vp_updL (vp_updL (vp_updL wf4100422 ((0 : Int32).toNatClampNeg) 0) ((1 : Int32).toNatClampNeg) 0) ((2 : Int32).toNatClampNeg) 0) ((3 : Int32).toNatClampNeg) 0) ((4 : Int32).toNatClampNeg) 0) ((4 : Int32).toNatClampNeg) ((p1 - p1 / 10 * 10).toInt64)) ((3 : Int32).toNatClampNeg) (((p1 / 10) - (p1 / 10) / 10 * 10).toInt64)) ((2 : Int32).toNatClampNeg) ((((p1 / 10) / 10) - ((p1 / 10) / 10) / 10 * 10).toInt64)) ((1 : Int32).toNatClampNeg) (((((p1 / 10) / 10) / 10) - (((p1 / 10) / 10) / 10) / 10 * 10).toInt64)))))] H := hP
  replace hD : va_D A [(h0, .inr (5, [.ref h2, .ref h3, .ref h4, .ref h5, .int 0])), (h3, .inr (8, [.ref h8, .int wp4100423])), (h8, .inl (y 1, 200, .inr (.inl wf4100424))), (h5, .inr (8, [.ref h11, .int wp4100425])), (h11, .inl (y 1, 3, .inr (.inl (fun _ => 0)))), (h2, .inr (8, [.ref h6, .int 5])), (h6, .inl (y 1, 200, .inr (.inl (vp_updL (vp_updL (vp_updL (vp_updL (vp_updL (vp_updL (vp_updL (vp_updL (vp_updL wf4100422 ((0 : Int32).toNatClampNeg) 0) ((1 : Int32).toNatClampNeg) 0) ((2 : Int32).toNatClampNeg) 0) ((3 : Int32).toNatClampNeg) 0) ((4 : Int32).toNatClampNeg) 0) ((4 : Int32).toNatClampNeg) ((p1 - p1 / 10 * 10).toInt64)) ((3 : Int32).toNatClampNeg) (((p1 / 10) - (p1 / 10) / 10 * 10).toInt64)) ((2 : Int32).toNatClampNeg) ((((p1 / 10) / 10) - ((p1 / 10) / 10) / 10 * 10).toInt64)) ((1 : Int32).toNatClampNeg) (((((p1 / 10) / 10) / 10) - (((p1 / 10) / 10) / 10) / 10 * 10).toInt64)))))] := hD
  refine lv_iload hx hb dX5_append_48 (lv_at hl 1 rfl) ?_
  refine lv_bipush (v := 10) hx hb dX5_append_50 (by decide +kernel) ?_
  refine lv_idiv hx hb dX5_append_52 (by decide +kernel) ?_
  refine lv_istore (lv' := [(4, .int ((((p1 / 10) / 10) / 10) / 10)), (5, .int 1), (3, .int 0), (0, .ref h0), (1, .int p1), (2, .int 5)]) hx hb dX5_append_53 hl (by decide) rfl ?_
  clear hl
  clear ls
  intro ls hl
  refine lv_iinc (v := 0) (lv' := [(5, .int 0), (4, .int ((((p1 / 10) / 10) / 10) / 10)), (3, .int 0), (0, .ref h0), (1, .int p1), (2, .int 5)]) hx hb dX5_append_55 hl (k := 1) rfl (by decide +kernel) (by decide) rfl ?_
  clear hl
  clear ls
  intro ls hl
  refine lv_goto (tgt := 27) hx hb dX5_append_58 (by decide) ?_
  refine lv_iload hx hb dX5_append_27 (lv_at hl 0 rfl) ?_
  refine lv_iload_n hx hb dX5_append_29 rfl (lv_at hl 2 rfl) ?_
  refine lv_icmp_lt (tgt := 61) hx hb dX5_append_30 (by decide) (fun c9 => absurd c9 (by decide +kernel)) (fun _ => ?_)
  refine lv_aload_n hx hb dX5_append_33 rfl (lv_at hl 3 rfl) ?_
  refine gm_get (D := D) (ci := 5) (v := .ref h2) (C := RX5) (T := TX5) (N := 5) hx hb hg inlX5 hown hK.1 hP 0 rfl rfl 0 (by decide) tX5_0 (hg _ gw_138) rfl dX5_append_34 ?_
  refine lv_iload hx hb dX5_append_37 (lv_at hl 0 rfl) ?_
  refine lv_iload hx hb dX5_append_39 (lv_at hl 1 rfl) ?_
  refine lv_bipush (v := 10) hx hb dX5_append_41 (by decide +kernel) ?_
  refine lv_irem hx hb dX5_append_43 (by decide +kernel) ?_
  refine lv_i2l (v := ((((((p1 / 10) / 10) / 10) / 10) - ((((p1 / 10) / 10) / 10) / 10) / 10 * 10).toInt64)) hx hb dX5_append_44 rfl ?_
  refine g_av (wr := [(h0, .inr (5, [.ref h2, .ref h3, .ref h4, .ref h5, .int 0])), (h3, .inr (8, [.ref h8, .int wp4100423])), (h8, .inl (y 1, 200, .inr (.inl wf4100424))), (h5, .inr (8, [.ref h11, .int wp4100425])), (h11, .inl (y 1, 3, .inr (.inl (fun _ => 0))))]) (va_runV (As := [.int 0, .long ((((((p1 / 10) / 10) / 10) / 10) - ((((p1 / 10) / 10) / 10) / 10) / 10 * 10).toInt64)]) (rest := []) ⟨hx, hb, hml, hown, hg⟩ (k_X8_set_45 l D y aS H.size h2 ((((((p1 / 10) / 10) / 10) / 10) - ((((p1 / 10) / 10) / 10) / 10) / 10 * 10).toInt64) h6 5 (vp_updL (vp_updL (vp_updL (vp_updL (vp_updL (vp_updL (vp_updL (vp_updL (vp_updL wf4100422 ((0 : Int32).toNatClampNeg) 0) ((1 : Int32).toNatClampNeg) 0) ((2 : Int32).toNatClampNeg) 0) ((3 : Int32).toNatClampNeg) 0) ((4 : Int32).toNatClampNeg) 0) ((4 : Int32).toNatClampNeg) ((p1 - p1 / 10 * 10).toInt64)) ((3 : Int32).toNatClampNeg) (((p1 / 10) - (p1 / 10) / 10 * 10).toInt64)) ((2 : Int32).toNatClampNeg) ((((p1 / 10) / 10) - ((p1 / 10) / 10) / 10 * 10).toInt64)) ((1 : Int32).toNatClampNeg) (((((p1 / 10) / 10) / 10) - (((p1 / 10) / 10) / 10) / 10 * 10).toInt64))) (cwV 2 hg ggV_RX5_29_X8_set rfl rfl rfl (by decide +kernel) ⟨Nat.le_of_ble_eq_true rfl, Nat.le_of_ble_eq_true rfl⟩) (g_preV (q := (RX8, TX8, 2)) hK hP hD [5, 6] rfl (by decide) (ci := 8) (q0 := 5) rfl rfl) rfl rfl hl.1 rfl (lv_room (Nat.le_of_ble_eq_true rfl)) dX5_append_45 ⟨Nat.le_of_ble_eq_true rfl, Nat.le_of_ble_eq_true rfl⟩) hP hD hS hA [5, 6] [0, 1, 2, 3, 4] rfl rfl (by decide) (by decide) ?_
  clear hP hD hS H locs
  refine fun u H locs hq hP hD hS => ?_
  replace hP : va_P D vwCl [(h0, .inr (5, [.ref h2, .ref h3, .ref h4, .ref h5, .int 0])), (h3, .inr (8, [.ref h8, .int wp4100423])), (h8, .inl (y 1, 200, .inr (.inl wf4100424))), (h5, .inr (8, [.ref h11, .int wp4100425])), (h11, .inl (y 1, 3, .inr (.inl (fun _ => 0)))), (h2, .inr (8, [.ref h6, .int 5])), (h6, .inl (y 1, 200, .inr (.inl (vp_updL (vp_updL (vp_updL (vp_updL (vp_updL (vp_updL (vp_updL (vp_updL (vp_updL (vp_updL wf4100422 ((0 : Int32).toNatClampNeg) 0) ((1 : Int32).toNatClampNeg) 0) ((2 : Int32).toNatClampNeg) 0) ((3 : Int32).toNatClampNeg) 0) ((4 : Int32).toNatClampNeg) 0) ((4 : Int32).toNatClampNeg) ((p1 - p1 / 10 * 10).toInt64)) ((3 : Int32).toNatClampNeg) (((p1 / 10) - (p1 / 10) / 10 * 10).toInt64)) ((2 : Int32).toNatClampNeg) ((((p1 / 10) / 10) - ((p1 / 10) / 10) / 10 * 10).toInt64)) ((1 : Int32).toNatClampNeg) (((((p1 / 10) / 10) / 10) - (((p1 / 10) / 10) / 10) / 10 * 10).toInt64)) ((0 : Int32).toNatClampNeg) ((((((p1 / 10) / 10) / 10) / 10) - ((((p1 / 10) / 10) / 10) / 10) / 10 * 10).toInt64)))))] H := hP
  replace hD : va_D A [(h0, .inr (5, [.ref h2, .ref h3, .ref h4, .ref h5, .int 0])), (h3, .inr (8, [.ref h8, .int wp4100423])), (h8, .inl (y 1, 200, .inr (.inl wf4100424))), (h5, .inr (8, [.ref h11, .int wp4100425])), (h11, .inl (y 1, 3, .inr (.inl (fun _ => 0)))), (h2, .inr (8, [.ref h6, .int 5])), (h6, .inl (y 1, 200, .inr (.inl (vp_updL (vp_updL (vp_updL (vp_updL (vp_updL (vp_updL (vp_updL (vp_updL (vp_updL (vp_updL wf4100422 ((0 : Int32).toNatClampNeg) 0) ((1 : Int32).toNatClampNeg) 0) ((2 : Int32).toNatClampNeg) 0) ((3 : Int32).toNatClampNeg) 0) ((4 : Int32).toNatClampNeg) 0) ((4 : Int32).toNatClampNeg) ((p1 - p1 / 10 * 10).toInt64)) ((3 : Int32).toNatClampNeg) (((p1 / 10) - (p1 / 10) / 10 * 10).toInt64)) ((2 : Int32).toNatClampNeg) ((((p1 / 10) / 10) - ((p1 / 10) / 10) / 10 * 10).toInt64)) ((1 : Int32).toNatClampNeg) (((((p1 / 10) / 10) / 10) - (((p1 / 10) / 10) / 10) / 10 * 10).toInt64)) ((0 : Int32).toNatClampNeg) ((((((p1 / 10) / 10) / 10) / 10) - ((((p1 / 10) / 10) / 10) / 10) / 10 * 10).toInt64)))))] := hD
  refine lv_iload hx hb dX5_append_48 (lv_at hl 1 rfl) ?_
  refine lv_bipush (v := 10) hx hb dX5_append_50 (by decide +kernel) ?_
  refine lv_idiv hx hb dX5_append_52 (by decide +kernel) ?_
  refine lv_istore (lv' := [(4, .int (((((p1 / 10) / 10) / 10) / 10) / 10)), (5, .int 0), (3, .int 0), (0, .ref h0), (1, .int p1), (2, .int 5)]) hx hb dX5_append_53 hl (by decide) rfl ?_
  clear hl
  clear ls
  intro ls hl
  refine lv_iinc (v := (-1)) (lv' := [(5, .int (-1)), (4, .int (((((p1 / 10) / 10) / 10) / 10) / 10)), (3, .int 0), (0, .ref h0), (1, .int p1), (2, .int 5)]) hx hb dX5_append_55 hl (k := 1) rfl (by decide +kernel) (by decide) rfl ?_
  clear hl
  clear ls
  intro ls hl
  refine lv_goto (tgt := 27) hx hb dX5_append_58 (by decide) ?_
  refine lv_iload hx hb dX5_append_27 (lv_at hl 0 rfl) ?_
  refine lv_iload_n hx hb dX5_append_29 rfl (lv_at hl 2 rfl) ?_
  refine lv_icmp_lt (tgt := 61) hx hb dX5_append_30 (by decide) (fun _ => ?_) (fun c9 => absurd c9 (by decide +kernel))
  refine lv_aload_n hx hb dX5_append_61 rfl (lv_at hl 3 rfl) ?_
  refine g_av (wr := [(h6, .inl (y 1, 200, .inr (.inl (vp_updL (vp_updL (vp_updL (vp_updL (vp_updL (vp_updL (vp_updL (vp_updL (vp_updL (vp_updL wf4100422 ((0 : Int32).toNatClampNeg) 0) ((1 : Int32).toNatClampNeg) 0) ((2 : Int32).toNatClampNeg) 0) ((3 : Int32).toNatClampNeg) 0) ((4 : Int32).toNatClampNeg) 0) ((4 : Int32).toNatClampNeg) ((p1 - p1 / 10 * 10).toInt64)) ((3 : Int32).toNatClampNeg) (((p1 / 10) - (p1 / 10) / 10 * 10).toInt64)) ((2 : Int32).toNatClampNeg) ((((p1 / 10) / 10) - ((p1 / 10) / 10) / 10 * 10).toInt64)) ((1 : Int32).toNatClampNeg) (((((p1 / 10) / 10) / 10) - (((p1 / 10) / 10) / 10) / 10 * 10).toInt64)) ((0 : Int32).toNatClampNeg) ((((((p1 / 10) / 10) / 10) / 10) - ((((p1 / 10) / 10) / 10) / 10) / 10 * 10).toInt64)))))]) (va_runV (As := []) (rest := []) ⟨hx, hb, hml, hown, hg⟩ (k_X5_findOut_5 l D y aS H.size h0 h2 h3 h4 h5 0 h6 h8 wp4100423 wf4100424 h11 wp4100425) (cwV 0 hg ggV_RX5_33_X5_findOut rfl rfl rfl (by decide +kernel) ⟨Nat.le_of_ble_eq_true rfl, Nat.le_of_ble_eq_true rfl⟩) (g_preV (q := (RX5, TX5, 5)) hK hP hD [0, 5, 1, 2, 3, 4] rfl (by decide) (ci := 5) (q0 := 0) rfl rfl) rfl rfl hl.1 rfl (lv_room (Nat.le_of_ble_eq_true rfl)) dX5_append_62 ⟨Nat.le_of_ble_eq_true rfl, Nat.le_of_ble_eq_true rfl⟩) hP hD hS hA [0, 5, 1, 2, 3, 4] [6] rfl rfl (by decide) (by decide) ?_
  clear hP hD hS H locs
  refine fun u H locs hq hP hD hS => ?_
  replace hP : va_P D vwCl [(h6, .inl (y 1, 200, .inr (.inl (vp_updL (vp_updL (vp_updL (vp_updL (vp_updL (vp_updL (vp_updL (vp_updL (vp_updL (vp_updL wf4100422 ((0 : Int32).toNatClampNeg) 0) ((1 : Int32).toNatClampNeg) 0) ((2 : Int32).toNatClampNeg) 0) ((3 : Int32).toNatClampNeg) 0) ((4 : Int32).toNatClampNeg) 0) ((4 : Int32).toNatClampNeg) ((p1 - p1 / 10 * 10).toInt64)) ((3 : Int32).toNatClampNeg) (((p1 / 10) - (p1 / 10) / 10 * 10).toInt64)) ((2 : Int32).toNatClampNeg) ((((p1 / 10) / 10) - ((p1 / 10) / 10) / 10 * 10).toInt64)) ((1 : Int32).toNatClampNeg) (((((p1 / 10) / 10) / 10) - (((p1 / 10) / 10) / 10) / 10 * 10).toInt64)) ((0 : Int32).toNatClampNeg) ((((((p1 / 10) / 10) / 10) / 10) - ((((p1 / 10) / 10) / 10) / 10) / 10 * 10).toInt64))))), (h0, .inr (5, [.ref h2, .ref h3, .ref h4, .ref h5, .int 5])), (h2, .inr (8, [.ref h6, .int 5])), (h3, .inr (8, [.ref h8, .int wp4100423])), (h8, .inl (y 1, 200, .inr (.inl (vp_updL (vp_updL (vp_updL (vp_updL (vp_updL wf4100424 ((0 : Int32).toNatClampNeg) 0) ((1 : Int32).toNatClampNeg) 0) ((2 : Int32).toNatClampNeg) 0) ((3 : Int32).toNatClampNeg) 0) ((4 : Int32).toNatClampNeg) 0)))), (h5, .inr (8, [.ref h11, .int wp4100425])), (h11, .inl (y 1, 3, .inr (.inl (fun _ => 0))))] H := hP
  replace hD : va_D A [(h6, .inl (y 1, 200, .inr (.inl (vp_updL (vp_updL (vp_updL (vp_updL (vp_updL (vp_updL (vp_updL (vp_updL (vp_updL (vp_updL wf4100422 ((0 : Int32).toNatClampNeg) 0) ((1 : Int32).toNatClampNeg) 0) ((2 : Int32).toNatClampNeg) 0) ((3 : Int32).toNatClampNeg) 0) ((4 : Int32).toNatClampNeg) 0) ((4 : Int32).toNatClampNeg) ((p1 - p1 / 10 * 10).toInt64)) ((3 : Int32).toNatClampNeg) (((p1 / 10) - (p1 / 10) / 10 * 10).toInt64)) ((2 : Int32).toNatClampNeg) ((((p1 / 10) / 10) - ((p1 / 10) / 10) / 10 * 10).toInt64)) ((1 : Int32).toNatClampNeg) (((((p1 / 10) / 10) / 10) - (((p1 / 10) / 10) / 10) / 10 * 10).toInt64)) ((0 : Int32).toNatClampNeg) ((((((p1 / 10) / 10) / 10) / 10) - ((((p1 / 10) / 10) / 10) / 10) / 10 * 10).toInt64))))), (h0, .inr (5, [.ref h2, .ref h3, .ref h4, .ref h5, .int 5])), (h2, .inr (8, [.ref h6, .int 5])), (h3, .inr (8, [.ref h8, .int wp4100423])), (h8, .inl (y 1, 200, .inr (.inl (vp_updL (vp_updL (vp_updL (vp_updL (vp_updL wf4100424 ((0 : Int32).toNatClampNeg) 0) ((1 : Int32).toNatClampNeg) 0) ((2 : Int32).toNatClampNeg) 0) ((3 : Int32).toNatClampNeg) 0) ((4 : Int32).toNatClampNeg) 0)))), (h5, .inr (8, [.ref h11, .int wp4100425])), (h11, .inl (y 1, 3, .inr (.inl (fun _ => 0))))] := hD
  refine lv_aload_n hx hb dX5_append_65 rfl (lv_at hl 3 rfl) ?_
  refine gm_get (D := D) (ci := 5) (v := .int 5) (C := RX5) (T := TX5) (N := 5) hx hb hg inlX5 hown hK.1 hP 1 rfl rfl 4 (by decide) tX5_4 (hg _ gw_1442) rfl dX5_append_66 ?_
  exact g_iret hx hb hr hlocks () (hP.sub [1, 2, 0, 3, 4, 5, 6] rfl) (hD.sub [1, 2, 0, 3, 4, 5, 6] (by decide +kernel) rfl) hS rfl rfl (Nat.le_of_ble_eq_true rfl) (Nat.le_of_ble_eq_true rfl) dX5_append_69
set_option maxRecDepth 100000 in
set_option maxHeartbeats 4000000 in
theorem k_X8_add_33 (l : Launch) (D : va_G) (y : Nat → ClassId) (aS : Nat → Nat) (sz : Nat) (h0 : Nat) (h1 : Nat) (wf4100443 : Nat → Int64) : Met l yX8_add (Cond.code yX8_add cX8_add 3 none :: wsL_law) ({ frames := 0, cells := 0, slots := 0, locals := 0 } : Room) (va_Pc [.ref h0, .long 0] (gI D y aS [(h0, .inr (8, [.ref h1, .int 5])), (h1, .inl (y 1, 200, .inr (.inl wf4100443)))] sz)) (va_Qv (fun (u : Unit) => True) (fun u => gO D (va_A [(h0, .inr (8, [.ref h1, .int 5])), (h1, .inl (y 1, 200, .inr (.inl wf4100443)))] sz) [(h0, .inr (8, [.ref h1, .int 6])), (h1, .inl (y 1, 200, .inr (.inl (vp_updL wf4100443 ((5 : Int32).toNatClampNeg) 0))))]) (va_A [(h0, .inr (8, [.ref h1, .int 5])), (h1, .inl (y 1, 200, .inr (.inl wf4100443)))] sz)) 0 0 (va_A [(h0, .inr (8, [.ref h1, .int 5])), (h1, .inl (y 1, 200, .inr (.inl wf4100443)))] sz) := by
  refine g_of (by decide) (Nat.le_of_ble_eq_true rfl) ?_
  intro p e s m below meth c ls A hx hb hr hml hown hg hlocks hin hsz hK hP hD hS hA hAe hl
  rw [← hAe]
  replace hown : s.vm.findClass RX8 = some m.cls := hown
  replace hl : lv_has ls 3 [(0, .ref h0), (1, .long 0)] := hl
  refine lv_aload_n hx hb dX8_add_0 rfl (lv_at hl 0 rfl) ?_
  refine gm_get (D := D) (ci := 8) (v := .int 5) (C := RX8) (T := TX8) (N := 2) hx hb hg inlX8 hown hK.1 hP 0 rfl rfl 1 (by decide) tX8_1 (hg _ gw_155) rfl dX8_add_1 ?_
  refine lv_if_lt (tgt := 39) hx hb dX8_add_4 (by decide) (fun c9 => absurd c9 (by decide +kernel)) (fun _ => ?_)
  refine lv_aload_n hx hb dX8_add_7 rfl (lv_at hl 0 rfl) ?_
  refine gm_get (D := D) (ci := 8) (v := .int 5) (C := RX8) (T := TX8) (N := 2) hx hb hg inlX8 hown hK.1 hP 0 rfl rfl 1 (by decide) tX8_1 (hg _ gw_155) rfl dX8_add_8 ?_
  refine lv_aload_n hx hb dX8_add_11 rfl (lv_at hl 0 rfl) ?_
  refine gm_get (D := D) (ci := 8) (v := .ref h1) (C := RX8) (T := TX8) (N := 2) hx hb hg inlX8 hown hK.1 hP 0 rfl rfl 0 (by decide) tX8_0 (hg _ gw_98) rfl dX8_add_12 ?_
  refine va_alen hx hb hK.1 hP 1 1 rfl rfl (v := 200) rfl dX8_add_15 ?_
  refine lv_icmp_ge (tgt := 39) hx hb dX8_add_16 (by decide) (fun c9 => absurd c9 (by decide +kernel)) (fun _ => ?_)
  refine lv_aload_n hx hb dX8_add_19 rfl (lv_at hl 0 rfl) ?_
  refine gm_get (D := D) (ci := 8) (v := .ref h1) (C := RX8) (T := TX8) (N := 2) hx hb hg inlX8 hown hK.1 hP 0 rfl rfl 0 (by decide) tX8_0 (hg _ gw_98) rfl dX8_add_20 ?_
  refine lv_aload_n hx hb dX8_add_23 rfl (lv_at hl 0 rfl) ?_
  refine gm_get (D := D) (ci := 8) (v := .int 5) (C := RX8) (T := TX8) (N := 2) hx hb hg inlX8 hown hK.1 hP 0 rfl rfl 1 (by decide) tX8_1 (hg _ gw_155) rfl dX8_add_24 ?_
  refine lv_lload_n hx hb dX8_add_27 rfl (lv_at hl 1 rfl) ?_
  refine va_last hx hb hK.1 hP hD hS 1 1 rfl rfl (by unfold vp_in; decide +kernel) dX8_add_28 ?_
  clear hP hD hS
  refine fun H locs (hP : va_P D vwCl [(h0, .inr (8, [.ref h1, .int 5])), (h1, .inl (y 1, 200, .inr (.inl (vp_updL wf4100443 ((5 : Int32).toNatClampNeg) 0))))] H) (hD : va_D A [(h0, .inr (8, [.ref h1, .int 5])), (h1, .inl (y 1, 200, .inr (.inl (vp_updL wf4100443 ((5 : Int32).toNatClampNeg) 0))))]) hS => ?_
  refine lv_aload_n hx hb dX8_add_29 rfl (lv_at hl 0 rfl) ?_
  refine lv_dup hx hb dX8_add_30 rfl ?_
  refine gm_get (D := D) (ci := 8) (v := .int 5) (C := RX8) (T := TX8) (N := 2) hx hb hg inlX8 hown hK.1 hP 0 rfl rfl 1 (by decide) tX8_1 (hg _ gw_155) rfl dX8_add_31 ?_
  refine lv_iconst (v := 1) hx hb dX8_add_34 (by decide) ?_
  refine lv_iadd hx hb dX8_add_35 ?_
  refine g_fi (v := 6) (by decide +kernel) ?_
  refine gm_put (D := D) (ci := 8) (v := .int 6) (ty := .int) (C := RX8) (T := TX8) (N := 2) hx hb hg inlX8 tyX8 tyX8_ok nmX8 hown hK.1 hP hD hS 0 rfl rfl 1 (by decide) tX8_1 (hg _ gw_155) (by decide +kernel) rfl rfl (Nat.le_of_ble_eq_true rfl) dX8_add_36 ?_
  clear hP hD hS H locs
  refine fun H locs (hP : va_P D vwCl [(h0, .inr (8, [.ref h1, .int 6])), (h1, .inl (y 1, 200, .inr (.inl (vp_updL wf4100443 ((5 : Int32).toNatClampNeg) 0))))] H) (hD : va_D A [(h0, .inr (8, [.ref h1, .int 6])), (h1, .inl (y 1, 200, .inr (.inl (vp_updL wf4100443 ((5 : Int32).toNatClampNeg) 0))))]) hS => ?_
  exact g_vret hx hb hr hlocks () hP hD hS trivial (Nat.le_of_ble_eq_true rfl) (Nat.le_of_ble_eq_true rfl) dX8_add_39
set_option maxRecDepth 100000 in
set_option maxHeartbeats 4000000 in
theorem k_X8_addMany_9 (l : Launch) (D : va_G) (y : Nat → ClassId) (aS : Nat → Nat) (sz : Nat) (h0 : Nat) (h1 : Nat) (wf4100445 : Nat → Int64) : Met l yX8_addMany (Cond.code yX8_addMany cX8_addMany 5 none :: wsL_law) ({ frames := 1, cells := 0, slots := 0, locals := 22 } : Room) (va_Pc [.ref h0, .int 6, .long 0] (gI D y aS [(h0, .inr (8, [.ref h1, .int 0])), (h1, .inl (y 1, 200, .inr (.inl wf4100445)))] sz)) (va_Qv (fun (u : Unit) => True) (fun u => gO D (va_A [(h0, .inr (8, [.ref h1, .int 0])), (h1, .inl (y 1, 200, .inr (.inl wf4100445)))] sz) [(h0, .inr (8, [.ref h1, .int 6])), (h1, .inl (y 1, 200, .inr (.inl (vp_updL (vp_updL (vp_updL (vp_updL (vp_updL (vp_updL wf4100445 ((0 : Int32).toNatClampNeg) 0) ((1 : Int32).toNatClampNeg) 0) ((2 : Int32).toNatClampNeg) 0) ((3 : Int32).toNatClampNeg) 0) ((4 : Int32).toNatClampNeg) 0) ((5 : Int32).toNatClampNeg) 0))))]) (va_A [(h0, .inr (8, [.ref h1, .int 0])), (h1, .inl (y 1, 200, .inr (.inl wf4100445)))] sz)) 0 0 (va_A [(h0, .inr (8, [.ref h1, .int 0])), (h1, .inl (y 1, 200, .inr (.inl wf4100445)))] sz) := by
  refine g_of (by decide) (Nat.le_of_ble_eq_true rfl) ?_
  intro p e s m below meth c ls A hx hb hr hml hown hg hlocks hin hsz hK hP hD hS hA hAe hl
  rw [← hAe]
  replace hown : s.vm.findClass RX8 = some m.cls := hown
  replace hl : lv_has ls 5 [(0, .ref h0), (1, .int 6), (2, .long 0)] := hl
  refine lv_iconst (v := 0) hx hb dX8_addMany_0 (by decide) ?_
  refine lv_istore (lv' := [(4, .int 0), (0, .ref h0), (1, .int 6), (2, .long 0)]) hx hb dX8_addMany_1 hl (by decide) rfl ?_
  clear hl
  clear ls
  intro ls hl
  refine lv_iload hx hb dX8_addMany_3 (lv_at hl 0 rfl) ?_
  refine lv_iload_n hx hb dX8_addMany_5 rfl (lv_at hl 2 rfl) ?_
  refine lv_icmp_ge (tgt := 30) hx hb dX8_addMany_6 (by decide) (fun c9 => absurd c9 (by decide +kernel)) (fun _ => ?_)
  refine lv_iload hx hb dX8_addMany_9 (lv_at hl 0 rfl) ?_
  refine lv_aload_n hx hb dX8_addMany_11 rfl (lv_at hl 1 rfl) ?_
  refine gm_get (D := D) (ci := 8) (v := .ref h1) (C := RX8) (T := TX8) (N := 2) hx hb hg inlX8 hown hK.1 hP 0 rfl rfl 0 (by decide) tX8_0 (hg _ gw_98) rfl dX8_addMany_12 ?_
  refine va_alen hx hb hK.1 hP 1 1 rfl rfl (v := 200) rfl dX8_addMany_15 ?_
  refine lv_icmp_ge (tgt := 30) hx hb dX8_addMany_16 (by decide) (fun c9 => absurd c9 (by decide +kernel)) (fun _ => ?_)
  refine lv_aload_n hx hb dX8_addMany_19 rfl (lv_at hl 1 rfl) ?_
  refine lv_lload_n hx hb dX8_addMany_20 rfl (lv_at hl 3 rfl) ?_
  refine g_av (wr := []) (va_runV (As := [.long 0]) (rest := []) ⟨hx, hb, hml, hown, hg⟩ (k_X8_add_28 l D y aS s.heap.size h0 h1 wf4100445) (cwV 1 hg ghV_RX8_19_X8_add rfl rfl rfl (by decide +kernel) ⟨Nat.le_of_ble_eq_true rfl, Nat.le_of_ble_eq_true rfl⟩) (g_preV (q := (RX8, TX8, 2)) hK hP hD [0, 1] rfl (by decide) (ci := 8) (q0 := 0) rfl rfl) rfl rfl hl.1 rfl (lv_room (Nat.le_of_ble_eq_true rfl)) dX8_addMany_21 ⟨Nat.le_of_ble_eq_true rfl, Nat.le_of_ble_eq_true rfl⟩) hP hD hS hA [0, 1] [] rfl rfl (by decide) (by decide) ?_
  clear hP hD hS
  refine fun u H locs hq hP hD hS => ?_
  replace hP : va_P D vwCl [(h0, .inr (8, [.ref h1, .int 1])), (h1, .inl (y 1, 200, .inr (.inl (vp_updL wf4100445 ((0 : Int32).toNatClampNeg) 0))))] H := hP
  replace hD : va_D A [(h0, .inr (8, [.ref h1, .int 1])), (h1, .inl (y 1, 200, .inr (.inl (vp_updL wf4100445 ((0 : Int32).toNatClampNeg) 0))))] := hD
  refine lv_iinc (v := 1) (lv' := [(4, .int 1), (0, .ref h0), (1, .int 6), (2, .long 0)]) hx hb dX8_addMany_24 hl (k := 0) rfl (by decide +kernel) (by decide) rfl ?_
  clear hl
  clear ls
  intro ls hl
  refine lv_goto (tgt := 3) hx hb dX8_addMany_27 (by decide) ?_
  refine lv_iload hx hb dX8_addMany_3 (lv_at hl 0 rfl) ?_
  refine lv_iload_n hx hb dX8_addMany_5 rfl (lv_at hl 2 rfl) ?_
  refine lv_icmp_ge (tgt := 30) hx hb dX8_addMany_6 (by decide) (fun c9 => absurd c9 (by decide +kernel)) (fun _ => ?_)
  refine lv_iload hx hb dX8_addMany_9 (lv_at hl 0 rfl) ?_
  refine lv_aload_n hx hb dX8_addMany_11 rfl (lv_at hl 1 rfl) ?_
  refine gm_get (D := D) (ci := 8) (v := .ref h1) (C := RX8) (T := TX8) (N := 2) hx hb hg inlX8 hown hK.1 hP 0 rfl rfl 0 (by decide) tX8_0 (hg _ gw_98) rfl dX8_addMany_12 ?_
  refine va_alen hx hb hK.1 hP 1 1 rfl rfl (v := 200) rfl dX8_addMany_15 ?_
  refine lv_icmp_ge (tgt := 30) hx hb dX8_addMany_16 (by decide) (fun c9 => absurd c9 (by decide +kernel)) (fun _ => ?_)
  refine lv_aload_n hx hb dX8_addMany_19 rfl (lv_at hl 1 rfl) ?_
  refine lv_lload_n hx hb dX8_addMany_20 rfl (lv_at hl 3 rfl) ?_
  refine g_av (wr := []) (va_runV (As := [.long 0]) (rest := []) ⟨hx, hb, hml, hown, hg⟩ (k_X8_add_29 l D y aS H.size h0 h1 (vp_updL wf4100445 ((0 : Int32).toNatClampNeg) 0)) (cwV 1 hg ghV_RX8_19_X8_add rfl rfl rfl (by decide +kernel) ⟨Nat.le_of_ble_eq_true rfl, Nat.le_of_ble_eq_true rfl⟩) (g_preV (q := (RX8, TX8, 2)) hK hP hD [0, 1] rfl (by decide) (ci := 8) (q0 := 0) rfl rfl) rfl rfl hl.1 rfl (lv_room (Nat.le_of_ble_eq_true rfl)) dX8_addMany_21 ⟨Nat.le_of_ble_eq_true rfl, Nat.le_of_ble_eq_true rfl⟩) hP hD hS hA [0, 1] [] rfl rfl (by decide) (by decide) ?_
  clear hP hD hS H locs
  refine fun u H locs hq hP hD hS => ?_
  replace hP : va_P D vwCl [(h0, .inr (8, [.ref h1, .int 2])), (h1, .inl (y 1, 200, .inr (.inl (vp_updL (vp_updL wf4100445 ((0 : Int32).toNatClampNeg) 0) ((1 : Int32).toNatClampNeg) 0))))] H := hP
  replace hD : va_D A [(h0, .inr (8, [.ref h1, .int 2])), (h1, .inl (y 1, 200, .inr (.inl (vp_updL (vp_updL wf4100445 ((0 : Int32).toNatClampNeg) 0) ((1 : Int32).toNatClampNeg) 0))))] := hD
  refine lv_iinc (v := 2) (lv' := [(4, .int 2), (0, .ref h0), (1, .int 6), (2, .long 0)]) hx hb dX8_addMany_24 hl (k := 0) rfl (by decide +kernel) (by decide) rfl ?_
  clear hl
  clear ls
  intro ls hl
  refine lv_goto (tgt := 3) hx hb dX8_addMany_27 (by decide) ?_
  refine lv_iload hx hb dX8_addMany_3 (lv_at hl 0 rfl) ?_
  refine lv_iload_n hx hb dX8_addMany_5 rfl (lv_at hl 2 rfl) ?_
  refine lv_icmp_ge (tgt := 30) hx hb dX8_addMany_6 (by decide) (fun c9 => absurd c9 (by decide +kernel)) (fun _ => ?_)
  refine lv_iload hx hb dX8_addMany_9 (lv_at hl 0 rfl) ?_
  refine lv_aload_n hx hb dX8_addMany_11 rfl (lv_at hl 1 rfl) ?_
  refine gm_get (D := D) (ci := 8) (v := .ref h1) (C := RX8) (T := TX8) (N := 2) hx hb hg inlX8 hown hK.1 hP 0 rfl rfl 0 (by decide) tX8_0 (hg _ gw_98) rfl dX8_addMany_12 ?_
  refine va_alen hx hb hK.1 hP 1 1 rfl rfl (v := 200) rfl dX8_addMany_15 ?_
  refine lv_icmp_ge (tgt := 30) hx hb dX8_addMany_16 (by decide) (fun c9 => absurd c9 (by decide +kernel)) (fun _ => ?_)
  refine lv_aload_n hx hb dX8_addMany_19 rfl (lv_at hl 1 rfl) ?_
  refine lv_lload_n hx hb dX8_addMany_20 rfl (lv_at hl 3 rfl) ?_
  refine g_av (wr := []) (va_runV (As := [.long 0]) (rest := []) ⟨hx, hb, hml, hown, hg⟩ (k_X8_add_30 l D y aS H.size h0 h1 (vp_updL (vp_updL wf4100445 ((0 : Int32).toNatClampNeg) 0) ((1 : Int32).toNatClampNeg) 0)) (cwV 1 hg ghV_RX8_19_X8_add rfl rfl rfl (by decide +kernel) ⟨Nat.le_of_ble_eq_true rfl, Nat.le_of_ble_eq_true rfl⟩) (g_preV (q := (RX8, TX8, 2)) hK hP hD [0, 1] rfl (by decide) (ci := 8) (q0 := 0) rfl rfl) rfl rfl hl.1 rfl (lv_room (Nat.le_of_ble_eq_true rfl)) dX8_addMany_21 ⟨Nat.le_of_ble_eq_true rfl, Nat.le_of_ble_eq_true rfl⟩) hP hD hS hA [0, 1] [] rfl rfl (by decide) (by decide) ?_
  clear hP hD hS H locs
  refine fun u H locs hq hP hD hS => ?_
  replace hP : va_P D vwCl [(h0, .inr (8, [.ref h1, .int 3])), (h1, .inl (y 1, 200, .inr (.inl (vp_updL (vp_updL (vp_updL wf4100445 ((0 : Int32).toNatClampNeg) 0) ((1 : Int32).toNatClampNeg) 0) ((2 : Int32).toNatClampNeg) 0))))] H := hP
  replace hD : va_D A [(h0, .inr (8, [.ref h1, .int 3])), (h1, .inl (y 1, 200, .inr (.inl (vp_updL (vp_updL (vp_updL wf4100445 ((0 : Int32).toNatClampNeg) 0) ((1 : Int32).toNatClampNeg) 0) ((2 : Int32).toNatClampNeg) 0))))] := hD
  refine lv_iinc (v := 3) (lv' := [(4, .int 3), (0, .ref h0), (1, .int 6), (2, .long 0)]) hx hb dX8_addMany_24 hl (k := 0) rfl (by decide +kernel) (by decide) rfl ?_
  clear hl
  clear ls
  intro ls hl
  refine lv_goto (tgt := 3) hx hb dX8_addMany_27 (by decide) ?_
  refine lv_iload hx hb dX8_addMany_3 (lv_at hl 0 rfl) ?_
  refine lv_iload_n hx hb dX8_addMany_5 rfl (lv_at hl 2 rfl) ?_
  refine lv_icmp_ge (tgt := 30) hx hb dX8_addMany_6 (by decide) (fun c9 => absurd c9 (by decide +kernel)) (fun _ => ?_)
  refine lv_iload hx hb dX8_addMany_9 (lv_at hl 0 rfl) ?_
  refine lv_aload_n hx hb dX8_addMany_11 rfl (lv_at hl 1 rfl) ?_
  refine gm_get (D := D) (ci := 8) (v := .ref h1) (C := RX8) (T := TX8) (N := 2) hx hb hg inlX8 hown hK.1 hP 0 rfl rfl 0 (by decide) tX8_0 (hg _ gw_98) rfl dX8_addMany_12 ?_
  refine va_alen hx hb hK.1 hP 1 1 rfl rfl (v := 200) rfl dX8_addMany_15 ?_
  refine lv_icmp_ge (tgt := 30) hx hb dX8_addMany_16 (by decide) (fun c9 => absurd c9 (by decide +kernel)) (fun _ => ?_)
  refine lv_aload_n hx hb dX8_addMany_19 rfl (lv_at hl 1 rfl) ?_
  refine lv_lload_n hx hb dX8_addMany_20 rfl (lv_at hl 3 rfl) ?_
  refine g_av (wr := []) (va_runV (As := [.long 0]) (rest := []) ⟨hx, hb, hml, hown, hg⟩ (k_X8_add_31 l D y aS H.size h0 h1 (vp_updL (vp_updL (vp_updL wf4100445 ((0 : Int32).toNatClampNeg) 0) ((1 : Int32).toNatClampNeg) 0) ((2 : Int32).toNatClampNeg) 0)) (cwV 1 hg ghV_RX8_19_X8_add rfl rfl rfl (by decide +kernel) ⟨Nat.le_of_ble_eq_true rfl, Nat.le_of_ble_eq_true rfl⟩) (g_preV (q := (RX8, TX8, 2)) hK hP hD [0, 1] rfl (by decide) (ci := 8) (q0 := 0) rfl rfl) rfl rfl hl.1 rfl (lv_room (Nat.le_of_ble_eq_true rfl)) dX8_addMany_21 ⟨Nat.le_of_ble_eq_true rfl, Nat.le_of_ble_eq_true rfl⟩) hP hD hS hA [0, 1] [] rfl rfl (by decide) (by decide) ?_
  clear hP hD hS H locs
  refine fun u H locs hq hP hD hS => ?_
  replace hP : va_P D vwCl [(h0, .inr (8, [.ref h1, .int 4])), (h1, .inl (y 1, 200, .inr (.inl (vp_updL (vp_updL (vp_updL (vp_updL wf4100445 ((0 : Int32).toNatClampNeg) 0) ((1 : Int32).toNatClampNeg) 0) ((2 : Int32).toNatClampNeg) 0) ((3 : Int32).toNatClampNeg) 0))))] H := hP
  replace hD : va_D A [(h0, .inr (8, [.ref h1, .int 4])), (h1, .inl (y 1, 200, .inr (.inl (vp_updL (vp_updL (vp_updL (vp_updL wf4100445 ((0 : Int32).toNatClampNeg) 0) ((1 : Int32).toNatClampNeg) 0) ((2 : Int32).toNatClampNeg) 0) ((3 : Int32).toNatClampNeg) 0))))] := hD
  refine lv_iinc (v := 4) (lv' := [(4, .int 4), (0, .ref h0), (1, .int 6), (2, .long 0)]) hx hb dX8_addMany_24 hl (k := 0) rfl (by decide +kernel) (by decide) rfl ?_
  clear hl
  clear ls
  intro ls hl
  refine lv_goto (tgt := 3) hx hb dX8_addMany_27 (by decide) ?_
  refine lv_iload hx hb dX8_addMany_3 (lv_at hl 0 rfl) ?_
  refine lv_iload_n hx hb dX8_addMany_5 rfl (lv_at hl 2 rfl) ?_
  refine lv_icmp_ge (tgt := 30) hx hb dX8_addMany_6 (by decide) (fun c9 => absurd c9 (by decide +kernel)) (fun _ => ?_)
  refine lv_iload hx hb dX8_addMany_9 (lv_at hl 0 rfl) ?_
  refine lv_aload_n hx hb dX8_addMany_11 rfl (lv_at hl 1 rfl) ?_
  refine gm_get (D := D) (ci := 8) (v := .ref h1) (C := RX8) (T := TX8) (N := 2) hx hb hg inlX8 hown hK.1 hP 0 rfl rfl 0 (by decide) tX8_0 (hg _ gw_98) rfl dX8_addMany_12 ?_
  refine va_alen hx hb hK.1 hP 1 1 rfl rfl (v := 200) rfl dX8_addMany_15 ?_
  refine lv_icmp_ge (tgt := 30) hx hb dX8_addMany_16 (by decide) (fun c9 => absurd c9 (by decide +kernel)) (fun _ => ?_)
  refine lv_aload_n hx hb dX8_addMany_19 rfl (lv_at hl 1 rfl) ?_
  refine lv_lload_n hx hb dX8_addMany_20 rfl (lv_at hl 3 rfl) ?_
  refine g_av (wr := []) (va_runV (As := [.long 0]) (rest := []) ⟨hx, hb, hml, hown, hg⟩ (k_X8_add_32 l D y aS H.size h0 h1 (vp_updL (vp_updL (vp_updL (vp_updL wf4100445 ((0 : Int32).toNatClampNeg) 0) ((1 : Int32).toNatClampNeg) 0) ((2 : Int32).toNatClampNeg) 0) ((3 : Int32).toNatClampNeg) 0)) (cwV 1 hg ghV_RX8_19_X8_add rfl rfl rfl (by decide +kernel) ⟨Nat.le_of_ble_eq_true rfl, Nat.le_of_ble_eq_true rfl⟩) (g_preV (q := (RX8, TX8, 2)) hK hP hD [0, 1] rfl (by decide) (ci := 8) (q0 := 0) rfl rfl) rfl rfl hl.1 rfl (lv_room (Nat.le_of_ble_eq_true rfl)) dX8_addMany_21 ⟨Nat.le_of_ble_eq_true rfl, Nat.le_of_ble_eq_true rfl⟩) hP hD hS hA [0, 1] [] rfl rfl (by decide) (by decide) ?_
  clear hP hD hS H locs
  refine fun u H locs hq hP hD hS => ?_
  replace hP : va_P D vwCl [(h0, .inr (8, [.ref h1, .int 5])), (h1, .inl (y 1, 200, .inr (.inl (vp_updL (vp_updL (vp_updL (vp_updL (vp_updL wf4100445 ((0 : Int32).toNatClampNeg) 0) ((1 : Int32).toNatClampNeg) 0) ((2 : Int32).toNatClampNeg) 0) ((3 : Int32).toNatClampNeg) 0) ((4 : Int32).toNatClampNeg) 0))))] H := hP
  replace hD : va_D A [(h0, .inr (8, [.ref h1, .int 5])), (h1, .inl (y 1, 200, .inr (.inl (vp_updL (vp_updL (vp_updL (vp_updL (vp_updL wf4100445 ((0 : Int32).toNatClampNeg) 0) ((1 : Int32).toNatClampNeg) 0) ((2 : Int32).toNatClampNeg) 0) ((3 : Int32).toNatClampNeg) 0) ((4 : Int32).toNatClampNeg) 0))))] := hD
  refine lv_iinc (v := 5) (lv' := [(4, .int 5), (0, .ref h0), (1, .int 6), (2, .long 0)]) hx hb dX8_addMany_24 hl (k := 0) rfl (by decide +kernel) (by decide) rfl ?_
  clear hl
  clear ls
  intro ls hl
  refine lv_goto (tgt := 3) hx hb dX8_addMany_27 (by decide) ?_
  refine lv_iload hx hb dX8_addMany_3 (lv_at hl 0 rfl) ?_
  refine lv_iload_n hx hb dX8_addMany_5 rfl (lv_at hl 2 rfl) ?_
  refine lv_icmp_ge (tgt := 30) hx hb dX8_addMany_6 (by decide) (fun c9 => absurd c9 (by decide +kernel)) (fun _ => ?_)
  refine lv_iload hx hb dX8_addMany_9 (lv_at hl 0 rfl) ?_
  refine lv_aload_n hx hb dX8_addMany_11 rfl (lv_at hl 1 rfl) ?_
  refine gm_get (D := D) (ci := 8) (v := .ref h1) (C := RX8) (T := TX8) (N := 2) hx hb hg inlX8 hown hK.1 hP 0 rfl rfl 0 (by decide) tX8_0 (hg _ gw_98) rfl dX8_addMany_12 ?_
  refine va_alen hx hb hK.1 hP 1 1 rfl rfl (v := 200) rfl dX8_addMany_15 ?_
  refine lv_icmp_ge (tgt := 30) hx hb dX8_addMany_16 (by decide) (fun c9 => absurd c9 (by decide +kernel)) (fun _ => ?_)
  refine lv_aload_n hx hb dX8_addMany_19 rfl (lv_at hl 1 rfl) ?_
  refine lv_lload_n hx hb dX8_addMany_20 rfl (lv_at hl 3 rfl) ?_
  refine g_av (wr := []) (va_runV (As := [.long 0]) (rest := []) ⟨hx, hb, hml, hown, hg⟩ (k_X8_add_33 l D y aS H.size h0 h1 (vp_updL (vp_updL (vp_updL (vp_updL (vp_updL wf4100445 ((0 : Int32).toNatClampNeg) 0) ((1 : Int32).toNatClampNeg) 0) ((2 : Int32).toNatClampNeg) 0) ((3 : Int32).toNatClampNeg) 0) ((4 : Int32).toNatClampNeg) 0)) (cwV 1 hg ghV_RX8_19_X8_add rfl rfl rfl (by decide +kernel) ⟨Nat.le_of_ble_eq_true rfl, Nat.le_of_ble_eq_true rfl⟩) (g_preV (q := (RX8, TX8, 2)) hK hP hD [0, 1] rfl (by decide) (ci := 8) (q0 := 0) rfl rfl) rfl rfl hl.1 rfl (lv_room (Nat.le_of_ble_eq_true rfl)) dX8_addMany_21 ⟨Nat.le_of_ble_eq_true rfl, Nat.le_of_ble_eq_true rfl⟩) hP hD hS hA [0, 1] [] rfl rfl (by decide) (by decide) ?_
  clear hP hD hS H locs
  refine fun u H locs hq hP hD hS => ?_
  replace hP : va_P D vwCl [(h0, .inr (8, [.ref h1, .int 6])), (h1, .inl (y 1, 200, .inr (.inl (vp_updL (vp_updL (vp_updL (vp_updL (vp_updL (vp_updL wf4100445 ((0 : Int32).toNatClampNeg) 0) ((1 : Int32).toNatClampNeg) 0) ((2 : Int32).toNatClampNeg) 0) ((3 : Int32).toNatClampNeg) 0) ((4 : Int32).toNatClampNeg) 0) ((5 : Int32).toNatClampNeg) 0))))] H := hP
  replace hD : va_D A [(h0, .inr (8, [.ref h1, .int 6])), (h1, .inl (y 1, 200, .inr (.inl (vp_updL (vp_updL (vp_updL (vp_updL (vp_updL (vp_updL wf4100445 ((0 : Int32).toNatClampNeg) 0) ((1 : Int32).toNatClampNeg) 0) ((2 : Int32).toNatClampNeg) 0) ((3 : Int32).toNatClampNeg) 0) ((4 : Int32).toNatClampNeg) 0) ((5 : Int32).toNatClampNeg) 0))))] := hD
  refine lv_iinc (v := 6) (lv' := [(4, .int 6), (0, .ref h0), (1, .int 6), (2, .long 0)]) hx hb dX8_addMany_24 hl (k := 0) rfl (by decide +kernel) (by decide) rfl ?_
  clear hl
  clear ls
  intro ls hl
  refine lv_goto (tgt := 3) hx hb dX8_addMany_27 (by decide) ?_
  refine lv_iload hx hb dX8_addMany_3 (lv_at hl 0 rfl) ?_
  refine lv_iload_n hx hb dX8_addMany_5 rfl (lv_at hl 2 rfl) ?_
  refine lv_icmp_ge (tgt := 30) hx hb dX8_addMany_6 (by decide) (fun _ => ?_) (fun c9 => absurd c9 (by decide +kernel))
  exact g_vret hx hb hr hlocks () hP hD hS trivial (Nat.le_of_ble_eq_true rfl) (Nat.le_of_ble_eq_true rfl) dX8_addMany_30
set_option maxRecDepth 100000 in
set_option maxHeartbeats 4000000 in
theorem k_X8_set_50 (l : Launch) (D : va_G) (y : Nat → ClassId) (aS : Nat → Nat) (sz : Nat) (h0 : Nat) (p1 : Int64) (h2 : Nat) (wp4100454 : Int32) (wf4100455 : Nat → Int64) : Met l yX8_set (Cond.code yX8_set cX8_set 4 none :: wsL_law) ({ frames := 0, cells := 0, slots := 0, locals := 0 } : Room) (va_Pc [.ref h0, .int 5, .long p1] (gI D y aS [(h0, .inr (8, [.ref h2, .int wp4100454])), (h2, .inl (y 1, 200, .inr (.inl wf4100455)))] sz)) (va_Qv (fun (u : Unit) => True) (fun u => gO D (va_A [(h0, .inr (8, [.ref h2, .int wp4100454])), (h2, .inl (y 1, 200, .inr (.inl wf4100455)))] sz) [(h0, .inr (8, [.ref h2, .int wp4100454])), (h2, .inl (y 1, 200, .inr (.inl (vp_updL wf4100455 ((5 : Int32).toNatClampNeg) p1))))]) (va_A [(h0, .inr (8, [.ref h2, .int wp4100454])), (h2, .inl (y 1, 200, .inr (.inl wf4100455)))] sz)) 0 0 (va_A [(h0, .inr (8, [.ref h2, .int wp4100454])), (h2, .inl (y 1, 200, .inr (.inl wf4100455)))] sz) := by
  refine g_of (by decide) (Nat.le_of_ble_eq_true rfl) ?_
  intro p e s m below meth c ls A hx hb hr hml hown hg hlocks hin hsz hK hP hD hS hA hAe hl
  rw [← hAe]
  replace hown : s.vm.findClass RX8 = some m.cls := hown
  replace hl : lv_has ls 4 [(0, .ref h0), (1, .int 5), (2, .long p1)] := hl
  refine lv_iload_n hx hb dX8_set_0 rfl (lv_at hl 1 rfl) ?_
  refine lv_if_lt (tgt := 20) hx hb dX8_set_1 (by decide) (fun c9 => absurd c9 (by decide +kernel)) (fun _ => ?_)
  refine lv_iload_n hx hb dX8_set_4 rfl (lv_at hl 1 rfl) ?_
  refine lv_aload_n hx hb dX8_set_5 rfl (lv_at hl 0 rfl) ?_
  refine gm_get (D := D) (ci := 8) (v := .ref h2) (C := RX8) (T := TX8) (N := 2) hx hb hg inlX8 hown hK.1 hP 0 rfl rfl 0 (by decide) tX8_0 (hg _ gw_98) rfl dX8_set_6 ?_
  refine va_alen hx hb hK.1 hP 1 1 rfl rfl (v := 200) rfl dX8_set_9 ?_
  refine lv_icmp_ge (tgt := 20) hx hb dX8_set_10 (by decide) (fun c9 => absurd c9 (by decide +kernel)) (fun _ => ?_)
  refine lv_aload_n hx hb dX8_set_13 rfl (lv_at hl 0 rfl) ?_
  refine gm_get (D := D) (ci := 8) (v := .ref h2) (C := RX8) (T := TX8) (N := 2) hx hb hg inlX8 hown hK.1 hP 0 rfl rfl 0 (by decide) tX8_0 (hg _ gw_98) rfl dX8_set_14 ?_
  refine lv_iload_n hx hb dX8_set_17 rfl (lv_at hl 1 rfl) ?_
  refine lv_lload_n hx hb dX8_set_18 rfl (lv_at hl 2 rfl) ?_
  refine va_last hx hb hK.1 hP hD hS 1 1 rfl rfl (by unfold vp_in; decide +kernel) dX8_set_19 ?_
  clear hP hD hS
  refine fun H locs (hP : va_P D vwCl [(h0, .inr (8, [.ref h2, .int wp4100454])), (h2, .inl (y 1, 200, .inr (.inl (vp_updL wf4100455 ((5 : Int32).toNatClampNeg) p1))))] H) (hD : va_D A [(h0, .inr (8, [.ref h2, .int wp4100454])), (h2, .inl (y 1, 200, .inr (.inl (vp_updL wf4100455 ((5 : Int32).toNatClampNeg) p1))))]) hS => ?_
  exact g_vret hx hb hr hlocks () hP hD hS trivial (Nat.le_of_ble_eq_true rfl) (Nat.le_of_ble_eq_true rfl) dX8_set_20
set_option maxRecDepth 100000 in
set_option maxHeartbeats 4000000 in
theorem k_X5_find_15 (l : Launch) (D : va_G) (y : Nat → ClassId) (aS : Nat → Nat) (sz : Nat) (h0 : Nat) (h1 : Nat) (h2 : Nat) (h3 : Nat) (h4 : Nat) (wp4100484 : Int32) (h6 : Nat) (wp4100485 : Int32) : Met l yX5_find (Cond.code yX5_find cX5_find 6 none :: wsL_law) ({ frames := 1, cells := 0, slots := 0, locals := 21 } : Room) (va_Pc [.ref h0, .int 0, .int 5] (gI D y aS [(h0, .inr (5, [.ref h1, .ref h2, .ref h3, .ref h4, .int wp4100484])), (h4, .inr (8, [.ref h6, .int wp4100485])), (h6, .inl (y 1, 3, .inr (.inl (fun _ => 0))))] sz)) (va_Qv (fun (u : Unit) => True) (fun u => gO D (va_A [(h0, .inr (5, [.ref h1, .ref h2, .ref h3, .ref h4, .int wp4100484])), (h4, .inr (8, [.ref h6, .int wp4100485])), (h6, .inl (y 1, 3, .inr (.inl (fun _ => 0))))] sz) [(h0, .inr (5, [.ref h1, .ref h2, .ref h3, .ref h4, .int wp4100484])), (h4, .inr (8, [.ref h6, .int wp4100485])), (h6, .inl (y 1, 3, .inr (.inl (fun _ => 0))))]) (va_A [(h0, .inr (5, [.ref h1, .ref h2, .ref h3, .ref h4, .int wp4100484])), (h4, .inr (8, [.ref h6, .int wp4100485])), (h6, .inl (y 1, 3, .inr (.inl (fun _ => 0))))] sz)) 0 0 (va_A [(h0, .inr (5, [.ref h1, .ref h2, .ref h3, .ref h4, .int wp4100484])), (h4, .inr (8, [.ref h6, .int wp4100485])), (h6, .inl (y 1, 3, .inr (.inl (fun _ => 0))))] sz) := by
  refine g_of (by decide) (Nat.le_of_ble_eq_true rfl) ?_
  intro p e s m below meth c ls A hx hb hr hml hown hg hlocks hin hsz hK hP hD hS hA hAe hl
  rw [← hAe]
  replace hown : s.vm.findClass RX5 = some m.cls := hown
  replace hl : lv_has ls 6 [(0, .ref h0), (1, .int 0), (2, .int 5)] := hl
  refine lv_aload_n hx hb dX5_find_0 rfl (lv_at hl 0 rfl) ?_
  refine gm_get (D := D) (ci := 5) (v := .ref h4) (C := RX5) (T := TX5) (N := 5) hx hb hg inlX5 hown hK.1 hP 0 rfl rfl 3 (by decide) tX5_3 (hg _ gw_141) rfl dX5_find_1 ?_
  refine lv_iload_n hx hb dX5_find_4 rfl (lv_at hl 1 rfl) ?_
  refine g_ai (wr := [(h0, .inr (5, [.ref h1, .ref h2, .ref h3, .ref h4, .int wp4100484]))]) (va_runV (As := [.int 0]) (rest := []) ⟨hx, hb, hml, hown, hg⟩ (k_X8_whole_27 l D y aS s.heap.size h4 h6 wp4100485) (cwV 1 hg ggV_RX5_50_X8_whole rfl rfl rfl (by decide +kernel) ⟨Nat.le_of_ble_eq_true rfl, Nat.le_of_ble_eq_true rfl⟩) (g_preV (q := (RX8, TX8, 2)) hK hP hD [1, 2] rfl (by decide) (ci := 8) (q0 := 1) rfl rfl) rfl rfl hl.1 rfl (lv_room (Nat.le_of_ble_eq_true rfl)) dX5_find_5 ⟨Nat.le_of_ble_eq_true rfl, Nat.le_of_ble_eq_true rfl⟩) hP hD hS hA [1, 2] [0] rfl rfl (by decide) (by decide) ?_
  clear hP hD hS
  refine fun r4100486 u H locs hq hP hD hS => ?_
  subst hq
  replace hP : va_P D vwCl [(h0, .inr (5, [.ref h1, .ref h2, .ref h3, .ref h4, .int wp4100484])), (h4, .inr (8, [.ref h6, .int wp4100485])), (h6, .inl (y 1, 3, .inr (.inl (fun _ => 0))))] H := hP
  replace hD : va_D A [(h0, .inr (5, [.ref h1, .ref h2, .ref h3, .ref h4, .int wp4100484])), (h4, .inr (8, [.ref h6, .int wp4100485])), (h6, .inl (y 1, 3, .inr (.inl (fun _ => 0))))] := hD
  refine lv_istore_n (lv' := [(3, .int 0), (0, .ref h0), (1, .int 0), (2, .int 5)]) hx hb dX5_find_8 rfl hl (by decide) rfl ?_
  clear hl
  clear ls
  intro ls hl
  refine lv_iconst (v := 0) hx hb dX5_find_9 (by decide) ?_
  refine lv_istore (lv' := [(4, .int 0), (3, .int 0), (0, .ref h0), (1, .int 0), (2, .int 5)]) hx hb dX5_find_10 hl (by decide) rfl ?_
  clear hl
  clear ls
  intro ls hl
  refine lv_iload hx hb dX5_find_12 (lv_at hl 0 rfl) ?_
  refine lv_iload_n hx hb dX5_find_14 rfl (lv_at hl 1 rfl) ?_
  refine lv_icmp_ge (tgt := 67) hx hb dX5_find_15 (by decide) (fun _ => ?_) (fun c9 => absurd c9 (by decide +kernel))
  refine lv_iload_n hx hb dX5_find_67 rfl (lv_at hl 1 rfl) ?_
  refine lv_if_le (tgt := 107) hx hb dX5_find_68 (by decide) (fun _ => ?_) (fun c9 => absurd c9 (by decide +kernel))
  refine lv_iload hx hb dX5_find_107 (lv_at hl 0 rfl) ?_
  refine lv_if_le (tgt := 139) hx hb dX5_find_109 (by decide) (fun _ => ?_) (fun c9 => absurd c9 (by decide +kernel))
  exact g_vret hx hb hr hlocks () hP hD hS trivial (Nat.le_of_ble_eq_true rfl) (Nat.le_of_ble_eq_true rfl) dX5_find_139
set_option maxRecDepth 100000 in
set_option maxHeartbeats 4000000 in
theorem k_X5_find_16 (l : Launch) (D : va_G) (y : Nat → ClassId) (aS : Nat → Nat) (sz : Nat) (h0 : Nat) (h1 : Nat) (h2 : Nat) (h3 : Nat) (h4 : Nat) (wp4100489 : Int32) (h6 : Nat) (wp4100490 : Int32) : Met l yX5_find (Cond.code yX5_find cX5_find 6 none :: wsL_law) ({ frames := 1, cells := 0, slots := 0, locals := 21 } : Room) (va_Pc [.ref h0, .int 1, .int 5] (gI D y aS [(h0, .inr (5, [.ref h1, .ref h2, .ref h3, .ref h4, .int wp4100489])), (h4, .inr (8, [.ref h6, .int wp4100490])), (h6, .inl (y 1, 3, .inr (.inl (fun _ => 0))))] sz)) (va_Qv (fun (u : Unit) => True) (fun u => gO D (va_A [(h0, .inr (5, [.ref h1, .ref h2, .ref h3, .ref h4, .int wp4100489])), (h4, .inr (8, [.ref h6, .int wp4100490])), (h6, .inl (y 1, 3, .inr (.inl (fun _ => 0))))] sz) [(h0, .inr (5, [.ref h1, .ref h2, .ref h3, .ref h4, .int wp4100489])), (h4, .inr (8, [.ref h6, .int wp4100490])), (h6, .inl (y 1, 3, .inr (.inl (fun _ => 0))))]) (va_A [(h0, .inr (5, [.ref h1, .ref h2, .ref h3, .ref h4, .int wp4100489])), (h4, .inr (8, [.ref h6, .int wp4100490])), (h6, .inl (y 1, 3, .inr (.inl (fun _ => 0))))] sz)) 0 0 (va_A [(h0, .inr (5, [.ref h1, .ref h2, .ref h3, .ref h4, .int wp4100489])), (h4, .inr (8, [.ref h6, .int wp4100490])), (h6, .inl (y 1, 3, .inr (.inl (fun _ => 0))))] sz) := by
  refine g_of (by decide) (Nat.le_of_ble_eq_true rfl) ?_
  intro p e s m below meth c ls A hx hb hr hml hown hg hlocks hin hsz hK hP hD hS hA hAe hl
  rw [← hAe]
  replace hown : s.vm.findClass RX5 = some m.cls := hown
  replace hl : lv_has ls 6 [(0, .ref h0), (1, .int 1), (2, .int 5)] := hl
  refine lv_aload_n hx hb dX5_find_0 rfl (lv_at hl 0 rfl) ?_
  refine gm_get (D := D) (ci := 5) (v := .ref h4) (C := RX5) (T := TX5) (N := 5) hx hb hg inlX5 hown hK.1 hP 0 rfl rfl 3 (by decide) tX5_3 (hg _ gw_141) rfl dX5_find_1 ?_
  refine lv_iload_n hx hb dX5_find_4 rfl (lv_at hl 1 rfl) ?_
  refine g_ai (wr := [(h0, .inr (5, [.ref h1, .ref h2, .ref h3, .ref h4, .int wp4100489]))]) (va_runV (As := [.int 1]) (rest := []) ⟨hx, hb, hml, hown, hg⟩ (k_X8_whole_28 l D y aS s.heap.size h4 h6 wp4100490) (cwV 1 hg ggV_RX5_50_X8_whole rfl rfl rfl (by decide +kernel) ⟨Nat.le_of_ble_eq_true rfl, Nat.le_of_ble_eq_true rfl⟩) (g_preV (q := (RX8, TX8, 2)) hK hP hD [1, 2] rfl (by decide) (ci := 8) (q0 := 1) rfl rfl) rfl rfl hl.1 rfl (lv_room (Nat.le_of_ble_eq_true rfl)) dX5_find_5 ⟨Nat.le_of_ble_eq_true rfl, Nat.le_of_ble_eq_true rfl⟩) hP hD hS hA [1, 2] [0] rfl rfl (by decide) (by decide) ?_
  clear hP hD hS
  refine fun r4100491 u H locs hq hP hD hS => ?_
  subst hq
  replace hP : va_P D vwCl [(h0, .inr (5, [.ref h1, .ref h2, .ref h3, .ref h4, .int wp4100489])), (h4, .inr (8, [.ref h6, .int wp4100490])), (h6, .inl (y 1, 3, .inr (.inl (fun _ => 0))))] H := hP
  replace hD : va_D A [(h0, .inr (5, [.ref h1, .ref h2, .ref h3, .ref h4, .int wp4100489])), (h4, .inr (8, [.ref h6, .int wp4100490])), (h6, .inl (y 1, 3, .inr (.inl (fun _ => 0))))] := hD
  refine lv_istore_n (lv' := [(3, .int 0), (0, .ref h0), (1, .int 1), (2, .int 5)]) hx hb dX5_find_8 rfl hl (by decide) rfl ?_
  clear hl
  clear ls
  intro ls hl
  refine lv_iconst (v := 0) hx hb dX5_find_9 (by decide) ?_
  refine lv_istore (lv' := [(4, .int 0), (3, .int 0), (0, .ref h0), (1, .int 1), (2, .int 5)]) hx hb dX5_find_10 hl (by decide) rfl ?_
  clear hl
  clear ls
  intro ls hl
  refine lv_iload hx hb dX5_find_12 (lv_at hl 0 rfl) ?_
  refine lv_iload_n hx hb dX5_find_14 rfl (lv_at hl 1 rfl) ?_
  refine lv_icmp_ge (tgt := 67) hx hb dX5_find_15 (by decide) (fun _ => ?_) (fun c9 => absurd c9 (by decide +kernel))
  refine lv_iload_n hx hb dX5_find_67 rfl (lv_at hl 1 rfl) ?_
  refine lv_if_le (tgt := 107) hx hb dX5_find_68 (by decide) (fun _ => ?_) (fun c9 => absurd c9 (by decide +kernel))
  refine lv_iload hx hb dX5_find_107 (lv_at hl 0 rfl) ?_
  refine lv_if_le (tgt := 139) hx hb dX5_find_109 (by decide) (fun _ => ?_) (fun c9 => absurd c9 (by decide +kernel))
  exact g_vret hx hb hr hlocks () hP hD hS trivial (Nat.le_of_ble_eq_true rfl) (Nat.le_of_ble_eq_true rfl) dX5_find_139
set_option maxRecDepth 100000 in
set_option maxHeartbeats 4000000 in
theorem k_X5_find_17 (l : Launch) (D : va_G) (y : Nat → ClassId) (aS : Nat → Nat) (sz : Nat) (h0 : Nat) (h1 : Nat) (h2 : Nat) (h3 : Nat) (h4 : Nat) (wp4100494 : Int32) (h6 : Nat) (wp4100495 : Int32) : Met l yX5_find (Cond.code yX5_find cX5_find 6 none :: wsL_law) ({ frames := 1, cells := 0, slots := 0, locals := 21 } : Room) (va_Pc [.ref h0, .int 2, .int 5] (gI D y aS [(h0, .inr (5, [.ref h1, .ref h2, .ref h3, .ref h4, .int wp4100494])), (h4, .inr (8, [.ref h6, .int wp4100495])), (h6, .inl (y 1, 3, .inr (.inl (fun _ => 0))))] sz)) (va_Qv (fun (u : Unit) => True) (fun u => gO D (va_A [(h0, .inr (5, [.ref h1, .ref h2, .ref h3, .ref h4, .int wp4100494])), (h4, .inr (8, [.ref h6, .int wp4100495])), (h6, .inl (y 1, 3, .inr (.inl (fun _ => 0))))] sz) [(h0, .inr (5, [.ref h1, .ref h2, .ref h3, .ref h4, .int wp4100494])), (h4, .inr (8, [.ref h6, .int wp4100495])), (h6, .inl (y 1, 3, .inr (.inl (fun _ => 0))))]) (va_A [(h0, .inr (5, [.ref h1, .ref h2, .ref h3, .ref h4, .int wp4100494])), (h4, .inr (8, [.ref h6, .int wp4100495])), (h6, .inl (y 1, 3, .inr (.inl (fun _ => 0))))] sz)) 0 0 (va_A [(h0, .inr (5, [.ref h1, .ref h2, .ref h3, .ref h4, .int wp4100494])), (h4, .inr (8, [.ref h6, .int wp4100495])), (h6, .inl (y 1, 3, .inr (.inl (fun _ => 0))))] sz) := by
  refine g_of (by decide) (Nat.le_of_ble_eq_true rfl) ?_
  intro p e s m below meth c ls A hx hb hr hml hown hg hlocks hin hsz hK hP hD hS hA hAe hl
  rw [← hAe]
  replace hown : s.vm.findClass RX5 = some m.cls := hown
  replace hl : lv_has ls 6 [(0, .ref h0), (1, .int 2), (2, .int 5)] := hl
  refine lv_aload_n hx hb dX5_find_0 rfl (lv_at hl 0 rfl) ?_
  refine gm_get (D := D) (ci := 5) (v := .ref h4) (C := RX5) (T := TX5) (N := 5) hx hb hg inlX5 hown hK.1 hP 0 rfl rfl 3 (by decide) tX5_3 (hg _ gw_141) rfl dX5_find_1 ?_
  refine lv_iload_n hx hb dX5_find_4 rfl (lv_at hl 1 rfl) ?_
  refine g_ai (wr := [(h0, .inr (5, [.ref h1, .ref h2, .ref h3, .ref h4, .int wp4100494]))]) (va_runV (As := [.int 2]) (rest := []) ⟨hx, hb, hml, hown, hg⟩ (k_X8_whole_29 l D y aS s.heap.size h4 h6 wp4100495) (cwV 1 hg ggV_RX5_50_X8_whole rfl rfl rfl (by decide +kernel) ⟨Nat.le_of_ble_eq_true rfl, Nat.le_of_ble_eq_true rfl⟩) (g_preV (q := (RX8, TX8, 2)) hK hP hD [1, 2] rfl (by decide) (ci := 8) (q0 := 1) rfl rfl) rfl rfl hl.1 rfl (lv_room (Nat.le_of_ble_eq_true rfl)) dX5_find_5 ⟨Nat.le_of_ble_eq_true rfl, Nat.le_of_ble_eq_true rfl⟩) hP hD hS hA [1, 2] [0] rfl rfl (by decide) (by decide) ?_
  clear hP hD hS
  refine fun r4100496 u H locs hq hP hD hS => ?_
  subst hq
  replace hP : va_P D vwCl [(h0, .inr (5, [.ref h1, .ref h2, .ref h3, .ref h4, .int wp4100494])), (h4, .inr (8, [.ref h6, .int wp4100495])), (h6, .inl (y 1, 3, .inr (.inl (fun _ => 0))))] H := hP
  replace hD : va_D A [(h0, .inr (5, [.ref h1, .ref h2, .ref h3, .ref h4, .int wp4100494])), (h4, .inr (8, [.ref h6, .int wp4100495])), (h6, .inl (y 1, 3, .inr (.inl (fun _ => 0))))] := hD
  refine lv_istore_n (lv' := [(3, .int 0), (0, .ref h0), (1, .int 2), (2, .int 5)]) hx hb dX5_find_8 rfl hl (by decide) rfl ?_
  clear hl
  clear ls
  intro ls hl
  refine lv_iconst (v := 0) hx hb dX5_find_9 (by decide) ?_
  refine lv_istore (lv' := [(4, .int 0), (3, .int 0), (0, .ref h0), (1, .int 2), (2, .int 5)]) hx hb dX5_find_10 hl (by decide) rfl ?_
  clear hl
  clear ls
  intro ls hl
  refine lv_iload hx hb dX5_find_12 (lv_at hl 0 rfl) ?_
  refine lv_iload_n hx hb dX5_find_14 rfl (lv_at hl 1 rfl) ?_
  refine lv_icmp_ge (tgt := 67) hx hb dX5_find_15 (by decide) (fun _ => ?_) (fun c9 => absurd c9 (by decide +kernel))
  refine lv_iload_n hx hb dX5_find_67 rfl (lv_at hl 1 rfl) ?_
  refine lv_if_le (tgt := 107) hx hb dX5_find_68 (by decide) (fun _ => ?_) (fun c9 => absurd c9 (by decide +kernel))
  refine lv_iload hx hb dX5_find_107 (lv_at hl 0 rfl) ?_
  refine lv_if_le (tgt := 139) hx hb dX5_find_109 (by decide) (fun _ => ?_) (fun c9 => absurd c9 (by decide +kernel))
  exact g_vret hx hb hr hlocks () hP hD hS trivial (Nat.le_of_ble_eq_true rfl) (Nat.le_of_ble_eq_true rfl) dX5_find_139
set_option maxRecDepth 100000 in
set_option maxHeartbeats 4000000 in
theorem k_X5_findOut_6 (l : Launch) (D : va_G) (y : Nat → ClassId) (aS : Nat → Nat) (sz : Nat) (h0 : Nat) (h1 : Nat) (h2 : Nat) (h3 : Nat) (h4 : Nat) (wp4100498 : Int32) (h6 : Nat) (h7 : Nat) (wp4100499 : Int32) (wf4100500 : Nat → Int64) (h10 : Nat) (wp4100501 : Int32) : Met l yX5_findOut (Cond.code yX5_findOut cX5_findOut 3 none :: wsL_law) ({ frames := 2, cells := 0, slots := 0, locals := 46 } : Room) (va_Pc [.ref h0] (gI D y aS [(h0, .inr (5, [.ref h1, .ref h2, .ref h3, .ref h4, .int wp4100498])), (h1, .inr (8, [.ref h6, .int 6])), (h2, .inr (8, [.ref h7, .int wp4100499])), (h7, .inl (y 1, 200, .inr (.inl wf4100500))), (h4, .inr (8, [.ref h10, .int wp4100501])), (h10, .inl (y 1, 3, .inr (.inl (fun _ => 0))))] sz)) (va_Qv (fun (u : Unit) => True) (fun u => gO D (va_A [(h0, .inr (5, [.ref h1, .ref h2, .ref h3, .ref h4, .int wp4100498])), (h1, .inr (8, [.ref h6, .int 6])), (h2, .inr (8, [.ref h7, .int wp4100499])), (h7, .inl (y 1, 200, .inr (.inl wf4100500))), (h4, .inr (8, [.ref h10, .int wp4100501])), (h10, .inl (y 1, 3, .inr (.inl (fun _ => 0))))] sz) [(h0, .inr (5, [.ref h1, .ref h2, .ref h3, .ref h4, .int 6])), (h1, .inr (8, [.ref h6, .int 6])), (h2, .inr (8, [.ref h7, .int wp4100499])), (h7, .inl (y 1, 200, .inr (.inl (vp_updL (vp_updL (vp_updL (vp_updL (vp_updL (vp_updL wf4100500 ((0 : Int32).toNatClampNeg) 0) ((1 : Int32).toNatClampNeg) 0) ((2 : Int32).toNatClampNeg) 0) ((3 : Int32).toNatClampNeg) 0) ((4 : Int32).toNatClampNeg) 0) ((5 : Int32).toNatClampNeg) 0)))), (h4, .inr (8, [.ref h10, .int wp4100501])), (h10, .inl (y 1, 3, .inr (.inl (fun _ => 0))))]) (va_A [(h0, .inr (5, [.ref h1, .ref h2, .ref h3, .ref h4, .int wp4100498])), (h1, .inr (8, [.ref h6, .int 6])), (h2, .inr (8, [.ref h7, .int wp4100499])), (h7, .inl (y 1, 200, .inr (.inl wf4100500))), (h4, .inr (8, [.ref h10, .int wp4100501])), (h10, .inl (y 1, 3, .inr (.inl (fun _ => 0))))] sz)) 0 0 (va_A [(h0, .inr (5, [.ref h1, .ref h2, .ref h3, .ref h4, .int wp4100498])), (h1, .inr (8, [.ref h6, .int 6])), (h2, .inr (8, [.ref h7, .int wp4100499])), (h7, .inl (y 1, 200, .inr (.inl wf4100500))), (h4, .inr (8, [.ref h10, .int wp4100501])), (h10, .inl (y 1, 3, .inr (.inl (fun _ => 0))))] sz) := by
  refine g_of (by decide) (Nat.le_of_ble_eq_true rfl) ?_
  intro p e s m below meth c ls A hx hb hr hml hown hg hlocks hin hsz hK hP hD hS hA hAe hl
  rw [← hAe]
  replace hown : s.vm.findClass RX5 = some m.cls := hown
  replace hl : lv_has ls 3 [(0, .ref h0)] := hl
  refine lv_aload_n hx hb dX5_findOut_0 rfl (lv_at hl 0 rfl) ?_
  refine lv_aload_n hx hb dX5_findOut_1 rfl (lv_at hl 0 rfl) ?_
  refine gm_get (D := D) (ci := 5) (v := .ref h1) (C := RX5) (T := TX5) (N := 5) hx hb hg inlX5 hown hK.1 hP 0 rfl rfl 0 (by decide) tX5_0 (hg _ gw_138) rfl dX5_findOut_2 ?_
  refine gm_get (D := D) (ci := 8) (v := .int 6) (C := RX8) (T := TX8) (N := 2) hx hb hg inlX8 hown hK.1 hP 1 rfl rfl 1 (by decide) tX8_1 (hg _ gw_1441) rfl dX5_findOut_5 ?_
  refine gm_put (D := D) (ci := 5) (v := .int 6) (ty := .int) (C := RX5) (T := TX5) (N := 5) hx hb hg inlX5 tyX5 tyX5_ok nmX5 hown hK.1 hP hD hS 0 rfl rfl 4 (by decide) tX5_4 (hg _ gw_1442) (by decide +kernel) rfl rfl (Nat.le_of_ble_eq_true rfl) dX5_findOut_8 ?_
  clear hP hD hS
  refine fun H locs (hP : va_P D vwCl [(h0, .inr (5, [.ref h1, .ref h2, .ref h3, .ref h4, .int 6])), (h1, .inr (8, [.ref h6, .int 6])), (h2, .inr (8, [.ref h7, .int wp4100499])), (h7, .inl (y 1, 200, .inr (.inl wf4100500))), (h4, .inr (8, [.ref h10, .int wp4100501])), (h10, .inl (y 1, 3, .inr (.inl (fun _ => 0))))] H) (hD : va_D A [(h0, .inr (5, [.ref h1, .ref h2, .ref h3, .ref h4, .int 6])), (h1, .inr (8, [.ref h6, .int 6])), (h2, .inr (8, [.ref h7, .int wp4100499])), (h7, .inl (y 1, 200, .inr (.inl wf4100500))), (h4, .inr (8, [.ref h10, .int wp4100501])), (h10, .inl (y 1, 3, .inr (.inl (fun _ => 0))))]) hS => ?_
  refine lv_iconst (v := 0) hx hb dX5_findOut_11 (by decide) ?_
  refine lv_istore_n (lv' := [(1, .int 0), (0, .ref h0)]) hx hb dX5_findOut_12 rfl hl (by decide) rfl ?_
  clear hl
  clear ls
  intro ls hl
  refine lv_iload_n hx hb dX5_findOut_13 rfl (lv_at hl 0 rfl) ?_
  refine lv_aload_n hx hb dX5_findOut_14 rfl (lv_at hl 1 rfl) ?_
  refine gm_get (D := D) (ci := 5) (v := .ref h1) (C := RX5) (T := TX5) (N := 5) hx hb hg inlX5 hown hK.1 hP 0 rfl rfl 0 (by decide) tX5_0 (hg _ gw_138) rfl dX5_findOut_15 ?_
  refine gm_get (D := D) (ci := 8) (v := .int 6) (C := RX8) (T := TX8) (N := 2) hx hb hg inlX8 hown hK.1 hP 1 rfl rfl 1 (by decide) tX8_1 (hg _ gw_1441) rfl dX5_findOut_18 ?_
  refine lv_icmp_ge (tgt := 39) hx hb dX5_findOut_21 (by decide) (fun c9 => absurd c9 (by decide +kernel)) (fun _ => ?_)
  refine lv_aload_n hx hb dX5_findOut_24 rfl (lv_at hl 1 rfl) ?_
  refine gm_get (D := D) (ci := 5) (v := .ref h2) (C := RX5) (T := TX5) (N := 5) hx hb hg inlX5 hown hK.1 hP 0 rfl rfl 1 (by decide) tX5_1 (hg _ gw_139) rfl dX5_findOut_25 ?_
  refine lv_iload_n hx hb dX5_findOut_28 rfl (lv_at hl 0 rfl) ?_
  refine lv_lconst (v := 0) hx hb dX5_findOut_29 (by decide) ?_
  refine g_av (wr := [(h0, .inr (5, [.ref h1, .ref h2, .ref h3, .ref h4, .int 6])), (h1, .inr (8, [.ref h6, .int 6])), (h4, .inr (8, [.ref h10, .int wp4100501])), (h10, .inl (y 1, 3, .inr (.inl (fun _ => 0))))]) (va_runV (As := [.int 0, .long 0]) (rest := []) ⟨hx, hb, hml, hown, hg⟩ (k_X8_set_45 l D y aS H.size h2 0 h7 wp4100499 wf4100500) (cwV 2 hg ggV_RX5_29_X8_set rfl rfl rfl (by decide +kernel) ⟨Nat.le_of_ble_eq_true rfl, Nat.le_of_ble_eq_true rfl⟩) (g_preV (q := (RX8, TX8, 2)) hK hP hD [2, 3] rfl (by decide) (ci := 8) (q0 := 2) rfl rfl) rfl rfl hl.1 rfl (lv_room (Nat.le_of_ble_eq_true rfl)) dX5_findOut_30 ⟨Nat.le_of_ble_eq_true rfl, Nat.le_of_ble_eq_true rfl⟩) hP hD hS hA [2, 3] [0, 1, 4, 5] rfl rfl (by decide) (by decide) ?_
  clear hP hD hS H locs
  refine fun u H locs hq hP hD hS => ?_
  replace hP : va_P D vwCl [(h0, .inr (5, [.ref h1, .ref h2, .ref h3, .ref h4, .int 6])), (h1, .inr (8, [.ref h6, .int 6])), (h4, .inr (8, [.ref h10, .int wp4100501])), (h10, .inl (y 1, 3, .inr (.inl (fun _ => 0)))), (h2, .inr (8, [.ref h7, .int wp4100499])), (h7, .inl (y 1, 200, .inr (.inl (vp_updL wf4100500 ((0 : Int32).toNatClampNeg) 0))))] H := hP
  replace hD : va_D A [(h0, .inr (5, [.ref h1, .ref h2, .ref h3, .ref h4, .int 6])), (h1, .inr (8, [.ref h6, .int 6])), (h4, .inr (8, [.ref h10, .int wp4100501])), (h10, .inl (y 1, 3, .inr (.inl (fun _ => 0)))), (h2, .inr (8, [.ref h7, .int wp4100499])), (h7, .inl (y 1, 200, .inr (.inl (vp_updL wf4100500 ((0 : Int32).toNatClampNeg) 0))))] := hD
  refine lv_iinc (v := 1) (lv' := [(1, .int 1), (0, .ref h0)]) hx hb dX5_findOut_33 hl (k := 0) rfl (by decide +kernel) (by decide) rfl ?_
  clear hl
  clear ls
  intro ls hl
  refine lv_goto (tgt := 13) hx hb dX5_findOut_36 (by decide) ?_
  refine lv_iload_n hx hb dX5_findOut_13 rfl (lv_at hl 0 rfl) ?_
  refine lv_aload_n hx hb dX5_findOut_14 rfl (lv_at hl 1 rfl) ?_
  refine gm_get (D := D) (ci := 5) (v := .ref h1) (C := RX5) (T := TX5) (N := 5) hx hb hg inlX5 hown hK.1 hP 0 rfl rfl 0 (by decide) tX5_0 (hg _ gw_138) rfl dX5_findOut_15 ?_
  refine gm_get (D := D) (ci := 8) (v := .int 6) (C := RX8) (T := TX8) (N := 2) hx hb hg inlX8 hown hK.1 hP 1 rfl rfl 1 (by decide) tX8_1 (hg _ gw_1441) rfl dX5_findOut_18 ?_
  refine lv_icmp_ge (tgt := 39) hx hb dX5_findOut_21 (by decide) (fun c9 => absurd c9 (by decide +kernel)) (fun _ => ?_)
  refine lv_aload_n hx hb dX5_findOut_24 rfl (lv_at hl 1 rfl) ?_
  refine gm_get (D := D) (ci := 5) (v := .ref h2) (C := RX5) (T := TX5) (N := 5) hx hb hg inlX5 hown hK.1 hP 0 rfl rfl 1 (by decide) tX5_1 (hg _ gw_139) rfl dX5_findOut_25 ?_
  refine lv_iload_n hx hb dX5_findOut_28 rfl (lv_at hl 0 rfl) ?_
  refine lv_lconst (v := 0) hx hb dX5_findOut_29 (by decide) ?_
  refine g_av (wr := [(h0, .inr (5, [.ref h1, .ref h2, .ref h3, .ref h4, .int 6])), (h1, .inr (8, [.ref h6, .int 6])), (h4, .inr (8, [.ref h10, .int wp4100501])), (h10, .inl (y 1, 3, .inr (.inl (fun _ => 0))))]) (va_runV (As := [.int 1, .long 0]) (rest := []) ⟨hx, hb, hml, hown, hg⟩ (k_X8_set_46 l D y aS H.size h2 0 h7 wp4100499 (vp_updL wf4100500 ((0 : Int32).toNatClampNeg) 0)) (cwV 2 hg ggV_RX5_29_X8_set rfl rfl rfl (by decide +kernel) ⟨Nat.le_of_ble_eq_true rfl, Nat.le_of_ble_eq_true rfl⟩) (g_preV (q := (RX8, TX8, 2)) hK hP hD [4, 5] rfl (by decide) (ci := 8) (q0 := 4) rfl rfl) rfl rfl hl.1 rfl (lv_room (Nat.le_of_ble_eq_true rfl)) dX5_findOut_30 ⟨Nat.le_of_ble_eq_true rfl, Nat.le_of_ble_eq_true rfl⟩) hP hD hS hA [4, 5] [0, 1, 2, 3] rfl rfl (by decide) (by decide) ?_
  clear hP hD hS H locs
  refine fun u H locs hq hP hD hS => ?_
  replace hP : va_P D vwCl [(h0, .inr (5, [.ref h1, .ref h2, .ref h3, .ref h4, .int 6])), (h1, .inr (8, [.ref h6, .int 6])), (h4, .inr (8, [.ref h10, .int wp4100501])), (h10, .inl (y 1, 3, .inr (.inl (fun _ => 0)))), (h2, .inr (8, [.ref h7, .int wp4100499])), (h7, .inl (y 1, 200, .inr (.inl (vp_updL (vp_updL wf4100500 ((0 : Int32).toNatClampNeg) 0) ((1 : Int32).toNatClampNeg) 0))))] H := hP
  replace hD : va_D A [(h0, .inr (5, [.ref h1, .ref h2, .ref h3, .ref h4, .int 6])), (h1, .inr (8, [.ref h6, .int 6])), (h4, .inr (8, [.ref h10, .int wp4100501])), (h10, .inl (y 1, 3, .inr (.inl (fun _ => 0)))), (h2, .inr (8, [.ref h7, .int wp4100499])), (h7, .inl (y 1, 200, .inr (.inl (vp_updL (vp_updL wf4100500 ((0 : Int32).toNatClampNeg) 0) ((1 : Int32).toNatClampNeg) 0))))] := hD
  refine lv_iinc (v := 2) (lv' := [(1, .int 2), (0, .ref h0)]) hx hb dX5_findOut_33 hl (k := 0) rfl (by decide +kernel) (by decide) rfl ?_
  clear hl
  clear ls
  intro ls hl
  refine lv_goto (tgt := 13) hx hb dX5_findOut_36 (by decide) ?_
  refine lv_iload_n hx hb dX5_findOut_13 rfl (lv_at hl 0 rfl) ?_
  refine lv_aload_n hx hb dX5_findOut_14 rfl (lv_at hl 1 rfl) ?_
  refine gm_get (D := D) (ci := 5) (v := .ref h1) (C := RX5) (T := TX5) (N := 5) hx hb hg inlX5 hown hK.1 hP 0 rfl rfl 0 (by decide) tX5_0 (hg _ gw_138) rfl dX5_findOut_15 ?_
  refine gm_get (D := D) (ci := 8) (v := .int 6) (C := RX8) (T := TX8) (N := 2) hx hb hg inlX8 hown hK.1 hP 1 rfl rfl 1 (by decide) tX8_1 (hg _ gw_1441) rfl dX5_findOut_18 ?_
  refine lv_icmp_ge (tgt := 39) hx hb dX5_findOut_21 (by decide) (fun c9 => absurd c9 (by decide +kernel)) (fun _ => ?_)
  refine lv_aload_n hx hb dX5_findOut_24 rfl (lv_at hl 1 rfl) ?_
  refine gm_get (D := D) (ci := 5) (v := .ref h2) (C := RX5) (T := TX5) (N := 5) hx hb hg inlX5 hown hK.1 hP 0 rfl rfl 1 (by decide) tX5_1 (hg _ gw_139) rfl dX5_findOut_25 ?_
  refine lv_iload_n hx hb dX5_findOut_28 rfl (lv_at hl 0 rfl) ?_
  refine lv_lconst (v := 0) hx hb dX5_findOut_29 (by decide) ?_
  refine g_av (wr := [(h0, .inr (5, [.ref h1, .ref h2, .ref h3, .ref h4, .int 6])), (h1, .inr (8, [.ref h6, .int 6])), (h4, .inr (8, [.ref h10, .int wp4100501])), (h10, .inl (y 1, 3, .inr (.inl (fun _ => 0))))]) (va_runV (As := [.int 2, .long 0]) (rest := []) ⟨hx, hb, hml, hown, hg⟩ (k_X8_set_47 l D y aS H.size h2 0 h7 wp4100499 (vp_updL (vp_updL wf4100500 ((0 : Int32).toNatClampNeg) 0) ((1 : Int32).toNatClampNeg) 0)) (cwV 2 hg ggV_RX5_29_X8_set rfl rfl rfl (by decide +kernel) ⟨Nat.le_of_ble_eq_true rfl, Nat.le_of_ble_eq_true rfl⟩) (g_preV (q := (RX8, TX8, 2)) hK hP hD [4, 5] rfl (by decide) (ci := 8) (q0 := 4) rfl rfl) rfl rfl hl.1 rfl (lv_room (Nat.le_of_ble_eq_true rfl)) dX5_findOut_30 ⟨Nat.le_of_ble_eq_true rfl, Nat.le_of_ble_eq_true rfl⟩) hP hD hS hA [4, 5] [0, 1, 2, 3] rfl rfl (by decide) (by decide) ?_
  clear hP hD hS H locs
  refine fun u H locs hq hP hD hS => ?_
  replace hP : va_P D vwCl [(h0, .inr (5, [.ref h1, .ref h2, .ref h3, .ref h4, .int 6])), (h1, .inr (8, [.ref h6, .int 6])), (h4, .inr (8, [.ref h10, .int wp4100501])), (h10, .inl (y 1, 3, .inr (.inl (fun _ => 0)))), (h2, .inr (8, [.ref h7, .int wp4100499])), (h7, .inl (y 1, 200, .inr (.inl (vp_updL (vp_updL (vp_updL wf4100500 ((0 : Int32).toNatClampNeg) 0) ((1 : Int32).toNatClampNeg) 0) ((2 : Int32).toNatClampNeg) 0))))] H := hP
  replace hD : va_D A [(h0, .inr (5, [.ref h1, .ref h2, .ref h3, .ref h4, .int 6])), (h1, .inr (8, [.ref h6, .int 6])), (h4, .inr (8, [.ref h10, .int wp4100501])), (h10, .inl (y 1, 3, .inr (.inl (fun _ => 0)))), (h2, .inr (8, [.ref h7, .int wp4100499])), (h7, .inl (y 1, 200, .inr (.inl (vp_updL (vp_updL (vp_updL wf4100500 ((0 : Int32).toNatClampNeg) 0) ((1 : Int32).toNatClampNeg) 0) ((2 : Int32).toNatClampNeg) 0))))] := hD
  refine lv_iinc (v := 3) (lv' := [(1, .int 3), (0, .ref h0)]) hx hb dX5_findOut_33 hl (k := 0) rfl (by decide +kernel) (by decide) rfl ?_
  clear hl
  clear ls
  intro ls hl
  refine lv_goto (tgt := 13) hx hb dX5_findOut_36 (by decide) ?_
  refine lv_iload_n hx hb dX5_findOut_13 rfl (lv_at hl 0 rfl) ?_
  refine lv_aload_n hx hb dX5_findOut_14 rfl (lv_at hl 1 rfl) ?_
  refine gm_get (D := D) (ci := 5) (v := .ref h1) (C := RX5) (T := TX5) (N := 5) hx hb hg inlX5 hown hK.1 hP 0 rfl rfl 0 (by decide) tX5_0 (hg _ gw_138) rfl dX5_findOut_15 ?_
  refine gm_get (D := D) (ci := 8) (v := .int 6) (C := RX8) (T := TX8) (N := 2) hx hb hg inlX8 hown hK.1 hP 1 rfl rfl 1 (by decide) tX8_1 (hg _ gw_1441) rfl dX5_findOut_18 ?_
  refine lv_icmp_ge (tgt := 39) hx hb dX5_findOut_21 (by decide) (fun c9 => absurd c9 (by decide +kernel)) (fun _ => ?_)
  refine lv_aload_n hx hb dX5_findOut_24 rfl (lv_at hl 1 rfl) ?_
  refine gm_get (D := D) (ci := 5) (v := .ref h2) (C := RX5) (T := TX5) (N := 5) hx hb hg inlX5 hown hK.1 hP 0 rfl rfl 1 (by decide) tX5_1 (hg _ gw_139) rfl dX5_findOut_25 ?_
  refine lv_iload_n hx hb dX5_findOut_28 rfl (lv_at hl 0 rfl) ?_
  refine lv_lconst (v := 0) hx hb dX5_findOut_29 (by decide) ?_
  refine g_av (wr := [(h0, .inr (5, [.ref h1, .ref h2, .ref h3, .ref h4, .int 6])), (h1, .inr (8, [.ref h6, .int 6])), (h4, .inr (8, [.ref h10, .int wp4100501])), (h10, .inl (y 1, 3, .inr (.inl (fun _ => 0))))]) (va_runV (As := [.int 3, .long 0]) (rest := []) ⟨hx, hb, hml, hown, hg⟩ (k_X8_set_48 l D y aS H.size h2 0 h7 wp4100499 (vp_updL (vp_updL (vp_updL wf4100500 ((0 : Int32).toNatClampNeg) 0) ((1 : Int32).toNatClampNeg) 0) ((2 : Int32).toNatClampNeg) 0)) (cwV 2 hg ggV_RX5_29_X8_set rfl rfl rfl (by decide +kernel) ⟨Nat.le_of_ble_eq_true rfl, Nat.le_of_ble_eq_true rfl⟩) (g_preV (q := (RX8, TX8, 2)) hK hP hD [4, 5] rfl (by decide) (ci := 8) (q0 := 4) rfl rfl) rfl rfl hl.1 rfl (lv_room (Nat.le_of_ble_eq_true rfl)) dX5_findOut_30 ⟨Nat.le_of_ble_eq_true rfl, Nat.le_of_ble_eq_true rfl⟩) hP hD hS hA [4, 5] [0, 1, 2, 3] rfl rfl (by decide) (by decide) ?_
  clear hP hD hS H locs
  refine fun u H locs hq hP hD hS => ?_
  replace hP : va_P D vwCl [(h0, .inr (5, [.ref h1, .ref h2, .ref h3, .ref h4, .int 6])), (h1, .inr (8, [.ref h6, .int 6])), (h4, .inr (8, [.ref h10, .int wp4100501])), (h10, .inl (y 1, 3, .inr (.inl (fun _ => 0)))), (h2, .inr (8, [.ref h7, .int wp4100499])), (h7, .inl (y 1, 200, .inr (.inl (vp_updL (vp_updL (vp_updL (vp_updL wf4100500 ((0 : Int32).toNatClampNeg) 0) ((1 : Int32).toNatClampNeg) 0) ((2 : Int32).toNatClampNeg) 0) ((3 : Int32).toNatClampNeg) 0))))] H := hP
  replace hD : va_D A [(h0, .inr (5, [.ref h1, .ref h2, .ref h3, .ref h4, .int 6])), (h1, .inr (8, [.ref h6, .int 6])), (h4, .inr (8, [.ref h10, .int wp4100501])), (h10, .inl (y 1, 3, .inr (.inl (fun _ => 0)))), (h2, .inr (8, [.ref h7, .int wp4100499])), (h7, .inl (y 1, 200, .inr (.inl (vp_updL (vp_updL (vp_updL (vp_updL wf4100500 ((0 : Int32).toNatClampNeg) 0) ((1 : Int32).toNatClampNeg) 0) ((2 : Int32).toNatClampNeg) 0) ((3 : Int32).toNatClampNeg) 0))))] := hD
  refine lv_iinc (v := 4) (lv' := [(1, .int 4), (0, .ref h0)]) hx hb dX5_findOut_33 hl (k := 0) rfl (by decide +kernel) (by decide) rfl ?_
  clear hl
  clear ls
  intro ls hl
  refine lv_goto (tgt := 13) hx hb dX5_findOut_36 (by decide) ?_
  refine lv_iload_n hx hb dX5_findOut_13 rfl (lv_at hl 0 rfl) ?_
  refine lv_aload_n hx hb dX5_findOut_14 rfl (lv_at hl 1 rfl) ?_
  refine gm_get (D := D) (ci := 5) (v := .ref h1) (C := RX5) (T := TX5) (N := 5) hx hb hg inlX5 hown hK.1 hP 0 rfl rfl 0 (by decide) tX5_0 (hg _ gw_138) rfl dX5_findOut_15 ?_
  refine gm_get (D := D) (ci := 8) (v := .int 6) (C := RX8) (T := TX8) (N := 2) hx hb hg inlX8 hown hK.1 hP 1 rfl rfl 1 (by decide) tX8_1 (hg _ gw_1441) rfl dX5_findOut_18 ?_
  refine lv_icmp_ge (tgt := 39) hx hb dX5_findOut_21 (by decide) (fun c9 => absurd c9 (by decide +kernel)) (fun _ => ?_)
  refine lv_aload_n hx hb dX5_findOut_24 rfl (lv_at hl 1 rfl) ?_
  refine gm_get (D := D) (ci := 5) (v := .ref h2) (C := RX5) (T := TX5) (N := 5) hx hb hg inlX5 hown hK.1 hP 0 rfl rfl 1 (by decide) tX5_1 (hg _ gw_139) rfl dX5_findOut_25 ?_
  refine lv_iload_n hx hb dX5_findOut_28 rfl (lv_at hl 0 rfl) ?_
  refine lv_lconst (v := 0) hx hb dX5_findOut_29 (by decide) ?_
  refine g_av (wr := [(h0, .inr (5, [.ref h1, .ref h2, .ref h3, .ref h4, .int 6])), (h1, .inr (8, [.ref h6, .int 6])), (h4, .inr (8, [.ref h10, .int wp4100501])), (h10, .inl (y 1, 3, .inr (.inl (fun _ => 0))))]) (va_runV (As := [.int 4, .long 0]) (rest := []) ⟨hx, hb, hml, hown, hg⟩ (k_X8_set_49 l D y aS H.size h2 0 h7 wp4100499 (vp_updL (vp_updL (vp_updL (vp_updL wf4100500 ((0 : Int32).toNatClampNeg) 0) ((1 : Int32).toNatClampNeg) 0) ((2 : Int32).toNatClampNeg) 0) ((3 : Int32).toNatClampNeg) 0)) (cwV 2 hg ggV_RX5_29_X8_set rfl rfl rfl (by decide +kernel) ⟨Nat.le_of_ble_eq_true rfl, Nat.le_of_ble_eq_true rfl⟩) (g_preV (q := (RX8, TX8, 2)) hK hP hD [4, 5] rfl (by decide) (ci := 8) (q0 := 4) rfl rfl) rfl rfl hl.1 rfl (lv_room (Nat.le_of_ble_eq_true rfl)) dX5_findOut_30 ⟨Nat.le_of_ble_eq_true rfl, Nat.le_of_ble_eq_true rfl⟩) hP hD hS hA [4, 5] [0, 1, 2, 3] rfl rfl (by decide) (by decide) ?_
  clear hP hD hS H locs
  refine fun u H locs hq hP hD hS => ?_
  replace hP : va_P D vwCl [(h0, .inr (5, [.ref h1, .ref h2, .ref h3, .ref h4, .int 6])), (h1, .inr (8, [.ref h6, .int 6])), (h4, .inr (8, [.ref h10, .int wp4100501])), (h10, .inl (y 1, 3, .inr (.inl (fun _ => 0)))), (h2, .inr (8, [.ref h7, .int wp4100499])), (h7, .inl (y 1, 200, .inr (.inl (vp_updL (vp_updL (vp_updL (vp_updL (vp_updL wf4100500 ((0 : Int32).toNatClampNeg) 0) ((1 : Int32).toNatClampNeg) 0) ((2 : Int32).toNatClampNeg) 0) ((3 : Int32).toNatClampNeg) 0) ((4 : Int32).toNatClampNeg) 0))))] H := hP
  replace hD : va_D A [(h0, .inr (5, [.ref h1, .ref h2, .ref h3, .ref h4, .int 6])), (h1, .inr (8, [.ref h6, .int 6])), (h4, .inr (8, [.ref h10, .int wp4100501])), (h10, .inl (y 1, 3, .inr (.inl (fun _ => 0)))), (h2, .inr (8, [.ref h7, .int wp4100499])), (h7, .inl (y 1, 200, .inr (.inl (vp_updL (vp_updL (vp_updL (vp_updL (vp_updL wf4100500 ((0 : Int32).toNatClampNeg) 0) ((1 : Int32).toNatClampNeg) 0) ((2 : Int32).toNatClampNeg) 0) ((3 : Int32).toNatClampNeg) 0) ((4 : Int32).toNatClampNeg) 0))))] := hD
  refine lv_iinc (v := 5) (lv' := [(1, .int 5), (0, .ref h0)]) hx hb dX5_findOut_33 hl (k := 0) rfl (by decide +kernel) (by decide) rfl ?_
  clear hl
  clear ls
  intro ls hl
  refine lv_goto (tgt := 13) hx hb dX5_findOut_36 (by decide) ?_
  refine lv_iload_n hx hb dX5_findOut_13 rfl (lv_at hl 0 rfl) ?_
  refine lv_aload_n hx hb dX5_findOut_14 rfl (lv_at hl 1 rfl) ?_
  refine gm_get (D := D) (ci := 5) (v := .ref h1) (C := RX5) (T := TX5) (N := 5) hx hb hg inlX5 hown hK.1 hP 0 rfl rfl 0 (by decide) tX5_0 (hg _ gw_138) rfl dX5_findOut_15 ?_
  refine gm_get (D := D) (ci := 8) (v := .int 6) (C := RX8) (T := TX8) (N := 2) hx hb hg inlX8 hown hK.1 hP 1 rfl rfl 1 (by decide) tX8_1 (hg _ gw_1441) rfl dX5_findOut_18 ?_
  refine lv_icmp_ge (tgt := 39) hx hb dX5_findOut_21 (by decide) (fun c9 => absurd c9 (by decide +kernel)) (fun _ => ?_)
  refine lv_aload_n hx hb dX5_findOut_24 rfl (lv_at hl 1 rfl) ?_
  refine gm_get (D := D) (ci := 5) (v := .ref h2) (C := RX5) (T := TX5) (N := 5) hx hb hg inlX5 hown hK.1 hP 0 rfl rfl 1 (by decide) tX5_1 (hg _ gw_139) rfl dX5_findOut_25 ?_
  refine lv_iload_n hx hb dX5_findOut_28 rfl (lv_at hl 0 rfl) ?_
  refine lv_lconst (v := 0) hx hb dX5_findOut_29 (by decide) ?_
  refine g_av (wr := [(h0, .inr (5, [.ref h1, .ref h2, .ref h3, .ref h4, .int 6])), (h1, .inr (8, [.ref h6, .int 6])), (h4, .inr (8, [.ref h10, .int wp4100501])), (h10, .inl (y 1, 3, .inr (.inl (fun _ => 0))))]) (va_runV (As := [.int 5, .long 0]) (rest := []) ⟨hx, hb, hml, hown, hg⟩ (k_X8_set_50 l D y aS H.size h2 0 h7 wp4100499 (vp_updL (vp_updL (vp_updL (vp_updL (vp_updL wf4100500 ((0 : Int32).toNatClampNeg) 0) ((1 : Int32).toNatClampNeg) 0) ((2 : Int32).toNatClampNeg) 0) ((3 : Int32).toNatClampNeg) 0) ((4 : Int32).toNatClampNeg) 0)) (cwV 2 hg ggV_RX5_29_X8_set rfl rfl rfl (by decide +kernel) ⟨Nat.le_of_ble_eq_true rfl, Nat.le_of_ble_eq_true rfl⟩) (g_preV (q := (RX8, TX8, 2)) hK hP hD [4, 5] rfl (by decide) (ci := 8) (q0 := 4) rfl rfl) rfl rfl hl.1 rfl (lv_room (Nat.le_of_ble_eq_true rfl)) dX5_findOut_30 ⟨Nat.le_of_ble_eq_true rfl, Nat.le_of_ble_eq_true rfl⟩) hP hD hS hA [4, 5] [0, 1, 2, 3] rfl rfl (by decide) (by decide) ?_
  clear hP hD hS H locs
  refine fun u H locs hq hP hD hS => ?_
  replace hP : va_P D vwCl [(h0, .inr (5, [.ref h1, .ref h2, .ref h3, .ref h4, .int 6])), (h1, .inr (8, [.ref h6, .int 6])), (h4, .inr (8, [.ref h10, .int wp4100501])), (h10, .inl (y 1, 3, .inr (.inl (fun _ => 0)))), (h2, .inr (8, [.ref h7, .int wp4100499])), (h7, .inl (y 1, 200, .inr (.inl (vp_updL (vp_updL (vp_updL (vp_updL (vp_updL (vp_updL wf4100500 ((0 : Int32).toNatClampNeg) 0) ((1 : Int32).toNatClampNeg) 0) ((2 : Int32).toNatClampNeg) 0) ((3 : Int32).toNatClampNeg) 0) ((4 : Int32).toNatClampNeg) 0) ((5 : Int32).toNatClampNeg) 0))))] H := hP
  replace hD : va_D A [(h0, .inr (5, [.ref h1, .ref h2, .ref h3, .ref h4, .int 6])), (h1, .inr (8, [.ref h6, .int 6])), (h4, .inr (8, [.ref h10, .int wp4100501])), (h10, .inl (y 1, 3, .inr (.inl (fun _ => 0)))), (h2, .inr (8, [.ref h7, .int wp4100499])), (h7, .inl (y 1, 200, .inr (.inl (vp_updL (vp_updL (vp_updL (vp_updL (vp_updL (vp_updL wf4100500 ((0 : Int32).toNatClampNeg) 0) ((1 : Int32).toNatClampNeg) 0) ((2 : Int32).toNatClampNeg) 0) ((3 : Int32).toNatClampNeg) 0) ((4 : Int32).toNatClampNeg) 0) ((5 : Int32).toNatClampNeg) 0))))] := hD
  refine lv_iinc (v := 6) (lv' := [(1, .int 6), (0, .ref h0)]) hx hb dX5_findOut_33 hl (k := 0) rfl (by decide +kernel) (by decide) rfl ?_
  clear hl
  clear ls
  intro ls hl
  refine lv_goto (tgt := 13) hx hb dX5_findOut_36 (by decide) ?_
  refine lv_iload_n hx hb dX5_findOut_13 rfl (lv_at hl 0 rfl) ?_
  refine lv_aload_n hx hb dX5_findOut_14 rfl (lv_at hl 1 rfl) ?_
  refine gm_get (D := D) (ci := 5) (v := .ref h1) (C := RX5) (T := TX5) (N := 5) hx hb hg inlX5 hown hK.1 hP 0 rfl rfl 0 (by decide) tX5_0 (hg _ gw_138) rfl dX5_findOut_15 ?_
  refine gm_get (D := D) (ci := 8) (v := .int 6) (C := RX8) (T := TX8) (N := 2) hx hb hg inlX8 hown hK.1 hP 1 rfl rfl 1 (by decide) tX8_1 (hg _ gw_1441) rfl dX5_findOut_18 ?_
  refine lv_icmp_ge (tgt := 39) hx hb dX5_findOut_21 (by decide) (fun _ => ?_) (fun c9 => absurd c9 (by decide +kernel))
  refine lv_iconst (v := 0) hx hb dX5_findOut_39 (by decide) ?_
  refine lv_istore_n (lv' := [(1, .int 0), (0, .ref h0)]) hx hb dX5_findOut_40 rfl hl (by decide) rfl ?_
  clear hl
  clear ls
  intro ls hl
  refine lv_iload_n hx hb dX5_findOut_41 rfl (lv_at hl 0 rfl) ?_
  refine lv_aload_n hx hb dX5_findOut_42 rfl (lv_at hl 1 rfl) ?_
  refine gm_get (D := D) (ci := 5) (v := .ref h1) (C := RX5) (T := TX5) (N := 5) hx hb hg inlX5 hown hK.1 hP 0 rfl rfl 0 (by decide) tX5_0 (hg _ gw_138) rfl dX5_findOut_43 ?_
  refine gm_get (D := D) (ci := 8) (v := .int 6) (C := RX8) (T := TX8) (N := 2) hx hb hg inlX8 hown hK.1 hP 1 rfl rfl 1 (by decide) tX8_1 (hg _ gw_1441) rfl dX5_findOut_46 ?_
  refine lv_icmp_ge (tgt := 77) hx hb dX5_findOut_49 (by decide) (fun c9 => absurd c9 (by decide +kernel)) (fun _ => ?_)
  refine lv_iconst (v := 0) hx hb dX5_findOut_52 (by decide) ?_
  refine lv_istore_n (lv' := [(2, .int 0), (1, .int 0), (0, .ref h0)]) hx hb dX5_findOut_53 rfl hl (by decide) rfl ?_
  clear hl
  clear ls
  intro ls hl
  refine lv_iload_n hx hb dX5_findOut_54 rfl (lv_at hl 0 rfl) ?_
  refine lv_iconst (v := 3) hx hb dX5_findOut_55 (by decide) ?_
  refine lv_icmp_ge (tgt := 71) hx hb dX5_findOut_56 (by decide) (fun c9 => absurd c9 (by decide +kernel)) (fun _ => ?_)
  refine lv_aload_n hx hb dX5_findOut_59 rfl (lv_at hl 2 rfl) ?_
  refine lv_iload_n hx hb dX5_findOut_60 rfl (lv_at hl 0 rfl) ?_
  refine lv_iload_n hx hb dX5_findOut_61 rfl (lv_at hl 1 rfl) ?_
  refine g_av (wr := [(h1, .inr (8, [.ref h6, .int 6])), (h2, .inr (8, [.ref h7, .int wp4100499])), (h7, .inl (y 1, 200, .inr (.inl (vp_updL (vp_updL (vp_updL (vp_updL (vp_updL (vp_updL wf4100500 ((0 : Int32).toNatClampNeg) 0) ((1 : Int32).toNatClampNeg) 0) ((2 : Int32).toNatClampNeg) 0) ((3 : Int32).toNatClampNeg) 0) ((4 : Int32).toNatClampNeg) 0) ((5 : Int32).toNatClampNeg) 0))))]) (va_runV (As := [.int 0, .int 0]) (rest := []) ⟨hx, hb, hml, hown, hg⟩ (k_X5_find_0 l D y aS H.size h0 h1 h2 h3 h4 6 h10 wp4100501) (cwV 2 hg ggV_RX5_54_X5_find rfl rfl rfl (by decide +kernel) ⟨Nat.le_of_ble_eq_true rfl, Nat.le_of_ble_eq_true rfl⟩) (g_preV (q := (RX5, TX5, 5)) hK hP hD [0, 2, 3] rfl (by decide) (ci := 5) (q0 := 0) rfl rfl) rfl rfl hl.1 rfl (lv_room (Nat.le_of_ble_eq_true rfl)) dX5_findOut_62 ⟨Nat.le_of_ble_eq_true rfl, Nat.le_of_ble_eq_true rfl⟩) hP hD hS hA [0, 2, 3] [1, 4, 5] rfl rfl (by decide) (by decide) ?_
  clear hP hD hS H locs
  refine fun u H locs hq hP hD hS => ?_
  replace hP : va_P D vwCl [(h1, .inr (8, [.ref h6, .int 6])), (h2, .inr (8, [.ref h7, .int wp4100499])), (h7, .inl (y 1, 200, .inr (.inl (vp_updL (vp_updL (vp_updL (vp_updL (vp_updL (vp_updL wf4100500 ((0 : Int32).toNatClampNeg) 0) ((1 : Int32).toNatClampNeg) 0) ((2 : Int32).toNatClampNeg) 0) ((3 : Int32).toNatClampNeg) 0) ((4 : Int32).toNatClampNeg) 0) ((5 : Int32).toNatClampNeg) 0)))), (h0, .inr (5, [.ref h1, .ref h2, .ref h3, .ref h4, .int 6])), (h4, .inr (8, [.ref h10, .int wp4100501])), (h10, .inl (y 1, 3, .inr (.inl (fun _ => 0))))] H := hP
  replace hD : va_D A [(h1, .inr (8, [.ref h6, .int 6])), (h2, .inr (8, [.ref h7, .int wp4100499])), (h7, .inl (y 1, 200, .inr (.inl (vp_updL (vp_updL (vp_updL (vp_updL (vp_updL (vp_updL wf4100500 ((0 : Int32).toNatClampNeg) 0) ((1 : Int32).toNatClampNeg) 0) ((2 : Int32).toNatClampNeg) 0) ((3 : Int32).toNatClampNeg) 0) ((4 : Int32).toNatClampNeg) 0) ((5 : Int32).toNatClampNeg) 0)))), (h0, .inr (5, [.ref h1, .ref h2, .ref h3, .ref h4, .int 6])), (h4, .inr (8, [.ref h10, .int wp4100501])), (h10, .inl (y 1, 3, .inr (.inl (fun _ => 0))))] := hD
  refine lv_iinc (v := 1) (lv' := [(2, .int 1), (1, .int 0), (0, .ref h0)]) hx hb dX5_findOut_65 hl (k := 0) rfl (by decide +kernel) (by decide) rfl ?_
  clear hl
  clear ls
  intro ls hl
  refine lv_goto (tgt := 54) hx hb dX5_findOut_68 (by decide) ?_
  refine lv_iload_n hx hb dX5_findOut_54 rfl (lv_at hl 0 rfl) ?_
  refine lv_iconst (v := 3) hx hb dX5_findOut_55 (by decide) ?_
  refine lv_icmp_ge (tgt := 71) hx hb dX5_findOut_56 (by decide) (fun c9 => absurd c9 (by decide +kernel)) (fun _ => ?_)
  refine lv_aload_n hx hb dX5_findOut_59 rfl (lv_at hl 2 rfl) ?_
  refine lv_iload_n hx hb dX5_findOut_60 rfl (lv_at hl 0 rfl) ?_
  refine lv_iload_n hx hb dX5_findOut_61 rfl (lv_at hl 1 rfl) ?_
  refine g_av (wr := [(h1, .inr (8, [.ref h6, .int 6])), (h2, .inr (8, [.ref h7, .int wp4100499])), (h7, .inl (y 1, 200, .inr (.inl (vp_updL (vp_updL (vp_updL (vp_updL (vp_updL (vp_updL wf4100500 ((0 : Int32).toNatClampNeg) 0) ((1 : Int32).toNatClampNeg) 0) ((2 : Int32).toNatClampNeg) 0) ((3 : Int32).toNatClampNeg) 0) ((4 : Int32).toNatClampNeg) 0) ((5 : Int32).toNatClampNeg) 0))))]) (va_runV (As := [.int 1, .int 0]) (rest := []) ⟨hx, hb, hml, hown, hg⟩ (k_X5_find_1 l D y aS H.size h0 h1 h2 h3 h4 6 h10 wp4100501) (cwV 2 hg ggV_RX5_54_X5_find rfl rfl rfl (by decide +kernel) ⟨Nat.le_of_ble_eq_true rfl, Nat.le_of_ble_eq_true rfl⟩) (g_preV (q := (RX5, TX5, 5)) hK hP hD [3, 4, 5] rfl (by decide) (ci := 5) (q0 := 3) rfl rfl) rfl rfl hl.1 rfl (lv_room (Nat.le_of_ble_eq_true rfl)) dX5_findOut_62 ⟨Nat.le_of_ble_eq_true rfl, Nat.le_of_ble_eq_true rfl⟩) hP hD hS hA [3, 4, 5] [0, 1, 2] rfl rfl (by decide) (by decide) ?_
  clear hP hD hS H locs
  refine fun u H locs hq hP hD hS => ?_
  replace hP : va_P D vwCl [(h1, .inr (8, [.ref h6, .int 6])), (h2, .inr (8, [.ref h7, .int wp4100499])), (h7, .inl (y 1, 200, .inr (.inl (vp_updL (vp_updL (vp_updL (vp_updL (vp_updL (vp_updL wf4100500 ((0 : Int32).toNatClampNeg) 0) ((1 : Int32).toNatClampNeg) 0) ((2 : Int32).toNatClampNeg) 0) ((3 : Int32).toNatClampNeg) 0) ((4 : Int32).toNatClampNeg) 0) ((5 : Int32).toNatClampNeg) 0)))), (h0, .inr (5, [.ref h1, .ref h2, .ref h3, .ref h4, .int 6])), (h4, .inr (8, [.ref h10, .int wp4100501])), (h10, .inl (y 1, 3, .inr (.inl (fun _ => 0))))] H := hP
  replace hD : va_D A [(h1, .inr (8, [.ref h6, .int 6])), (h2, .inr (8, [.ref h7, .int wp4100499])), (h7, .inl (y 1, 200, .inr (.inl (vp_updL (vp_updL (vp_updL (vp_updL (vp_updL (vp_updL wf4100500 ((0 : Int32).toNatClampNeg) 0) ((1 : Int32).toNatClampNeg) 0) ((2 : Int32).toNatClampNeg) 0) ((3 : Int32).toNatClampNeg) 0) ((4 : Int32).toNatClampNeg) 0) ((5 : Int32).toNatClampNeg) 0)))), (h0, .inr (5, [.ref h1, .ref h2, .ref h3, .ref h4, .int 6])), (h4, .inr (8, [.ref h10, .int wp4100501])), (h10, .inl (y 1, 3, .inr (.inl (fun _ => 0))))] := hD
  refine lv_iinc (v := 2) (lv' := [(2, .int 2), (1, .int 0), (0, .ref h0)]) hx hb dX5_findOut_65 hl (k := 0) rfl (by decide +kernel) (by decide) rfl ?_
  clear hl
  clear ls
  intro ls hl
  refine lv_goto (tgt := 54) hx hb dX5_findOut_68 (by decide) ?_
  refine lv_iload_n hx hb dX5_findOut_54 rfl (lv_at hl 0 rfl) ?_
  refine lv_iconst (v := 3) hx hb dX5_findOut_55 (by decide) ?_
  refine lv_icmp_ge (tgt := 71) hx hb dX5_findOut_56 (by decide) (fun c9 => absurd c9 (by decide +kernel)) (fun _ => ?_)
  refine lv_aload_n hx hb dX5_findOut_59 rfl (lv_at hl 2 rfl) ?_
  refine lv_iload_n hx hb dX5_findOut_60 rfl (lv_at hl 0 rfl) ?_
  refine lv_iload_n hx hb dX5_findOut_61 rfl (lv_at hl 1 rfl) ?_
  refine g_av (wr := [(h1, .inr (8, [.ref h6, .int 6])), (h2, .inr (8, [.ref h7, .int wp4100499])), (h7, .inl (y 1, 200, .inr (.inl (vp_updL (vp_updL (vp_updL (vp_updL (vp_updL (vp_updL wf4100500 ((0 : Int32).toNatClampNeg) 0) ((1 : Int32).toNatClampNeg) 0) ((2 : Int32).toNatClampNeg) 0) ((3 : Int32).toNatClampNeg) 0) ((4 : Int32).toNatClampNeg) 0) ((5 : Int32).toNatClampNeg) 0))))]) (va_runV (As := [.int 2, .int 0]) (rest := []) ⟨hx, hb, hml, hown, hg⟩ (k_X5_find_2 l D y aS H.size h0 h1 h2 h3 h4 6 h10 wp4100501) (cwV 2 hg ggV_RX5_54_X5_find rfl rfl rfl (by decide +kernel) ⟨Nat.le_of_ble_eq_true rfl, Nat.le_of_ble_eq_true rfl⟩) (g_preV (q := (RX5, TX5, 5)) hK hP hD [3, 4, 5] rfl (by decide) (ci := 5) (q0 := 3) rfl rfl) rfl rfl hl.1 rfl (lv_room (Nat.le_of_ble_eq_true rfl)) dX5_findOut_62 ⟨Nat.le_of_ble_eq_true rfl, Nat.le_of_ble_eq_true rfl⟩) hP hD hS hA [3, 4, 5] [0, 1, 2] rfl rfl (by decide) (by decide) ?_
  clear hP hD hS H locs
  refine fun u H locs hq hP hD hS => ?_
  replace hP : va_P D vwCl [(h1, .inr (8, [.ref h6, .int 6])), (h2, .inr (8, [.ref h7, .int wp4100499])), (h7, .inl (y 1, 200, .inr (.inl (vp_updL (vp_updL (vp_updL (vp_updL (vp_updL (vp_updL wf4100500 ((0 : Int32).toNatClampNeg) 0) ((1 : Int32).toNatClampNeg) 0) ((2 : Int32).toNatClampNeg) 0) ((3 : Int32).toNatClampNeg) 0) ((4 : Int32).toNatClampNeg) 0) ((5 : Int32).toNatClampNeg) 0)))), (h0, .inr (5, [.ref h1, .ref h2, .ref h3, .ref h4, .int 6])), (h4, .inr (8, [.ref h10, .int wp4100501])), (h10, .inl (y 1, 3, .inr (.inl (fun _ => 0))))] H := hP
  replace hD : va_D A [(h1, .inr (8, [.ref h6, .int 6])), (h2, .inr (8, [.ref h7, .int wp4100499])), (h7, .inl (y 1, 200, .inr (.inl (vp_updL (vp_updL (vp_updL (vp_updL (vp_updL (vp_updL wf4100500 ((0 : Int32).toNatClampNeg) 0) ((1 : Int32).toNatClampNeg) 0) ((2 : Int32).toNatClampNeg) 0) ((3 : Int32).toNatClampNeg) 0) ((4 : Int32).toNatClampNeg) 0) ((5 : Int32).toNatClampNeg) 0)))), (h0, .inr (5, [.ref h1, .ref h2, .ref h3, .ref h4, .int 6])), (h4, .inr (8, [.ref h10, .int wp4100501])), (h10, .inl (y 1, 3, .inr (.inl (fun _ => 0))))] := hD
  refine lv_iinc (v := 3) (lv' := [(2, .int 3), (1, .int 0), (0, .ref h0)]) hx hb dX5_findOut_65 hl (k := 0) rfl (by decide +kernel) (by decide) rfl ?_
  clear hl
  clear ls
  intro ls hl
  refine lv_goto (tgt := 54) hx hb dX5_findOut_68 (by decide) ?_
  refine lv_iload_n hx hb dX5_findOut_54 rfl (lv_at hl 0 rfl) ?_
  refine lv_iconst (v := 3) hx hb dX5_findOut_55 (by decide) ?_
  refine lv_icmp_ge (tgt := 71) hx hb dX5_findOut_56 (by decide) (fun _ => ?_) (fun c9 => absurd c9 (by decide +kernel))
  refine lv_iinc (v := 1) (lv' := [(1, .int 1), (2, .int 3), (0, .ref h0)]) hx hb dX5_findOut_71 hl (k := 1) rfl (by decide +kernel) (by decide) rfl ?_
  clear hl
  clear ls
  intro ls hl
  refine lv_goto (tgt := 41) hx hb dX5_findOut_74 (by decide) ?_
  refine lv_iload_n hx hb dX5_findOut_41 rfl (lv_at hl 0 rfl) ?_
  refine lv_aload_n hx hb dX5_findOut_42 rfl (lv_at hl 2 rfl) ?_
  refine gm_get (D := D) (ci := 5) (v := .ref h1) (C := RX5) (T := TX5) (N := 5) hx hb hg inlX5 hown hK.1 hP 3 rfl rfl 0 (by decide) tX5_0 (hg _ gw_138) rfl dX5_findOut_43 ?_
  refine gm_get (D := D) (ci := 8) (v := .int 6) (C := RX8) (T := TX8) (N := 2) hx hb hg inlX8 hown hK.1 hP 0 rfl rfl 1 (by decide) tX8_1 (hg _ gw_1441) rfl dX5_findOut_46 ?_
  refine lv_icmp_ge (tgt := 77) hx hb dX5_findOut_49 (by decide) (fun c9 => absurd c9 (by decide +kernel)) (fun _ => ?_)
  refine lv_iconst (v := 0) hx hb dX5_findOut_52 (by decide) ?_
  refine lv_istore_n (lv' := [(2, .int 0), (1, .int 1), (0, .ref h0)]) hx hb dX5_findOut_53 rfl hl (by decide) rfl ?_
  clear hl
  clear ls
  intro ls hl
  refine lv_iload_n hx hb dX5_findOut_54 rfl (lv_at hl 0 rfl) ?_
  refine lv_iconst (v := 3) hx hb dX5_findOut_55 (by decide) ?_
  refine lv_icmp_ge (tgt := 71) hx hb dX5_findOut_56 (by decide) (fun c9 => absurd c9 (by decide +kernel)) (fun _ => ?_)
  refine lv_aload_n hx hb dX5_findOut_59 rfl (lv_at hl 2 rfl) ?_
  refine lv_iload_n hx hb dX5_findOut_60 rfl (lv_at hl 0 rfl) ?_
  refine lv_iload_n hx hb dX5_findOut_61 rfl (lv_at hl 1 rfl) ?_
  refine g_av (wr := [(h1, .inr (8, [.ref h6, .int 6])), (h2, .inr (8, [.ref h7, .int wp4100499])), (h7, .inl (y 1, 200, .inr (.inl (vp_updL (vp_updL (vp_updL (vp_updL (vp_updL (vp_updL wf4100500 ((0 : Int32).toNatClampNeg) 0) ((1 : Int32).toNatClampNeg) 0) ((2 : Int32).toNatClampNeg) 0) ((3 : Int32).toNatClampNeg) 0) ((4 : Int32).toNatClampNeg) 0) ((5 : Int32).toNatClampNeg) 0))))]) (va_runV (As := [.int 0, .int 1]) (rest := []) ⟨hx, hb, hml, hown, hg⟩ (k_X5_find_3 l D y aS H.size h0 h1 h2 h3 h4 6 h10 wp4100501) (cwV 2 hg ggV_RX5_54_X5_find rfl rfl rfl (by decide +kernel) ⟨Nat.le_of_ble_eq_true rfl, Nat.le_of_ble_eq_true rfl⟩) (g_preV (q := (RX5, TX5, 5)) hK hP hD [3, 4, 5] rfl (by decide) (ci := 5) (q0 := 3) rfl rfl) rfl rfl hl.1 rfl (lv_room (Nat.le_of_ble_eq_true rfl)) dX5_findOut_62 ⟨Nat.le_of_ble_eq_true rfl, Nat.le_of_ble_eq_true rfl⟩) hP hD hS hA [3, 4, 5] [0, 1, 2] rfl rfl (by decide) (by decide) ?_
  clear hP hD hS H locs
  refine fun u H locs hq hP hD hS => ?_
  replace hP : va_P D vwCl [(h1, .inr (8, [.ref h6, .int 6])), (h2, .inr (8, [.ref h7, .int wp4100499])), (h7, .inl (y 1, 200, .inr (.inl (vp_updL (vp_updL (vp_updL (vp_updL (vp_updL (vp_updL wf4100500 ((0 : Int32).toNatClampNeg) 0) ((1 : Int32).toNatClampNeg) 0) ((2 : Int32).toNatClampNeg) 0) ((3 : Int32).toNatClampNeg) 0) ((4 : Int32).toNatClampNeg) 0) ((5 : Int32).toNatClampNeg) 0)))), (h0, .inr (5, [.ref h1, .ref h2, .ref h3, .ref h4, .int 6])), (h4, .inr (8, [.ref h10, .int wp4100501])), (h10, .inl (y 1, 3, .inr (.inl (fun _ => 0))))] H := hP
  replace hD : va_D A [(h1, .inr (8, [.ref h6, .int 6])), (h2, .inr (8, [.ref h7, .int wp4100499])), (h7, .inl (y 1, 200, .inr (.inl (vp_updL (vp_updL (vp_updL (vp_updL (vp_updL (vp_updL wf4100500 ((0 : Int32).toNatClampNeg) 0) ((1 : Int32).toNatClampNeg) 0) ((2 : Int32).toNatClampNeg) 0) ((3 : Int32).toNatClampNeg) 0) ((4 : Int32).toNatClampNeg) 0) ((5 : Int32).toNatClampNeg) 0)))), (h0, .inr (5, [.ref h1, .ref h2, .ref h3, .ref h4, .int 6])), (h4, .inr (8, [.ref h10, .int wp4100501])), (h10, .inl (y 1, 3, .inr (.inl (fun _ => 0))))] := hD
  refine lv_iinc (v := 1) (lv' := [(2, .int 1), (1, .int 1), (0, .ref h0)]) hx hb dX5_findOut_65 hl (k := 0) rfl (by decide +kernel) (by decide) rfl ?_
  clear hl
  clear ls
  intro ls hl
  refine lv_goto (tgt := 54) hx hb dX5_findOut_68 (by decide) ?_
  refine lv_iload_n hx hb dX5_findOut_54 rfl (lv_at hl 0 rfl) ?_
  refine lv_iconst (v := 3) hx hb dX5_findOut_55 (by decide) ?_
  refine lv_icmp_ge (tgt := 71) hx hb dX5_findOut_56 (by decide) (fun c9 => absurd c9 (by decide +kernel)) (fun _ => ?_)
  refine lv_aload_n hx hb dX5_findOut_59 rfl (lv_at hl 2 rfl) ?_
  refine lv_iload_n hx hb dX5_findOut_60 rfl (lv_at hl 0 rfl) ?_
  refine lv_iload_n hx hb dX5_findOut_61 rfl (lv_at hl 1 rfl) ?_
  refine g_av (wr := [(h1, .inr (8, [.ref h6, .int 6])), (h2, .inr (8, [.ref h7, .int wp4100499])), (h7, .inl (y 1, 200, .inr (.inl (vp_updL (vp_updL (vp_updL (vp_updL (vp_updL (vp_updL wf4100500 ((0 : Int32).toNatClampNeg) 0) ((1 : Int32).toNatClampNeg) 0) ((2 : Int32).toNatClampNeg) 0) ((3 : Int32).toNatClampNeg) 0) ((4 : Int32).toNatClampNeg) 0) ((5 : Int32).toNatClampNeg) 0))))]) (va_runV (As := [.int 1, .int 1]) (rest := []) ⟨hx, hb, hml, hown, hg⟩ (k_X5_find_4 l D y aS H.size h0 h1 h2 h3 h4 6 h10 wp4100501) (cwV 2 hg ggV_RX5_54_X5_find rfl rfl rfl (by decide +kernel) ⟨Nat.le_of_ble_eq_true rfl, Nat.le_of_ble_eq_true rfl⟩) (g_preV (q := (RX5, TX5, 5)) hK hP hD [3, 4, 5] rfl (by decide) (ci := 5) (q0 := 3) rfl rfl) rfl rfl hl.1 rfl (lv_room (Nat.le_of_ble_eq_true rfl)) dX5_findOut_62 ⟨Nat.le_of_ble_eq_true rfl, Nat.le_of_ble_eq_true rfl⟩) hP hD hS hA [3, 4, 5] [0, 1, 2] rfl rfl (by decide) (by decide) ?_
  clear hP hD hS H locs
  refine fun u H locs hq hP hD hS => ?_
  replace hP : va_P D vwCl [(h1, .inr (8, [.ref h6, .int 6])), (h2, .inr (8, [.ref h7, .int wp4100499])), (h7, .inl (y 1, 200, .inr (.inl (vp_updL (vp_updL (vp_updL (vp_updL (vp_updL (vp_updL wf4100500 ((0 : Int32).toNatClampNeg) 0) ((1 : Int32).toNatClampNeg) 0) ((2 : Int32).toNatClampNeg) 0) ((3 : Int32).toNatClampNeg) 0) ((4 : Int32).toNatClampNeg) 0) ((5 : Int32).toNatClampNeg) 0)))), (h0, .inr (5, [.ref h1, .ref h2, .ref h3, .ref h4, .int 6])), (h4, .inr (8, [.ref h10, .int wp4100501])), (h10, .inl (y 1, 3, .inr (.inl (fun _ => 0))))] H := hP
  replace hD : va_D A [(h1, .inr (8, [.ref h6, .int 6])), (h2, .inr (8, [.ref h7, .int wp4100499])), (h7, .inl (y 1, 200, .inr (.inl (vp_updL (vp_updL (vp_updL (vp_updL (vp_updL (vp_updL wf4100500 ((0 : Int32).toNatClampNeg) 0) ((1 : Int32).toNatClampNeg) 0) ((2 : Int32).toNatClampNeg) 0) ((3 : Int32).toNatClampNeg) 0) ((4 : Int32).toNatClampNeg) 0) ((5 : Int32).toNatClampNeg) 0)))), (h0, .inr (5, [.ref h1, .ref h2, .ref h3, .ref h4, .int 6])), (h4, .inr (8, [.ref h10, .int wp4100501])), (h10, .inl (y 1, 3, .inr (.inl (fun _ => 0))))] := hD
  refine lv_iinc (v := 2) (lv' := [(2, .int 2), (1, .int 1), (0, .ref h0)]) hx hb dX5_findOut_65 hl (k := 0) rfl (by decide +kernel) (by decide) rfl ?_
  clear hl
  clear ls
  intro ls hl
  refine lv_goto (tgt := 54) hx hb dX5_findOut_68 (by decide) ?_
  refine lv_iload_n hx hb dX5_findOut_54 rfl (lv_at hl 0 rfl) ?_
  refine lv_iconst (v := 3) hx hb dX5_findOut_55 (by decide) ?_
  refine lv_icmp_ge (tgt := 71) hx hb dX5_findOut_56 (by decide) (fun c9 => absurd c9 (by decide +kernel)) (fun _ => ?_)
  refine lv_aload_n hx hb dX5_findOut_59 rfl (lv_at hl 2 rfl) ?_
  refine lv_iload_n hx hb dX5_findOut_60 rfl (lv_at hl 0 rfl) ?_
  refine lv_iload_n hx hb dX5_findOut_61 rfl (lv_at hl 1 rfl) ?_
  refine g_av (wr := [(h1, .inr (8, [.ref h6, .int 6])), (h2, .inr (8, [.ref h7, .int wp4100499])), (h7, .inl (y 1, 200, .inr (.inl (vp_updL (vp_updL (vp_updL (vp_updL (vp_updL (vp_updL wf4100500 ((0 : Int32).toNatClampNeg) 0) ((1 : Int32).toNatClampNeg) 0) ((2 : Int32).toNatClampNeg) 0) ((3 : Int32).toNatClampNeg) 0) ((4 : Int32).toNatClampNeg) 0) ((5 : Int32).toNatClampNeg) 0))))]) (va_runV (As := [.int 2, .int 1]) (rest := []) ⟨hx, hb, hml, hown, hg⟩ (k_X5_find_5 l D y aS H.size h0 h1 h2 h3 h4 6 h10 wp4100501) (cwV 2 hg ggV_RX5_54_X5_find rfl rfl rfl (by decide +kernel) ⟨Nat.le_of_ble_eq_true rfl, Nat.le_of_ble_eq_true rfl⟩) (g_preV (q := (RX5, TX5, 5)) hK hP hD [3, 4, 5] rfl (by decide) (ci := 5) (q0 := 3) rfl rfl) rfl rfl hl.1 rfl (lv_room (Nat.le_of_ble_eq_true rfl)) dX5_findOut_62 ⟨Nat.le_of_ble_eq_true rfl, Nat.le_of_ble_eq_true rfl⟩) hP hD hS hA [3, 4, 5] [0, 1, 2] rfl rfl (by decide) (by decide) ?_
  clear hP hD hS H locs
  refine fun u H locs hq hP hD hS => ?_
  replace hP : va_P D vwCl [(h1, .inr (8, [.ref h6, .int 6])), (h2, .inr (8, [.ref h7, .int wp4100499])), (h7, .inl (y 1, 200, .inr (.inl (vp_updL (vp_updL (vp_updL (vp_updL (vp_updL (vp_updL wf4100500 ((0 : Int32).toNatClampNeg) 0) ((1 : Int32).toNatClampNeg) 0) ((2 : Int32).toNatClampNeg) 0) ((3 : Int32).toNatClampNeg) 0) ((4 : Int32).toNatClampNeg) 0) ((5 : Int32).toNatClampNeg) 0)))), (h0, .inr (5, [.ref h1, .ref h2, .ref h3, .ref h4, .int 6])), (h4, .inr (8, [.ref h10, .int wp4100501])), (h10, .inl (y 1, 3, .inr (.inl (fun _ => 0))))] H := hP
  replace hD : va_D A [(h1, .inr (8, [.ref h6, .int 6])), (h2, .inr (8, [.ref h7, .int wp4100499])), (h7, .inl (y 1, 200, .inr (.inl (vp_updL (vp_updL (vp_updL (vp_updL (vp_updL (vp_updL wf4100500 ((0 : Int32).toNatClampNeg) 0) ((1 : Int32).toNatClampNeg) 0) ((2 : Int32).toNatClampNeg) 0) ((3 : Int32).toNatClampNeg) 0) ((4 : Int32).toNatClampNeg) 0) ((5 : Int32).toNatClampNeg) 0)))), (h0, .inr (5, [.ref h1, .ref h2, .ref h3, .ref h4, .int 6])), (h4, .inr (8, [.ref h10, .int wp4100501])), (h10, .inl (y 1, 3, .inr (.inl (fun _ => 0))))] := hD
  refine lv_iinc (v := 3) (lv' := [(2, .int 3), (1, .int 1), (0, .ref h0)]) hx hb dX5_findOut_65 hl (k := 0) rfl (by decide +kernel) (by decide) rfl ?_
  clear hl
  clear ls
  intro ls hl
  refine lv_goto (tgt := 54) hx hb dX5_findOut_68 (by decide) ?_
  refine lv_iload_n hx hb dX5_findOut_54 rfl (lv_at hl 0 rfl) ?_
  refine lv_iconst (v := 3) hx hb dX5_findOut_55 (by decide) ?_
  refine lv_icmp_ge (tgt := 71) hx hb dX5_findOut_56 (by decide) (fun _ => ?_) (fun c9 => absurd c9 (by decide +kernel))
  refine lv_iinc (v := 2) (lv' := [(1, .int 2), (2, .int 3), (0, .ref h0)]) hx hb dX5_findOut_71 hl (k := 1) rfl (by decide +kernel) (by decide) rfl ?_
  clear hl
  clear ls
  intro ls hl
  refine lv_goto (tgt := 41) hx hb dX5_findOut_74 (by decide) ?_
  refine lv_iload_n hx hb dX5_findOut_41 rfl (lv_at hl 0 rfl) ?_
  refine lv_aload_n hx hb dX5_findOut_42 rfl (lv_at hl 2 rfl) ?_
  refine gm_get (D := D) (ci := 5) (v := .ref h1) (C := RX5) (T := TX5) (N := 5) hx hb hg inlX5 hown hK.1 hP 3 rfl rfl 0 (by decide) tX5_0 (hg _ gw_138) rfl dX5_findOut_43 ?_
  refine gm_get (D := D) (ci := 8) (v := .int 6) (C := RX8) (T := TX8) (N := 2) hx hb hg inlX8 hown hK.1 hP 0 rfl rfl 1 (by decide) tX8_1 (hg _ gw_1441) rfl dX5_findOut_46 ?_
  refine lv_icmp_ge (tgt := 77) hx hb dX5_findOut_49 (by decide) (fun c9 => absurd c9 (by decide +kernel)) (fun _ => ?_)
  refine lv_iconst (v := 0) hx hb dX5_findOut_52 (by decide) ?_
  refine lv_istore_n (lv' := [(2, .int 0), (1, .int 2), (0, .ref h0)]) hx hb dX5_findOut_53 rfl hl (by decide) rfl ?_
  clear hl
  clear ls
  intro ls hl
  refine lv_iload_n hx hb dX5_findOut_54 rfl (lv_at hl 0 rfl) ?_
  refine lv_iconst (v := 3) hx hb dX5_findOut_55 (by decide) ?_
  refine lv_icmp_ge (tgt := 71) hx hb dX5_findOut_56 (by decide) (fun c9 => absurd c9 (by decide +kernel)) (fun _ => ?_)
  refine lv_aload_n hx hb dX5_findOut_59 rfl (lv_at hl 2 rfl) ?_
  refine lv_iload_n hx hb dX5_findOut_60 rfl (lv_at hl 0 rfl) ?_
  refine lv_iload_n hx hb dX5_findOut_61 rfl (lv_at hl 1 rfl) ?_
  refine g_av (wr := [(h1, .inr (8, [.ref h6, .int 6])), (h2, .inr (8, [.ref h7, .int wp4100499])), (h7, .inl (y 1, 200, .inr (.inl (vp_updL (vp_updL (vp_updL (vp_updL (vp_updL (vp_updL wf4100500 ((0 : Int32).toNatClampNeg) 0) ((1 : Int32).toNatClampNeg) 0) ((2 : Int32).toNatClampNeg) 0) ((3 : Int32).toNatClampNeg) 0) ((4 : Int32).toNatClampNeg) 0) ((5 : Int32).toNatClampNeg) 0))))]) (va_runV (As := [.int 0, .int 2]) (rest := []) ⟨hx, hb, hml, hown, hg⟩ (k_X5_find_6 l D y aS H.size h0 h1 h2 h3 h4 6 h10 wp4100501) (cwV 2 hg ggV_RX5_54_X5_find rfl rfl rfl (by decide +kernel) ⟨Nat.le_of_ble_eq_true rfl, Nat.le_of_ble_eq_true rfl⟩) (g_preV (q := (RX5, TX5, 5)) hK hP hD [3, 4, 5] rfl (by decide) (ci := 5) (q0 := 3) rfl rfl) rfl rfl hl.1 rfl (lv_room (Nat.le_of_ble_eq_true rfl)) dX5_findOut_62 ⟨Nat.le_of_ble_eq_true rfl, Nat.le_of_ble_eq_true rfl⟩) hP hD hS hA [3, 4, 5] [0, 1, 2] rfl rfl (by decide) (by decide) ?_
  clear hP hD hS H locs
  refine fun u H locs hq hP hD hS => ?_
  replace hP : va_P D vwCl [(h1, .inr (8, [.ref h6, .int 6])), (h2, .inr (8, [.ref h7, .int wp4100499])), (h7, .inl (y 1, 200, .inr (.inl (vp_updL (vp_updL (vp_updL (vp_updL (vp_updL (vp_updL wf4100500 ((0 : Int32).toNatClampNeg) 0) ((1 : Int32).toNatClampNeg) 0) ((2 : Int32).toNatClampNeg) 0) ((3 : Int32).toNatClampNeg) 0) ((4 : Int32).toNatClampNeg) 0) ((5 : Int32).toNatClampNeg) 0)))), (h0, .inr (5, [.ref h1, .ref h2, .ref h3, .ref h4, .int 6])), (h4, .inr (8, [.ref h10, .int wp4100501])), (h10, .inl (y 1, 3, .inr (.inl (fun _ => 0))))] H := hP
  replace hD : va_D A [(h1, .inr (8, [.ref h6, .int 6])), (h2, .inr (8, [.ref h7, .int wp4100499])), (h7, .inl (y 1, 200, .inr (.inl (vp_updL (vp_updL (vp_updL (vp_updL (vp_updL (vp_updL wf4100500 ((0 : Int32).toNatClampNeg) 0) ((1 : Int32).toNatClampNeg) 0) ((2 : Int32).toNatClampNeg) 0) ((3 : Int32).toNatClampNeg) 0) ((4 : Int32).toNatClampNeg) 0) ((5 : Int32).toNatClampNeg) 0)))), (h0, .inr (5, [.ref h1, .ref h2, .ref h3, .ref h4, .int 6])), (h4, .inr (8, [.ref h10, .int wp4100501])), (h10, .inl (y 1, 3, .inr (.inl (fun _ => 0))))] := hD
  refine lv_iinc (v := 1) (lv' := [(2, .int 1), (1, .int 2), (0, .ref h0)]) hx hb dX5_findOut_65 hl (k := 0) rfl (by decide +kernel) (by decide) rfl ?_
  clear hl
  clear ls
  intro ls hl
  refine lv_goto (tgt := 54) hx hb dX5_findOut_68 (by decide) ?_
  refine lv_iload_n hx hb dX5_findOut_54 rfl (lv_at hl 0 rfl) ?_
  refine lv_iconst (v := 3) hx hb dX5_findOut_55 (by decide) ?_
  refine lv_icmp_ge (tgt := 71) hx hb dX5_findOut_56 (by decide) (fun c9 => absurd c9 (by decide +kernel)) (fun _ => ?_)
  refine lv_aload_n hx hb dX5_findOut_59 rfl (lv_at hl 2 rfl) ?_
  refine lv_iload_n hx hb dX5_findOut_60 rfl (lv_at hl 0 rfl) ?_
  refine lv_iload_n hx hb dX5_findOut_61 rfl (lv_at hl 1 rfl) ?_
  refine g_av (wr := [(h1, .inr (8, [.ref h6, .int 6])), (h2, .inr (8, [.ref h7, .int wp4100499])), (h7, .inl (y 1, 200, .inr (.inl (vp_updL (vp_updL (vp_updL (vp_updL (vp_updL (vp_updL wf4100500 ((0 : Int32).toNatClampNeg) 0) ((1 : Int32).toNatClampNeg) 0) ((2 : Int32).toNatClampNeg) 0) ((3 : Int32).toNatClampNeg) 0) ((4 : Int32).toNatClampNeg) 0) ((5 : Int32).toNatClampNeg) 0))))]) (va_runV (As := [.int 1, .int 2]) (rest := []) ⟨hx, hb, hml, hown, hg⟩ (k_X5_find_7 l D y aS H.size h0 h1 h2 h3 h4 6 h10 wp4100501) (cwV 2 hg ggV_RX5_54_X5_find rfl rfl rfl (by decide +kernel) ⟨Nat.le_of_ble_eq_true rfl, Nat.le_of_ble_eq_true rfl⟩) (g_preV (q := (RX5, TX5, 5)) hK hP hD [3, 4, 5] rfl (by decide) (ci := 5) (q0 := 3) rfl rfl) rfl rfl hl.1 rfl (lv_room (Nat.le_of_ble_eq_true rfl)) dX5_findOut_62 ⟨Nat.le_of_ble_eq_true rfl, Nat.le_of_ble_eq_true rfl⟩) hP hD hS hA [3, 4, 5] [0, 1, 2] rfl rfl (by decide) (by decide) ?_
  clear hP hD hS H locs
  refine fun u H locs hq hP hD hS => ?_
  replace hP : va_P D vwCl [(h1, .inr (8, [.ref h6, .int 6])), (h2, .inr (8, [.ref h7, .int wp4100499])), (h7, .inl (y 1, 200, .inr (.inl (vp_updL (vp_updL (vp_updL (vp_updL (vp_updL (vp_updL wf4100500 ((0 : Int32).toNatClampNeg) 0) ((1 : Int32).toNatClampNeg) 0) ((2 : Int32).toNatClampNeg) 0) ((3 : Int32).toNatClampNeg) 0) ((4 : Int32).toNatClampNeg) 0) ((5 : Int32).toNatClampNeg) 0)))), (h0, .inr (5, [.ref h1, .ref h2, .ref h3, .ref h4, .int 6])), (h4, .inr (8, [.ref h10, .int wp4100501])), (h10, .inl (y 1, 3, .inr (.inl (fun _ => 0))))] H := hP
  replace hD : va_D A [(h1, .inr (8, [.ref h6, .int 6])), (h2, .inr (8, [.ref h7, .int wp4100499])), (h7, .inl (y 1, 200, .inr (.inl (vp_updL (vp_updL (vp_updL (vp_updL (vp_updL (vp_updL wf4100500 ((0 : Int32).toNatClampNeg) 0) ((1 : Int32).toNatClampNeg) 0) ((2 : Int32).toNatClampNeg) 0) ((3 : Int32).toNatClampNeg) 0) ((4 : Int32).toNatClampNeg) 0) ((5 : Int32).toNatClampNeg) 0)))), (h0, .inr (5, [.ref h1, .ref h2, .ref h3, .ref h4, .int 6])), (h4, .inr (8, [.ref h10, .int wp4100501])), (h10, .inl (y 1, 3, .inr (.inl (fun _ => 0))))] := hD
  refine lv_iinc (v := 2) (lv' := [(2, .int 2), (1, .int 2), (0, .ref h0)]) hx hb dX5_findOut_65 hl (k := 0) rfl (by decide +kernel) (by decide) rfl ?_
  clear hl
  clear ls
  intro ls hl
  refine lv_goto (tgt := 54) hx hb dX5_findOut_68 (by decide) ?_
  refine lv_iload_n hx hb dX5_findOut_54 rfl (lv_at hl 0 rfl) ?_
  refine lv_iconst (v := 3) hx hb dX5_findOut_55 (by decide) ?_
  refine lv_icmp_ge (tgt := 71) hx hb dX5_findOut_56 (by decide) (fun c9 => absurd c9 (by decide +kernel)) (fun _ => ?_)
  refine lv_aload_n hx hb dX5_findOut_59 rfl (lv_at hl 2 rfl) ?_
  refine lv_iload_n hx hb dX5_findOut_60 rfl (lv_at hl 0 rfl) ?_
  refine lv_iload_n hx hb dX5_findOut_61 rfl (lv_at hl 1 rfl) ?_
  refine g_av (wr := [(h1, .inr (8, [.ref h6, .int 6])), (h2, .inr (8, [.ref h7, .int wp4100499])), (h7, .inl (y 1, 200, .inr (.inl (vp_updL (vp_updL (vp_updL (vp_updL (vp_updL (vp_updL wf4100500 ((0 : Int32).toNatClampNeg) 0) ((1 : Int32).toNatClampNeg) 0) ((2 : Int32).toNatClampNeg) 0) ((3 : Int32).toNatClampNeg) 0) ((4 : Int32).toNatClampNeg) 0) ((5 : Int32).toNatClampNeg) 0))))]) (va_runV (As := [.int 2, .int 2]) (rest := []) ⟨hx, hb, hml, hown, hg⟩ (k_X5_find_8 l D y aS H.size h0 h1 h2 h3 h4 6 h10 wp4100501) (cwV 2 hg ggV_RX5_54_X5_find rfl rfl rfl (by decide +kernel) ⟨Nat.le_of_ble_eq_true rfl, Nat.le_of_ble_eq_true rfl⟩) (g_preV (q := (RX5, TX5, 5)) hK hP hD [3, 4, 5] rfl (by decide) (ci := 5) (q0 := 3) rfl rfl) rfl rfl hl.1 rfl (lv_room (Nat.le_of_ble_eq_true rfl)) dX5_findOut_62 ⟨Nat.le_of_ble_eq_true rfl, Nat.le_of_ble_eq_true rfl⟩) hP hD hS hA [3, 4, 5] [0, 1, 2] rfl rfl (by decide) (by decide) ?_
  clear hP hD hS H locs
  refine fun u H locs hq hP hD hS => ?_
  replace hP : va_P D vwCl [(h1, .inr (8, [.ref h6, .int 6])), (h2, .inr (8, [.ref h7, .int wp4100499])), (h7, .inl (y 1, 200, .inr (.inl (vp_updL (vp_updL (vp_updL (vp_updL (vp_updL (vp_updL wf4100500 ((0 : Int32).toNatClampNeg) 0) ((1 : Int32).toNatClampNeg) 0) ((2 : Int32).toNatClampNeg) 0) ((3 : Int32).toNatClampNeg) 0) ((4 : Int32).toNatClampNeg) 0) ((5 : Int32).toNatClampNeg) 0)))), (h0, .inr (5, [.ref h1, .ref h2, .ref h3, .ref h4, .int 6])), (h4, .inr (8, [.ref h10, .int wp4100501])), (h10, .inl (y 1, 3, .inr (.inl (fun _ => 0))))] H := hP
  replace hD : va_D A [(h1, .inr (8, [.ref h6, .int 6])), (h2, .inr (8, [.ref h7, .int wp4100499])), (h7, .inl (y 1, 200, .inr (.inl (vp_updL (vp_updL (vp_updL (vp_updL (vp_updL (vp_updL wf4100500 ((0 : Int32).toNatClampNeg) 0) ((1 : Int32).toNatClampNeg) 0) ((2 : Int32).toNatClampNeg) 0) ((3 : Int32).toNatClampNeg) 0) ((4 : Int32).toNatClampNeg) 0) ((5 : Int32).toNatClampNeg) 0)))), (h0, .inr (5, [.ref h1, .ref h2, .ref h3, .ref h4, .int 6])), (h4, .inr (8, [.ref h10, .int wp4100501])), (h10, .inl (y 1, 3, .inr (.inl (fun _ => 0))))] := hD
  refine lv_iinc (v := 3) (lv' := [(2, .int 3), (1, .int 2), (0, .ref h0)]) hx hb dX5_findOut_65 hl (k := 0) rfl (by decide +kernel) (by decide) rfl ?_
  clear hl
  clear ls
  intro ls hl
  refine lv_goto (tgt := 54) hx hb dX5_findOut_68 (by decide) ?_
  refine lv_iload_n hx hb dX5_findOut_54 rfl (lv_at hl 0 rfl) ?_
  refine lv_iconst (v := 3) hx hb dX5_findOut_55 (by decide) ?_
  refine lv_icmp_ge (tgt := 71) hx hb dX5_findOut_56 (by decide) (fun _ => ?_) (fun c9 => absurd c9 (by decide +kernel))
  refine lv_iinc (v := 3) (lv' := [(1, .int 3), (2, .int 3), (0, .ref h0)]) hx hb dX5_findOut_71 hl (k := 1) rfl (by decide +kernel) (by decide) rfl ?_
  clear hl
  clear ls
  intro ls hl
  refine lv_goto (tgt := 41) hx hb dX5_findOut_74 (by decide) ?_
  refine lv_iload_n hx hb dX5_findOut_41 rfl (lv_at hl 0 rfl) ?_
  refine lv_aload_n hx hb dX5_findOut_42 rfl (lv_at hl 2 rfl) ?_
  refine gm_get (D := D) (ci := 5) (v := .ref h1) (C := RX5) (T := TX5) (N := 5) hx hb hg inlX5 hown hK.1 hP 3 rfl rfl 0 (by decide) tX5_0 (hg _ gw_138) rfl dX5_findOut_43 ?_
  refine gm_get (D := D) (ci := 8) (v := .int 6) (C := RX8) (T := TX8) (N := 2) hx hb hg inlX8 hown hK.1 hP 0 rfl rfl 1 (by decide) tX8_1 (hg _ gw_1441) rfl dX5_findOut_46 ?_
  refine lv_icmp_ge (tgt := 77) hx hb dX5_findOut_49 (by decide) (fun c9 => absurd c9 (by decide +kernel)) (fun _ => ?_)
  refine lv_iconst (v := 0) hx hb dX5_findOut_52 (by decide) ?_
  refine lv_istore_n (lv' := [(2, .int 0), (1, .int 3), (0, .ref h0)]) hx hb dX5_findOut_53 rfl hl (by decide) rfl ?_
  clear hl
  clear ls
  intro ls hl
  refine lv_iload_n hx hb dX5_findOut_54 rfl (lv_at hl 0 rfl) ?_
  refine lv_iconst (v := 3) hx hb dX5_findOut_55 (by decide) ?_
  refine lv_icmp_ge (tgt := 71) hx hb dX5_findOut_56 (by decide) (fun c9 => absurd c9 (by decide +kernel)) (fun _ => ?_)
  refine lv_aload_n hx hb dX5_findOut_59 rfl (lv_at hl 2 rfl) ?_
  refine lv_iload_n hx hb dX5_findOut_60 rfl (lv_at hl 0 rfl) ?_
  refine lv_iload_n hx hb dX5_findOut_61 rfl (lv_at hl 1 rfl) ?_
  refine g_av (wr := [(h1, .inr (8, [.ref h6, .int 6])), (h2, .inr (8, [.ref h7, .int wp4100499])), (h7, .inl (y 1, 200, .inr (.inl (vp_updL (vp_updL (vp_updL (vp_updL (vp_updL (vp_updL wf4100500 ((0 : Int32).toNatClampNeg) 0) ((1 : Int32).toNatClampNeg) 0) ((2 : Int32).toNatClampNeg) 0) ((3 : Int32).toNatClampNeg) 0) ((4 : Int32).toNatClampNeg) 0) ((5 : Int32).toNatClampNeg) 0))))]) (va_runV (As := [.int 0, .int 3]) (rest := []) ⟨hx, hb, hml, hown, hg⟩ (k_X5_find_9 l D y aS H.size h0 h1 h2 h3 h4 6 h10 wp4100501) (cwV 2 hg ggV_RX5_54_X5_find rfl rfl rfl (by decide +kernel) ⟨Nat.le_of_ble_eq_true rfl, Nat.le_of_ble_eq_true rfl⟩) (g_preV (q := (RX5, TX5, 5)) hK hP hD [3, 4, 5] rfl (by decide) (ci := 5) (q0 := 3) rfl rfl) rfl rfl hl.1 rfl (lv_room (Nat.le_of_ble_eq_true rfl)) dX5_findOut_62 ⟨Nat.le_of_ble_eq_true rfl, Nat.le_of_ble_eq_true rfl⟩) hP hD hS hA [3, 4, 5] [0, 1, 2] rfl rfl (by decide) (by decide) ?_
  clear hP hD hS H locs
  refine fun u H locs hq hP hD hS => ?_
  replace hP : va_P D vwCl [(h1, .inr (8, [.ref h6, .int 6])), (h2, .inr (8, [.ref h7, .int wp4100499])), (h7, .inl (y 1, 200, .inr (.inl (vp_updL (vp_updL (vp_updL (vp_updL (vp_updL (vp_updL wf4100500 ((0 : Int32).toNatClampNeg) 0) ((1 : Int32).toNatClampNeg) 0) ((2 : Int32).toNatClampNeg) 0) ((3 : Int32).toNatClampNeg) 0) ((4 : Int32).toNatClampNeg) 0) ((5 : Int32).toNatClampNeg) 0)))), (h0, .inr (5, [.ref h1, .ref h2, .ref h3, .ref h4, .int 6])), (h4, .inr (8, [.ref h10, .int wp4100501])), (h10, .inl (y 1, 3, .inr (.inl (fun _ => 0))))] H := hP
  replace hD : va_D A [(h1, .inr (8, [.ref h6, .int 6])), (h2, .inr (8, [.ref h7, .int wp4100499])), (h7, .inl (y 1, 200, .inr (.inl (vp_updL (vp_updL (vp_updL (vp_updL (vp_updL (vp_updL wf4100500 ((0 : Int32).toNatClampNeg) 0) ((1 : Int32).toNatClampNeg) 0) ((2 : Int32).toNatClampNeg) 0) ((3 : Int32).toNatClampNeg) 0) ((4 : Int32).toNatClampNeg) 0) ((5 : Int32).toNatClampNeg) 0)))), (h0, .inr (5, [.ref h1, .ref h2, .ref h3, .ref h4, .int 6])), (h4, .inr (8, [.ref h10, .int wp4100501])), (h10, .inl (y 1, 3, .inr (.inl (fun _ => 0))))] := hD
  refine lv_iinc (v := 1) (lv' := [(2, .int 1), (1, .int 3), (0, .ref h0)]) hx hb dX5_findOut_65 hl (k := 0) rfl (by decide +kernel) (by decide) rfl ?_
  clear hl
  clear ls
  intro ls hl
  refine lv_goto (tgt := 54) hx hb dX5_findOut_68 (by decide) ?_
  refine lv_iload_n hx hb dX5_findOut_54 rfl (lv_at hl 0 rfl) ?_
  refine lv_iconst (v := 3) hx hb dX5_findOut_55 (by decide) ?_
  refine lv_icmp_ge (tgt := 71) hx hb dX5_findOut_56 (by decide) (fun c9 => absurd c9 (by decide +kernel)) (fun _ => ?_)
  refine lv_aload_n hx hb dX5_findOut_59 rfl (lv_at hl 2 rfl) ?_
  refine lv_iload_n hx hb dX5_findOut_60 rfl (lv_at hl 0 rfl) ?_
  refine lv_iload_n hx hb dX5_findOut_61 rfl (lv_at hl 1 rfl) ?_
  refine g_av (wr := [(h1, .inr (8, [.ref h6, .int 6])), (h2, .inr (8, [.ref h7, .int wp4100499])), (h7, .inl (y 1, 200, .inr (.inl (vp_updL (vp_updL (vp_updL (vp_updL (vp_updL (vp_updL wf4100500 ((0 : Int32).toNatClampNeg) 0) ((1 : Int32).toNatClampNeg) 0) ((2 : Int32).toNatClampNeg) 0) ((3 : Int32).toNatClampNeg) 0) ((4 : Int32).toNatClampNeg) 0) ((5 : Int32).toNatClampNeg) 0))))]) (va_runV (As := [.int 1, .int 3]) (rest := []) ⟨hx, hb, hml, hown, hg⟩ (k_X5_find_10 l D y aS H.size h0 h1 h2 h3 h4 6 h10 wp4100501) (cwV 2 hg ggV_RX5_54_X5_find rfl rfl rfl (by decide +kernel) ⟨Nat.le_of_ble_eq_true rfl, Nat.le_of_ble_eq_true rfl⟩) (g_preV (q := (RX5, TX5, 5)) hK hP hD [3, 4, 5] rfl (by decide) (ci := 5) (q0 := 3) rfl rfl) rfl rfl hl.1 rfl (lv_room (Nat.le_of_ble_eq_true rfl)) dX5_findOut_62 ⟨Nat.le_of_ble_eq_true rfl, Nat.le_of_ble_eq_true rfl⟩) hP hD hS hA [3, 4, 5] [0, 1, 2] rfl rfl (by decide) (by decide) ?_
  clear hP hD hS H locs
  refine fun u H locs hq hP hD hS => ?_
  replace hP : va_P D vwCl [(h1, .inr (8, [.ref h6, .int 6])), (h2, .inr (8, [.ref h7, .int wp4100499])), (h7, .inl (y 1, 200, .inr (.inl (vp_updL (vp_updL (vp_updL (vp_updL (vp_updL (vp_updL wf4100500 ((0 : Int32).toNatClampNeg) 0) ((1 : Int32).toNatClampNeg) 0) ((2 : Int32).toNatClampNeg) 0) ((3 : Int32).toNatClampNeg) 0) ((4 : Int32).toNatClampNeg) 0) ((5 : Int32).toNatClampNeg) 0)))), (h0, .inr (5, [.ref h1, .ref h2, .ref h3, .ref h4, .int 6])), (h4, .inr (8, [.ref h10, .int wp4100501])), (h10, .inl (y 1, 3, .inr (.inl (fun _ => 0))))] H := hP
  replace hD : va_D A [(h1, .inr (8, [.ref h6, .int 6])), (h2, .inr (8, [.ref h7, .int wp4100499])), (h7, .inl (y 1, 200, .inr (.inl (vp_updL (vp_updL (vp_updL (vp_updL (vp_updL (vp_updL wf4100500 ((0 : Int32).toNatClampNeg) 0) ((1 : Int32).toNatClampNeg) 0) ((2 : Int32).toNatClampNeg) 0) ((3 : Int32).toNatClampNeg) 0) ((4 : Int32).toNatClampNeg) 0) ((5 : Int32).toNatClampNeg) 0)))), (h0, .inr (5, [.ref h1, .ref h2, .ref h3, .ref h4, .int 6])), (h4, .inr (8, [.ref h10, .int wp4100501])), (h10, .inl (y 1, 3, .inr (.inl (fun _ => 0))))] := hD
  refine lv_iinc (v := 2) (lv' := [(2, .int 2), (1, .int 3), (0, .ref h0)]) hx hb dX5_findOut_65 hl (k := 0) rfl (by decide +kernel) (by decide) rfl ?_
  clear hl
  clear ls
  intro ls hl
  refine lv_goto (tgt := 54) hx hb dX5_findOut_68 (by decide) ?_
  refine lv_iload_n hx hb dX5_findOut_54 rfl (lv_at hl 0 rfl) ?_
  refine lv_iconst (v := 3) hx hb dX5_findOut_55 (by decide) ?_
  refine lv_icmp_ge (tgt := 71) hx hb dX5_findOut_56 (by decide) (fun c9 => absurd c9 (by decide +kernel)) (fun _ => ?_)
  refine lv_aload_n hx hb dX5_findOut_59 rfl (lv_at hl 2 rfl) ?_
  refine lv_iload_n hx hb dX5_findOut_60 rfl (lv_at hl 0 rfl) ?_
  refine lv_iload_n hx hb dX5_findOut_61 rfl (lv_at hl 1 rfl) ?_
  refine g_av (wr := [(h1, .inr (8, [.ref h6, .int 6])), (h2, .inr (8, [.ref h7, .int wp4100499])), (h7, .inl (y 1, 200, .inr (.inl (vp_updL (vp_updL (vp_updL (vp_updL (vp_updL (vp_updL wf4100500 ((0 : Int32).toNatClampNeg) 0) ((1 : Int32).toNatClampNeg) 0) ((2 : Int32).toNatClampNeg) 0) ((3 : Int32).toNatClampNeg) 0) ((4 : Int32).toNatClampNeg) 0) ((5 : Int32).toNatClampNeg) 0))))]) (va_runV (As := [.int 2, .int 3]) (rest := []) ⟨hx, hb, hml, hown, hg⟩ (k_X5_find_11 l D y aS H.size h0 h1 h2 h3 h4 6 h10 wp4100501) (cwV 2 hg ggV_RX5_54_X5_find rfl rfl rfl (by decide +kernel) ⟨Nat.le_of_ble_eq_true rfl, Nat.le_of_ble_eq_true rfl⟩) (g_preV (q := (RX5, TX5, 5)) hK hP hD [3, 4, 5] rfl (by decide) (ci := 5) (q0 := 3) rfl rfl) rfl rfl hl.1 rfl (lv_room (Nat.le_of_ble_eq_true rfl)) dX5_findOut_62 ⟨Nat.le_of_ble_eq_true rfl, Nat.le_of_ble_eq_true rfl⟩) hP hD hS hA [3, 4, 5] [0, 1, 2] rfl rfl (by decide) (by decide) ?_
  clear hP hD hS H locs
  refine fun u H locs hq hP hD hS => ?_
  replace hP : va_P D vwCl [(h1, .inr (8, [.ref h6, .int 6])), (h2, .inr (8, [.ref h7, .int wp4100499])), (h7, .inl (y 1, 200, .inr (.inl (vp_updL (vp_updL (vp_updL (vp_updL (vp_updL (vp_updL wf4100500 ((0 : Int32).toNatClampNeg) 0) ((1 : Int32).toNatClampNeg) 0) ((2 : Int32).toNatClampNeg) 0) ((3 : Int32).toNatClampNeg) 0) ((4 : Int32).toNatClampNeg) 0) ((5 : Int32).toNatClampNeg) 0)))), (h0, .inr (5, [.ref h1, .ref h2, .ref h3, .ref h4, .int 6])), (h4, .inr (8, [.ref h10, .int wp4100501])), (h10, .inl (y 1, 3, .inr (.inl (fun _ => 0))))] H := hP
  replace hD : va_D A [(h1, .inr (8, [.ref h6, .int 6])), (h2, .inr (8, [.ref h7, .int wp4100499])), (h7, .inl (y 1, 200, .inr (.inl (vp_updL (vp_updL (vp_updL (vp_updL (vp_updL (vp_updL wf4100500 ((0 : Int32).toNatClampNeg) 0) ((1 : Int32).toNatClampNeg) 0) ((2 : Int32).toNatClampNeg) 0) ((3 : Int32).toNatClampNeg) 0) ((4 : Int32).toNatClampNeg) 0) ((5 : Int32).toNatClampNeg) 0)))), (h0, .inr (5, [.ref h1, .ref h2, .ref h3, .ref h4, .int 6])), (h4, .inr (8, [.ref h10, .int wp4100501])), (h10, .inl (y 1, 3, .inr (.inl (fun _ => 0))))] := hD
  refine lv_iinc (v := 3) (lv' := [(2, .int 3), (1, .int 3), (0, .ref h0)]) hx hb dX5_findOut_65 hl (k := 0) rfl (by decide +kernel) (by decide) rfl ?_
  clear hl
  clear ls
  intro ls hl
  refine lv_goto (tgt := 54) hx hb dX5_findOut_68 (by decide) ?_
  refine lv_iload_n hx hb dX5_findOut_54 rfl (lv_at hl 0 rfl) ?_
  refine lv_iconst (v := 3) hx hb dX5_findOut_55 (by decide) ?_
  refine lv_icmp_ge (tgt := 71) hx hb dX5_findOut_56 (by decide) (fun _ => ?_) (fun c9 => absurd c9 (by decide +kernel))
  refine lv_iinc (v := 4) (lv' := [(1, .int 4), (2, .int 3), (0, .ref h0)]) hx hb dX5_findOut_71 hl (k := 1) rfl (by decide +kernel) (by decide) rfl ?_
  clear hl
  clear ls
  intro ls hl
  refine lv_goto (tgt := 41) hx hb dX5_findOut_74 (by decide) ?_
  refine lv_iload_n hx hb dX5_findOut_41 rfl (lv_at hl 0 rfl) ?_
  refine lv_aload_n hx hb dX5_findOut_42 rfl (lv_at hl 2 rfl) ?_
  refine gm_get (D := D) (ci := 5) (v := .ref h1) (C := RX5) (T := TX5) (N := 5) hx hb hg inlX5 hown hK.1 hP 3 rfl rfl 0 (by decide) tX5_0 (hg _ gw_138) rfl dX5_findOut_43 ?_
  refine gm_get (D := D) (ci := 8) (v := .int 6) (C := RX8) (T := TX8) (N := 2) hx hb hg inlX8 hown hK.1 hP 0 rfl rfl 1 (by decide) tX8_1 (hg _ gw_1441) rfl dX5_findOut_46 ?_
  refine lv_icmp_ge (tgt := 77) hx hb dX5_findOut_49 (by decide) (fun c9 => absurd c9 (by decide +kernel)) (fun _ => ?_)
  refine lv_iconst (v := 0) hx hb dX5_findOut_52 (by decide) ?_
  refine lv_istore_n (lv' := [(2, .int 0), (1, .int 4), (0, .ref h0)]) hx hb dX5_findOut_53 rfl hl (by decide) rfl ?_
  clear hl
  clear ls
  intro ls hl
  refine lv_iload_n hx hb dX5_findOut_54 rfl (lv_at hl 0 rfl) ?_
  refine lv_iconst (v := 3) hx hb dX5_findOut_55 (by decide) ?_
  refine lv_icmp_ge (tgt := 71) hx hb dX5_findOut_56 (by decide) (fun c9 => absurd c9 (by decide +kernel)) (fun _ => ?_)
  refine lv_aload_n hx hb dX5_findOut_59 rfl (lv_at hl 2 rfl) ?_
  refine lv_iload_n hx hb dX5_findOut_60 rfl (lv_at hl 0 rfl) ?_
  refine lv_iload_n hx hb dX5_findOut_61 rfl (lv_at hl 1 rfl) ?_
  refine g_av (wr := [(h1, .inr (8, [.ref h6, .int 6])), (h2, .inr (8, [.ref h7, .int wp4100499])), (h7, .inl (y 1, 200, .inr (.inl (vp_updL (vp_updL (vp_updL (vp_updL (vp_updL (vp_updL wf4100500 ((0 : Int32).toNatClampNeg) 0) ((1 : Int32).toNatClampNeg) 0) ((2 : Int32).toNatClampNeg) 0) ((3 : Int32).toNatClampNeg) 0) ((4 : Int32).toNatClampNeg) 0) ((5 : Int32).toNatClampNeg) 0))))]) (va_runV (As := [.int 0, .int 4]) (rest := []) ⟨hx, hb, hml, hown, hg⟩ (k_X5_find_12 l D y aS H.size h0 h1 h2 h3 h4 6 h10 wp4100501) (cwV 2 hg ggV_RX5_54_X5_find rfl rfl rfl (by decide +kernel) ⟨Nat.le_of_ble_eq_true rfl, Nat.le_of_ble_eq_true rfl⟩) (g_preV (q := (RX5, TX5, 5)) hK hP hD [3, 4, 5] rfl (by decide) (ci := 5) (q0 := 3) rfl rfl) rfl rfl hl.1 rfl (lv_room (Nat.le_of_ble_eq_true rfl)) dX5_findOut_62 ⟨Nat.le_of_ble_eq_true rfl, Nat.le_of_ble_eq_true rfl⟩) hP hD hS hA [3, 4, 5] [0, 1, 2] rfl rfl (by decide) (by decide) ?_
  clear hP hD hS H locs
  refine fun u H locs hq hP hD hS => ?_
  replace hP : va_P D vwCl [(h1, .inr (8, [.ref h6, .int 6])), (h2, .inr (8, [.ref h7, .int wp4100499])), (h7, .inl (y 1, 200, .inr (.inl (vp_updL (vp_updL (vp_updL (vp_updL (vp_updL (vp_updL wf4100500 ((0 : Int32).toNatClampNeg) 0) ((1 : Int32).toNatClampNeg) 0) ((2 : Int32).toNatClampNeg) 0) ((3 : Int32).toNatClampNeg) 0) ((4 : Int32).toNatClampNeg) 0) ((5 : Int32).toNatClampNeg) 0)))), (h0, .inr (5, [.ref h1, .ref h2, .ref h3, .ref h4, .int 6])), (h4, .inr (8, [.ref h10, .int wp4100501])), (h10, .inl (y 1, 3, .inr (.inl (fun _ => 0))))] H := hP
  replace hD : va_D A [(h1, .inr (8, [.ref h6, .int 6])), (h2, .inr (8, [.ref h7, .int wp4100499])), (h7, .inl (y 1, 200, .inr (.inl (vp_updL (vp_updL (vp_updL (vp_updL (vp_updL (vp_updL wf4100500 ((0 : Int32).toNatClampNeg) 0) ((1 : Int32).toNatClampNeg) 0) ((2 : Int32).toNatClampNeg) 0) ((3 : Int32).toNatClampNeg) 0) ((4 : Int32).toNatClampNeg) 0) ((5 : Int32).toNatClampNeg) 0)))), (h0, .inr (5, [.ref h1, .ref h2, .ref h3, .ref h4, .int 6])), (h4, .inr (8, [.ref h10, .int wp4100501])), (h10, .inl (y 1, 3, .inr (.inl (fun _ => 0))))] := hD
  refine lv_iinc (v := 1) (lv' := [(2, .int 1), (1, .int 4), (0, .ref h0)]) hx hb dX5_findOut_65 hl (k := 0) rfl (by decide +kernel) (by decide) rfl ?_
  clear hl
  clear ls
  intro ls hl
  refine lv_goto (tgt := 54) hx hb dX5_findOut_68 (by decide) ?_
  refine lv_iload_n hx hb dX5_findOut_54 rfl (lv_at hl 0 rfl) ?_
  refine lv_iconst (v := 3) hx hb dX5_findOut_55 (by decide) ?_
  refine lv_icmp_ge (tgt := 71) hx hb dX5_findOut_56 (by decide) (fun c9 => absurd c9 (by decide +kernel)) (fun _ => ?_)
  refine lv_aload_n hx hb dX5_findOut_59 rfl (lv_at hl 2 rfl) ?_
  refine lv_iload_n hx hb dX5_findOut_60 rfl (lv_at hl 0 rfl) ?_
  refine lv_iload_n hx hb dX5_findOut_61 rfl (lv_at hl 1 rfl) ?_
  refine g_av (wr := [(h1, .inr (8, [.ref h6, .int 6])), (h2, .inr (8, [.ref h7, .int wp4100499])), (h7, .inl (y 1, 200, .inr (.inl (vp_updL (vp_updL (vp_updL (vp_updL (vp_updL (vp_updL wf4100500 ((0 : Int32).toNatClampNeg) 0) ((1 : Int32).toNatClampNeg) 0) ((2 : Int32).toNatClampNeg) 0) ((3 : Int32).toNatClampNeg) 0) ((4 : Int32).toNatClampNeg) 0) ((5 : Int32).toNatClampNeg) 0))))]) (va_runV (As := [.int 1, .int 4]) (rest := []) ⟨hx, hb, hml, hown, hg⟩ (k_X5_find_13 l D y aS H.size h0 h1 h2 h3 h4 6 h10 wp4100501) (cwV 2 hg ggV_RX5_54_X5_find rfl rfl rfl (by decide +kernel) ⟨Nat.le_of_ble_eq_true rfl, Nat.le_of_ble_eq_true rfl⟩) (g_preV (q := (RX5, TX5, 5)) hK hP hD [3, 4, 5] rfl (by decide) (ci := 5) (q0 := 3) rfl rfl) rfl rfl hl.1 rfl (lv_room (Nat.le_of_ble_eq_true rfl)) dX5_findOut_62 ⟨Nat.le_of_ble_eq_true rfl, Nat.le_of_ble_eq_true rfl⟩) hP hD hS hA [3, 4, 5] [0, 1, 2] rfl rfl (by decide) (by decide) ?_
  clear hP hD hS H locs
  refine fun u H locs hq hP hD hS => ?_
  replace hP : va_P D vwCl [(h1, .inr (8, [.ref h6, .int 6])), (h2, .inr (8, [.ref h7, .int wp4100499])), (h7, .inl (y 1, 200, .inr (.inl (vp_updL (vp_updL (vp_updL (vp_updL (vp_updL (vp_updL wf4100500 ((0 : Int32).toNatClampNeg) 0) ((1 : Int32).toNatClampNeg) 0) ((2 : Int32).toNatClampNeg) 0) ((3 : Int32).toNatClampNeg) 0) ((4 : Int32).toNatClampNeg) 0) ((5 : Int32).toNatClampNeg) 0)))), (h0, .inr (5, [.ref h1, .ref h2, .ref h3, .ref h4, .int 6])), (h4, .inr (8, [.ref h10, .int wp4100501])), (h10, .inl (y 1, 3, .inr (.inl (fun _ => 0))))] H := hP
  replace hD : va_D A [(h1, .inr (8, [.ref h6, .int 6])), (h2, .inr (8, [.ref h7, .int wp4100499])), (h7, .inl (y 1, 200, .inr (.inl (vp_updL (vp_updL (vp_updL (vp_updL (vp_updL (vp_updL wf4100500 ((0 : Int32).toNatClampNeg) 0) ((1 : Int32).toNatClampNeg) 0) ((2 : Int32).toNatClampNeg) 0) ((3 : Int32).toNatClampNeg) 0) ((4 : Int32).toNatClampNeg) 0) ((5 : Int32).toNatClampNeg) 0)))), (h0, .inr (5, [.ref h1, .ref h2, .ref h3, .ref h4, .int 6])), (h4, .inr (8, [.ref h10, .int wp4100501])), (h10, .inl (y 1, 3, .inr (.inl (fun _ => 0))))] := hD
  refine lv_iinc (v := 2) (lv' := [(2, .int 2), (1, .int 4), (0, .ref h0)]) hx hb dX5_findOut_65 hl (k := 0) rfl (by decide +kernel) (by decide) rfl ?_
  clear hl
  clear ls
  intro ls hl
  refine lv_goto (tgt := 54) hx hb dX5_findOut_68 (by decide) ?_
  refine lv_iload_n hx hb dX5_findOut_54 rfl (lv_at hl 0 rfl) ?_
  refine lv_iconst (v := 3) hx hb dX5_findOut_55 (by decide) ?_
  refine lv_icmp_ge (tgt := 71) hx hb dX5_findOut_56 (by decide) (fun c9 => absurd c9 (by decide +kernel)) (fun _ => ?_)
  refine lv_aload_n hx hb dX5_findOut_59 rfl (lv_at hl 2 rfl) ?_
  refine lv_iload_n hx hb dX5_findOut_60 rfl (lv_at hl 0 rfl) ?_
  refine lv_iload_n hx hb dX5_findOut_61 rfl (lv_at hl 1 rfl) ?_
  refine g_av (wr := [(h1, .inr (8, [.ref h6, .int 6])), (h2, .inr (8, [.ref h7, .int wp4100499])), (h7, .inl (y 1, 200, .inr (.inl (vp_updL (vp_updL (vp_updL (vp_updL (vp_updL (vp_updL wf4100500 ((0 : Int32).toNatClampNeg) 0) ((1 : Int32).toNatClampNeg) 0) ((2 : Int32).toNatClampNeg) 0) ((3 : Int32).toNatClampNeg) 0) ((4 : Int32).toNatClampNeg) 0) ((5 : Int32).toNatClampNeg) 0))))]) (va_runV (As := [.int 2, .int 4]) (rest := []) ⟨hx, hb, hml, hown, hg⟩ (k_X5_find_14 l D y aS H.size h0 h1 h2 h3 h4 6 h10 wp4100501) (cwV 2 hg ggV_RX5_54_X5_find rfl rfl rfl (by decide +kernel) ⟨Nat.le_of_ble_eq_true rfl, Nat.le_of_ble_eq_true rfl⟩) (g_preV (q := (RX5, TX5, 5)) hK hP hD [3, 4, 5] rfl (by decide) (ci := 5) (q0 := 3) rfl rfl) rfl rfl hl.1 rfl (lv_room (Nat.le_of_ble_eq_true rfl)) dX5_findOut_62 ⟨Nat.le_of_ble_eq_true rfl, Nat.le_of_ble_eq_true rfl⟩) hP hD hS hA [3, 4, 5] [0, 1, 2] rfl rfl (by decide) (by decide) ?_
  clear hP hD hS H locs
  refine fun u H locs hq hP hD hS => ?_
  replace hP : va_P D vwCl [(h1, .inr (8, [.ref h6, .int 6])), (h2, .inr (8, [.ref h7, .int wp4100499])), (h7, .inl (y 1, 200, .inr (.inl (vp_updL (vp_updL (vp_updL (vp_updL (vp_updL (vp_updL wf4100500 ((0 : Int32).toNatClampNeg) 0) ((1 : Int32).toNatClampNeg) 0) ((2 : Int32).toNatClampNeg) 0) ((3 : Int32).toNatClampNeg) 0) ((4 : Int32).toNatClampNeg) 0) ((5 : Int32).toNatClampNeg) 0)))), (h0, .inr (5, [.ref h1, .ref h2, .ref h3, .ref h4, .int 6])), (h4, .inr (8, [.ref h10, .int wp4100501])), (h10, .inl (y 1, 3, .inr (.inl (fun _ => 0))))] H := hP
  replace hD : va_D A [(h1, .inr (8, [.ref h6, .int 6])), (h2, .inr (8, [.ref h7, .int wp4100499])), (h7, .inl (y 1, 200, .inr (.inl (vp_updL (vp_updL (vp_updL (vp_updL (vp_updL (vp_updL wf4100500 ((0 : Int32).toNatClampNeg) 0) ((1 : Int32).toNatClampNeg) 0) ((2 : Int32).toNatClampNeg) 0) ((3 : Int32).toNatClampNeg) 0) ((4 : Int32).toNatClampNeg) 0) ((5 : Int32).toNatClampNeg) 0)))), (h0, .inr (5, [.ref h1, .ref h2, .ref h3, .ref h4, .int 6])), (h4, .inr (8, [.ref h10, .int wp4100501])), (h10, .inl (y 1, 3, .inr (.inl (fun _ => 0))))] := hD
  refine lv_iinc (v := 3) (lv' := [(2, .int 3), (1, .int 4), (0, .ref h0)]) hx hb dX5_findOut_65 hl (k := 0) rfl (by decide +kernel) (by decide) rfl ?_
  clear hl
  clear ls
  intro ls hl
  refine lv_goto (tgt := 54) hx hb dX5_findOut_68 (by decide) ?_
  refine lv_iload_n hx hb dX5_findOut_54 rfl (lv_at hl 0 rfl) ?_
  refine lv_iconst (v := 3) hx hb dX5_findOut_55 (by decide) ?_
  refine lv_icmp_ge (tgt := 71) hx hb dX5_findOut_56 (by decide) (fun _ => ?_) (fun c9 => absurd c9 (by decide +kernel))
  refine lv_iinc (v := 5) (lv' := [(1, .int 5), (2, .int 3), (0, .ref h0)]) hx hb dX5_findOut_71 hl (k := 1) rfl (by decide +kernel) (by decide) rfl ?_
  clear hl
  clear ls
  intro ls hl
  refine lv_goto (tgt := 41) hx hb dX5_findOut_74 (by decide) ?_
  refine lv_iload_n hx hb dX5_findOut_41 rfl (lv_at hl 0 rfl) ?_
  refine lv_aload_n hx hb dX5_findOut_42 rfl (lv_at hl 2 rfl) ?_
  refine gm_get (D := D) (ci := 5) (v := .ref h1) (C := RX5) (T := TX5) (N := 5) hx hb hg inlX5 hown hK.1 hP 3 rfl rfl 0 (by decide) tX5_0 (hg _ gw_138) rfl dX5_findOut_43 ?_
  refine gm_get (D := D) (ci := 8) (v := .int 6) (C := RX8) (T := TX8) (N := 2) hx hb hg inlX8 hown hK.1 hP 0 rfl rfl 1 (by decide) tX8_1 (hg _ gw_1441) rfl dX5_findOut_46 ?_
  refine lv_icmp_ge (tgt := 77) hx hb dX5_findOut_49 (by decide) (fun c9 => absurd c9 (by decide +kernel)) (fun _ => ?_)
  refine lv_iconst (v := 0) hx hb dX5_findOut_52 (by decide) ?_
  refine lv_istore_n (lv' := [(2, .int 0), (1, .int 5), (0, .ref h0)]) hx hb dX5_findOut_53 rfl hl (by decide) rfl ?_
  clear hl
  clear ls
  intro ls hl
  refine lv_iload_n hx hb dX5_findOut_54 rfl (lv_at hl 0 rfl) ?_
  refine lv_iconst (v := 3) hx hb dX5_findOut_55 (by decide) ?_
  refine lv_icmp_ge (tgt := 71) hx hb dX5_findOut_56 (by decide) (fun c9 => absurd c9 (by decide +kernel)) (fun _ => ?_)
  refine lv_aload_n hx hb dX5_findOut_59 rfl (lv_at hl 2 rfl) ?_
  refine lv_iload_n hx hb dX5_findOut_60 rfl (lv_at hl 0 rfl) ?_
  refine lv_iload_n hx hb dX5_findOut_61 rfl (lv_at hl 1 rfl) ?_
  refine g_av (wr := [(h1, .inr (8, [.ref h6, .int 6])), (h2, .inr (8, [.ref h7, .int wp4100499])), (h7, .inl (y 1, 200, .inr (.inl (vp_updL (vp_updL (vp_updL (vp_updL (vp_updL (vp_updL wf4100500 ((0 : Int32).toNatClampNeg) 0) ((1 : Int32).toNatClampNeg) 0) ((2 : Int32).toNatClampNeg) 0) ((3 : Int32).toNatClampNeg) 0) ((4 : Int32).toNatClampNeg) 0) ((5 : Int32).toNatClampNeg) 0))))]) (va_runV (As := [.int 0, .int 5]) (rest := []) ⟨hx, hb, hml, hown, hg⟩ (k_X5_find_15 l D y aS H.size h0 h1 h2 h3 h4 6 h10 wp4100501) (cwV 2 hg ggV_RX5_54_X5_find rfl rfl rfl (by decide +kernel) ⟨Nat.le_of_ble_eq_true rfl, Nat.le_of_ble_eq_true rfl⟩) (g_preV (q := (RX5, TX5, 5)) hK hP hD [3, 4, 5] rfl (by decide) (ci := 5) (q0 := 3) rfl rfl) rfl rfl hl.1 rfl (lv_room (Nat.le_of_ble_eq_true rfl)) dX5_findOut_62 ⟨Nat.le_of_ble_eq_true rfl, Nat.le_of_ble_eq_true rfl⟩) hP hD hS hA [3, 4, 5] [0, 1, 2] rfl rfl (by decide) (by decide) ?_
  clear hP hD hS H locs
  refine fun u H locs hq hP hD hS => ?_
  replace hP : va_P D vwCl [(h1, .inr (8, [.ref h6, .int 6])), (h2, .inr (8, [.ref h7, .int wp4100499])), (h7, .inl (y 1, 200, .inr (.inl (vp_updL (vp_updL (vp_updL (vp_updL (vp_updL (vp_updL wf4100500 ((0 : Int32).toNatClampNeg) 0) ((1 : Int32).toNatClampNeg) 0) ((2 : Int32).toNatClampNeg) 0) ((3 : Int32).toNatClampNeg) 0) ((4 : Int32).toNatClampNeg) 0) ((5 : Int32).toNatClampNeg) 0)))), (h0, .inr (5, [.ref h1, .ref h2, .ref h3, .ref h4, .int 6])), (h4, .inr (8, [.ref h10, .int wp4100501])), (h10, .inl (y 1, 3, .inr (.inl (fun _ => 0))))] H := hP
  replace hD : va_D A [(h1, .inr (8, [.ref h6, .int 6])), (h2, .inr (8, [.ref h7, .int wp4100499])), (h7, .inl (y 1, 200, .inr (.inl (vp_updL (vp_updL (vp_updL (vp_updL (vp_updL (vp_updL wf4100500 ((0 : Int32).toNatClampNeg) 0) ((1 : Int32).toNatClampNeg) 0) ((2 : Int32).toNatClampNeg) 0) ((3 : Int32).toNatClampNeg) 0) ((4 : Int32).toNatClampNeg) 0) ((5 : Int32).toNatClampNeg) 0)))), (h0, .inr (5, [.ref h1, .ref h2, .ref h3, .ref h4, .int 6])), (h4, .inr (8, [.ref h10, .int wp4100501])), (h10, .inl (y 1, 3, .inr (.inl (fun _ => 0))))] := hD
  refine lv_iinc (v := 1) (lv' := [(2, .int 1), (1, .int 5), (0, .ref h0)]) hx hb dX5_findOut_65 hl (k := 0) rfl (by decide +kernel) (by decide) rfl ?_
  clear hl
  clear ls
  intro ls hl
  refine lv_goto (tgt := 54) hx hb dX5_findOut_68 (by decide) ?_
  refine lv_iload_n hx hb dX5_findOut_54 rfl (lv_at hl 0 rfl) ?_
  refine lv_iconst (v := 3) hx hb dX5_findOut_55 (by decide) ?_
  refine lv_icmp_ge (tgt := 71) hx hb dX5_findOut_56 (by decide) (fun c9 => absurd c9 (by decide +kernel)) (fun _ => ?_)
  refine lv_aload_n hx hb dX5_findOut_59 rfl (lv_at hl 2 rfl) ?_
  refine lv_iload_n hx hb dX5_findOut_60 rfl (lv_at hl 0 rfl) ?_
  refine lv_iload_n hx hb dX5_findOut_61 rfl (lv_at hl 1 rfl) ?_
  refine g_av (wr := [(h1, .inr (8, [.ref h6, .int 6])), (h2, .inr (8, [.ref h7, .int wp4100499])), (h7, .inl (y 1, 200, .inr (.inl (vp_updL (vp_updL (vp_updL (vp_updL (vp_updL (vp_updL wf4100500 ((0 : Int32).toNatClampNeg) 0) ((1 : Int32).toNatClampNeg) 0) ((2 : Int32).toNatClampNeg) 0) ((3 : Int32).toNatClampNeg) 0) ((4 : Int32).toNatClampNeg) 0) ((5 : Int32).toNatClampNeg) 0))))]) (va_runV (As := [.int 1, .int 5]) (rest := []) ⟨hx, hb, hml, hown, hg⟩ (k_X5_find_16 l D y aS H.size h0 h1 h2 h3 h4 6 h10 wp4100501) (cwV 2 hg ggV_RX5_54_X5_find rfl rfl rfl (by decide +kernel) ⟨Nat.le_of_ble_eq_true rfl, Nat.le_of_ble_eq_true rfl⟩) (g_preV (q := (RX5, TX5, 5)) hK hP hD [3, 4, 5] rfl (by decide) (ci := 5) (q0 := 3) rfl rfl) rfl rfl hl.1 rfl (lv_room (Nat.le_of_ble_eq_true rfl)) dX5_findOut_62 ⟨Nat.le_of_ble_eq_true rfl, Nat.le_of_ble_eq_true rfl⟩) hP hD hS hA [3, 4, 5] [0, 1, 2] rfl rfl (by decide) (by decide) ?_
  clear hP hD hS H locs
  refine fun u H locs hq hP hD hS => ?_
  replace hP : va_P D vwCl [(h1, .inr (8, [.ref h6, .int 6])), (h2, .inr (8, [.ref h7, .int wp4100499])), (h7, .inl (y 1, 200, .inr (.inl (vp_updL (vp_updL (vp_updL (vp_updL (vp_updL (vp_updL wf4100500 ((0 : Int32).toNatClampNeg) 0) ((1 : Int32).toNatClampNeg) 0) ((2 : Int32).toNatClampNeg) 0) ((3 : Int32).toNatClampNeg) 0) ((4 : Int32).toNatClampNeg) 0) ((5 : Int32).toNatClampNeg) 0)))), (h0, .inr (5, [.ref h1, .ref h2, .ref h3, .ref h4, .int 6])), (h4, .inr (8, [.ref h10, .int wp4100501])), (h10, .inl (y 1, 3, .inr (.inl (fun _ => 0))))] H := hP
  replace hD : va_D A [(h1, .inr (8, [.ref h6, .int 6])), (h2, .inr (8, [.ref h7, .int wp4100499])), (h7, .inl (y 1, 200, .inr (.inl (vp_updL (vp_updL (vp_updL (vp_updL (vp_updL (vp_updL wf4100500 ((0 : Int32).toNatClampNeg) 0) ((1 : Int32).toNatClampNeg) 0) ((2 : Int32).toNatClampNeg) 0) ((3 : Int32).toNatClampNeg) 0) ((4 : Int32).toNatClampNeg) 0) ((5 : Int32).toNatClampNeg) 0)))), (h0, .inr (5, [.ref h1, .ref h2, .ref h3, .ref h4, .int 6])), (h4, .inr (8, [.ref h10, .int wp4100501])), (h10, .inl (y 1, 3, .inr (.inl (fun _ => 0))))] := hD
  refine lv_iinc (v := 2) (lv' := [(2, .int 2), (1, .int 5), (0, .ref h0)]) hx hb dX5_findOut_65 hl (k := 0) rfl (by decide +kernel) (by decide) rfl ?_
  clear hl
  clear ls
  intro ls hl
  refine lv_goto (tgt := 54) hx hb dX5_findOut_68 (by decide) ?_
  refine lv_iload_n hx hb dX5_findOut_54 rfl (lv_at hl 0 rfl) ?_
  refine lv_iconst (v := 3) hx hb dX5_findOut_55 (by decide) ?_
  refine lv_icmp_ge (tgt := 71) hx hb dX5_findOut_56 (by decide) (fun c9 => absurd c9 (by decide +kernel)) (fun _ => ?_)
  refine lv_aload_n hx hb dX5_findOut_59 rfl (lv_at hl 2 rfl) ?_
  refine lv_iload_n hx hb dX5_findOut_60 rfl (lv_at hl 0 rfl) ?_
  refine lv_iload_n hx hb dX5_findOut_61 rfl (lv_at hl 1 rfl) ?_
  refine g_av (wr := [(h1, .inr (8, [.ref h6, .int 6])), (h2, .inr (8, [.ref h7, .int wp4100499])), (h7, .inl (y 1, 200, .inr (.inl (vp_updL (vp_updL (vp_updL (vp_updL (vp_updL (vp_updL wf4100500 ((0 : Int32).toNatClampNeg) 0) ((1 : Int32).toNatClampNeg) 0) ((2 : Int32).toNatClampNeg) 0) ((3 : Int32).toNatClampNeg) 0) ((4 : Int32).toNatClampNeg) 0) ((5 : Int32).toNatClampNeg) 0))))]) (va_runV (As := [.int 2, .int 5]) (rest := []) ⟨hx, hb, hml, hown, hg⟩ (k_X5_find_17 l D y aS H.size h0 h1 h2 h3 h4 6 h10 wp4100501) (cwV 2 hg ggV_RX5_54_X5_find rfl rfl rfl (by decide +kernel) ⟨Nat.le_of_ble_eq_true rfl, Nat.le_of_ble_eq_true rfl⟩) (g_preV (q := (RX5, TX5, 5)) hK hP hD [3, 4, 5] rfl (by decide) (ci := 5) (q0 := 3) rfl rfl) rfl rfl hl.1 rfl (lv_room (Nat.le_of_ble_eq_true rfl)) dX5_findOut_62 ⟨Nat.le_of_ble_eq_true rfl, Nat.le_of_ble_eq_true rfl⟩) hP hD hS hA [3, 4, 5] [0, 1, 2] rfl rfl (by decide) (by decide) ?_
  clear hP hD hS H locs
  refine fun u H locs hq hP hD hS => ?_
  replace hP : va_P D vwCl [(h1, .inr (8, [.ref h6, .int 6])), (h2, .inr (8, [.ref h7, .int wp4100499])), (h7, .inl (y 1, 200, .inr (.inl (vp_updL (vp_updL (vp_updL (vp_updL (vp_updL (vp_updL wf4100500 ((0 : Int32).toNatClampNeg) 0) ((1 : Int32).toNatClampNeg) 0) ((2 : Int32).toNatClampNeg) 0) ((3 : Int32).toNatClampNeg) 0) ((4 : Int32).toNatClampNeg) 0) ((5 : Int32).toNatClampNeg) 0)))), (h0, .inr (5, [.ref h1, .ref h2, .ref h3, .ref h4, .int 6])), (h4, .inr (8, [.ref h10, .int wp4100501])), (h10, .inl (y 1, 3, .inr (.inl (fun _ => 0))))] H := hP
  replace hD : va_D A [(h1, .inr (8, [.ref h6, .int 6])), (h2, .inr (8, [.ref h7, .int wp4100499])), (h7, .inl (y 1, 200, .inr (.inl (vp_updL (vp_updL (vp_updL (vp_updL (vp_updL (vp_updL wf4100500 ((0 : Int32).toNatClampNeg) 0) ((1 : Int32).toNatClampNeg) 0) ((2 : Int32).toNatClampNeg) 0) ((3 : Int32).toNatClampNeg) 0) ((4 : Int32).toNatClampNeg) 0) ((5 : Int32).toNatClampNeg) 0)))), (h0, .inr (5, [.ref h1, .ref h2, .ref h3, .ref h4, .int 6])), (h4, .inr (8, [.ref h10, .int wp4100501])), (h10, .inl (y 1, 3, .inr (.inl (fun _ => 0))))] := hD
  refine lv_iinc (v := 3) (lv' := [(2, .int 3), (1, .int 5), (0, .ref h0)]) hx hb dX5_findOut_65 hl (k := 0) rfl (by decide +kernel) (by decide) rfl ?_
  clear hl
  clear ls
  intro ls hl
  refine lv_goto (tgt := 54) hx hb dX5_findOut_68 (by decide) ?_
  refine lv_iload_n hx hb dX5_findOut_54 rfl (lv_at hl 0 rfl) ?_
  refine lv_iconst (v := 3) hx hb dX5_findOut_55 (by decide) ?_
  refine lv_icmp_ge (tgt := 71) hx hb dX5_findOut_56 (by decide) (fun _ => ?_) (fun c9 => absurd c9 (by decide +kernel))
  refine lv_iinc (v := 6) (lv' := [(1, .int 6), (2, .int 3), (0, .ref h0)]) hx hb dX5_findOut_71 hl (k := 1) rfl (by decide +kernel) (by decide) rfl ?_
  clear hl
  clear ls
  intro ls hl
  refine lv_goto (tgt := 41) hx hb dX5_findOut_74 (by decide) ?_
  refine lv_iload_n hx hb dX5_findOut_41 rfl (lv_at hl 0 rfl) ?_
  refine lv_aload_n hx hb dX5_findOut_42 rfl (lv_at hl 2 rfl) ?_
  refine gm_get (D := D) (ci := 5) (v := .ref h1) (C := RX5) (T := TX5) (N := 5) hx hb hg inlX5 hown hK.1 hP 3 rfl rfl 0 (by decide) tX5_0 (hg _ gw_138) rfl dX5_findOut_43 ?_
  refine gm_get (D := D) (ci := 8) (v := .int 6) (C := RX8) (T := TX8) (N := 2) hx hb hg inlX8 hown hK.1 hP 0 rfl rfl 1 (by decide) tX8_1 (hg _ gw_1441) rfl dX5_findOut_46 ?_
  refine lv_icmp_ge (tgt := 77) hx hb dX5_findOut_49 (by decide) (fun _ => ?_) (fun c9 => absurd c9 (by decide +kernel))
  exact g_vret hx hb hr hlocks () (hP.sub [3, 0, 1, 2, 4, 5] rfl) (hD.sub [3, 0, 1, 2, 4, 5] (by decide +kernel) rfl) hS trivial (Nat.le_of_ble_eq_true rfl) (Nat.le_of_ble_eq_true rfl) dX5_findOut_77
set_option maxRecDepth 100000 in
set_option maxHeartbeats 4000000 in
theorem k_X5_append_5 (l : Launch) (D : va_G) (y : Nat → ClassId) (aS : Nat → Nat) (sz : Nat) (h0 : Nat) (p1 : Int32) (h2 : Nat) (h3 : Nat) (h4 : Nat) (h5 : Nat) (h6 : Nat) (wf4100527 : Nat → Int64) (h8 : Nat) (wp4100528 : Int32) (wf4100529 : Nat → Int64) (h11 : Nat) (wp4100530 : Int32) : Met l yX5_append (Cond.code yX5_append cX5_append 6 (some .int) :: wsL_law) ({ frames := 3, cells := 0, slots := 0, locals := 68 } : Room) (va_Pc [.ref h0, .int p1, .int 6] (gI D y aS [(h0, .inr (5, [.ref h2, .ref h3, .ref h4, .ref h5, .int 0])), (h2, .inr (8, [.ref h6, .int 0])), (h6, .inl (y 1, 200, .inr (.inl wf4100527))), (h3, .inr (8, [.ref h8, .int wp4100528])), (h8, .inl (y 1, 200, .inr (.inl wf4100529))), (h5, .inr (8, [.ref h11, .int wp4100530])), (h11, .inl (y 1, 3, .inr (.inl (fun _ => 0))))] sz)) (va_Qi (fun (r : Int32) (u : Unit) => 6 = r) (fun u => gO D (va_A [(h0, .inr (5, [.ref h2, .ref h3, .ref h4, .ref h5, .int 0])), (h2, .inr (8, [.ref h6, .int 0])), (h6, .inl (y 1, 200, .inr (.inl wf4100527))), (h3, .inr (8, [.ref h8, .int wp4100528])), (h8, .inl (y 1, 200, .inr (.inl wf4100529))), (h5, .inr (8, [.ref h11, .int wp4100530])), (h11, .inl (y 1, 3, .inr (.inl (fun _ => 0))))] sz) [(h0, .inr (5, [.ref h2, .ref h3, .ref h4, .ref h5, .int 6])), (h2, .inr (8, [.ref h6, .int 6])), (h6, .inl (y 1, 200, .inr (.inl (vp_updL (vp_updL (vp_updL (vp_updL (vp_updL (vp_updL (vp_updL (vp_updL (vp_updL (vp_updL (vp_updL (vp_updL wf4100527 ((0 : Int32).toNatClampNeg) 0) ((1 : Int32).toNatClampNeg) 0) ((2 : Int32).toNatClampNeg) 0) ((3 : Int32).toNatClampNeg) 0) ((4 : Int32).toNatClampNeg) 0) ((5 : Int32).toNatClampNeg) 0) ((5 : Int32).toNatClampNeg) ((p1 - p1 / 10 * 10).toInt64)) ((4 : Int32).toNatClampNeg) (((p1 / 10) - (p1 / 10) / 10 * 10).toInt64)) ((3 : Int32).toNatClampNeg) ((((p1 / 10) / 10) - ((p1 / 10) / 10) / 10 * 10).toInt64)) ((2 : Int32).toNatClampNeg) (((((p1 / 10) / 10) / 10) - (((p1 / 10) / 10) / 10) / 10 * 10).toInt64)) ((1 : Int32).toNatClampNeg) ((((((p1 / 10) / 10) / 10) / 10) - ((((p1 / 10) / 10) / 10) / 10) / 10 * 10).toInt64)) ((0 : Int32).toNatClampNeg) (((((((p1 / 10) / 10) / 10) / 10) / 10) - (((((p1 / 10) / 10) / 10) / 10) / 10) / 10 * 10).toInt64))))), (h3, .inr (8, [.ref h8, .int wp4100528])), (h8, .inl (y 1, 200, .inr (.inl (vp_updL (vp_updL (vp_updL (vp_updL (vp_updL (vp_updL wf4100529 ((0 : Int32).toNatClampNeg) 0) ((1 : Int32).toNatClampNeg) 0) ((2 : Int32).toNatClampNeg) 0) ((3 : Int32).toNatClampNeg) 0) ((4 : Int32).toNatClampNeg) 0) ((5 : Int32).toNatClampNeg) 0)))), (h5, .inr (8, [.ref h11, .int wp4100530])), (h11, .inl (y 1, 3, .inr (.inl (fun _ => 0))))]) (va_A [(h0, .inr (5, [.ref h2, .ref h3, .ref h4, .ref h5, .int 0])), (h2, .inr (8, [.ref h6, .int 0])), (h6, .inl (y 1, 200, .inr (.inl wf4100527))), (h3, .inr (8, [.ref h8, .int wp4100528])), (h8, .inl (y 1, 200, .inr (.inl wf4100529))), (h5, .inr (8, [.ref h11, .int wp4100530])), (h11, .inl (y 1, 3, .inr (.inl (fun _ => 0))))] sz)) 0 0 (va_A [(h0, .inr (5, [.ref h2, .ref h3, .ref h4, .ref h5, .int 0])), (h2, .inr (8, [.ref h6, .int 0])), (h6, .inl (y 1, 200, .inr (.inl wf4100527))), (h3, .inr (8, [.ref h8, .int wp4100528])), (h8, .inl (y 1, 200, .inr (.inl wf4100529))), (h5, .inr (8, [.ref h11, .int wp4100530])), (h11, .inl (y 1, 3, .inr (.inl (fun _ => 0))))] sz) := by
  refine g_of (by decide) (Nat.le_of_ble_eq_true rfl) ?_
  intro p e s m below meth c ls A hx hb hr hml hown hg hlocks hin hsz hK hP hD hS hA hAe hl
  rw [← hAe]
  replace hown : s.vm.findClass RX5 = some m.cls := hown
  replace hl : lv_has ls 6 [(0, .ref h0), (1, .int p1), (2, .int 6)] := hl
  refine lv_aload_n hx hb dX5_append_0 rfl (lv_at hl 0 rfl) ?_
  refine gm_get (D := D) (ci := 5) (v := .ref h2) (C := RX5) (T := TX5) (N := 5) hx hb hg inlX5 hown hK.1 hP 0 rfl rfl 0 (by decide) tX5_0 (hg _ gw_138) rfl dX5_append_1 ?_
  refine gm_get (D := D) (ci := 8) (v := .int 0) (C := RX8) (T := TX8) (N := 2) hx hb hg inlX8 hown hK.1 hP 1 rfl rfl 1 (by decide) tX8_1 (hg _ gw_1441) rfl dX5_append_4 ?_
  refine lv_istore_n (lv' := [(3, .int 0), (0, .ref h0), (1, .int p1), (2, .int 6)]) hx hb dX5_append_7 rfl hl (by decide) rfl ?_
  clear hl
  clear ls
  intro ls hl
  refine lv_aload_n hx hb dX5_append_8 rfl (lv_at hl 1 rfl) ?_
  refine gm_get (D := D) (ci := 5) (v := .ref h2) (C := RX5) (T := TX5) (N := 5) hx hb hg inlX5 hown hK.1 hP 0 rfl rfl 0 (by decide) tX5_0 (hg _ gw_138) rfl dX5_append_9 ?_
  refine lv_iload_n hx hb dX5_append_12 rfl (lv_at hl 3 rfl) ?_
  refine lv_lconst (v := 0) hx hb dX5_append_13 (by decide) ?_
  refine g_av (wr := [(h0, .inr (5, [.ref h2, .ref h3, .ref h4, .ref h5, .int 0])), (h3, .inr (8, [.ref h8, .int wp4100528])), (h8, .inl (y 1, 200, .inr (.inl wf4100529))), (h5, .inr (8, [.ref h11, .int wp4100530])), (h11, .inl (y 1, 3, .inr (.inl (fun _ => 0))))]) (va_runV (As := [.int 6, .long 0]) (rest := []) ⟨hx, hb, hml, hown, hg⟩ (k_X8_addMany_9 l D y aS s.heap.size h2 h6 wf4100527) (cwV 2 hg ggV_RX5_44_X8_addMany rfl rfl rfl (by decide +kernel) ⟨Nat.le_of_ble_eq_true rfl, Nat.le_of_ble_eq_true rfl⟩) (g_preV (q := (RX8, TX8, 2)) hK hP hD [1, 2] rfl (by decide) (ci := 8) (q0 := 1) rfl rfl) rfl rfl hl.1 rfl (lv_room (Nat.le_of_ble_eq_true rfl)) dX5_append_14 ⟨Nat.le_of_ble_eq_true rfl, Nat.le_of_ble_eq_true rfl⟩) hP hD hS hA [1, 2] [0, 3, 4, 5, 6] rfl rfl (by decide) (by decide) ?_
  clear hP hD hS
  refine fun u H locs hq hP hD hS => ?_
  replace hP : va_P D vwCl [(h0, .inr (5, [.ref h2, .ref h3, .ref h4, .ref h5, .int 0])), (h3, .inr (8, [.ref h8, .int wp4100528])), (h8, .inl (y 1, 200, .inr (.inl wf4100529))), (h5, .inr (8, [.ref h11, .int wp4100530])), (h11, .inl (y 1, 3, .inr (.inl (fun _ => 0)))), (h2, .inr (8, [.ref h6, .int 6])), (h6, .inl (y 1, 200, .inr (.inl (vp_updL (vp_updL (vp_updL (vp_updL (vp_updL (vp_updL wf4100527 ((0 : Int32).toNatClampNeg) 0) ((1 : Int32).toNatClampNeg) 0) ((2 : Int32).toNatClampNeg) 0) ((3 : Int32).toNatClampNeg) 0) ((4 : Int32).toNatClampNeg) 0) ((5 : Int32).toNatClampNeg) 0))))] H := hP
  replace hD : va_D A [(h0, .inr (5, [.ref h2, .ref h3, .ref h4, .ref h5, .int 0])), (h3, .inr (8, [.ref h8, .int wp4100528])), (h8, .inl (y 1, 200, .inr (.inl wf4100529))), (h5, .inr (8, [.ref h11, .int wp4100530])), (h11, .inl (y 1, 3, .inr (.inl (fun _ => 0)))), (h2, .inr (8, [.ref h6, .int 6])), (h6, .inl (y 1, 200, .inr (.inl (vp_updL (vp_updL (vp_updL (vp_updL (vp_updL (vp_updL wf4100527 ((0 : Int32).toNatClampNeg) 0) ((1 : Int32).toNatClampNeg) 0) ((2 : Int32).toNatClampNeg) 0) ((3 : Int32).toNatClampNeg) 0) ((4 : Int32).toNatClampNeg) 0) ((5 : Int32).toNatClampNeg) 0))))] := hD
  refine lv_iload_n hx hb dX5_append_17 rfl (lv_at hl 2 rfl) ?_
  refine lv_istore (lv' := [(4, .int p1), (3, .int 0), (0, .ref h0), (1, .int p1), (2, .int 6)]) hx hb dX5_append_18 hl (by decide) rfl ?_
  clear hl
  clear ls
  intro ls hl
  refine lv_iload_n hx hb dX5_append_20 rfl (lv_at hl 1 rfl) ?_
  refine lv_iload_n hx hb dX5_append_21 rfl (lv_at hl 4 rfl) ?_
  refine lv_iadd hx hb dX5_append_22 ?_
  refine g_fi (v := 6) (by decide +kernel) ?_
  refine lv_iconst (v := 1) hx hb dX5_append_23 (by decide) ?_
  refine lv_isub hx hb dX5_append_24 ?_
  refine g_fi (v := 5) (by decide +kernel) ?_
  refine lv_istore (lv' := [(5, .int 5), (4, .int p1), (3, .int 0), (0, .ref h0), (1, .int p1), (2, .int 6)]) hx hb dX5_append_25 hl (by decide) rfl ?_
  clear hl
  clear ls
  intro ls hl
  refine lv_iload hx hb dX5_append_27 (lv_at hl 0 rfl) ?_
  refine lv_iload_n hx hb dX5_append_29 rfl (lv_at hl 2 rfl) ?_
  refine lv_icmp_lt (tgt := 61) hx hb dX5_append_30 (by decide) (fun c9 => absurd c9 (by decide +kernel)) (fun _ => ?_)
  refine lv_aload_n hx hb dX5_append_33 rfl (lv_at hl 3 rfl) ?_
  refine gm_get (D := D) (ci := 5) (v := .ref h2) (C := RX5) (T := TX5) (N := 5) hx hb hg inlX5 hown hK.1 hP 0 rfl rfl 0 (by decide) tX5_0 (hg _ gw_138) rfl dX5_append_34 ?_
  refine lv_iload hx hb dX5_append_37 (lv_at hl 0 rfl) ?_
  refine lv_iload hx hb dX5_append_39 (lv_at hl 1 rfl) ?_
  refine lv_bipush (v := 10) hx hb dX5_append_41 (by decide +kernel) ?_
  refine lv_irem hx hb dX5_append_43 (by decide +kernel) ?_
  refine lv_i2l (v := ((p1 - p1 / 10 * 10).toInt64)) hx hb dX5_append_44 rfl ?_
  refine g_av (wr := [(h0, .inr (5, [.ref h2, .ref h3, .ref h4, .ref h5, .int 0])), (h3, .inr (8, [.ref h8, .int wp4100528])), (h8, .inl (y 1, 200, .inr (.inl wf4100529))), (h5, .inr (8, [.ref h11, .int wp4100530])), (h11, .inl (y 1, 3, .inr (.inl (fun _ => 0))))]) (va_runV (As := [.int 5, .long ((p1 - p1 / 10 * 10).toInt64)]) (rest := []) ⟨hx, hb, hml, hown, hg⟩ (k_X8_set_50 l D y aS H.size h2 ((p1 - p1 / 10 * 10).toInt64) h6 6 (vp_updL (vp_updL (vp_updL (vp_updL (vp_updL (vp_updL wf4100527 ((0 : Int32).toNatClampNeg) 0) ((1 : Int32).toNatClampNeg) 0) ((2 : Int32).toNatClampNeg) 0) ((3 : Int32).toNatClampNeg) 0) ((4 : Int32).toNatClampNeg) 0) ((5 : Int32).toNatClampNeg) 0)) (cwV 2 hg ggV_RX5_29_X8_set rfl rfl rfl (by decide +kernel) ⟨Nat.le_of_ble_eq_true rfl, Nat.le_of_ble_eq_true rfl⟩) (g_preV (q := (RX8, TX8, 2)) hK hP hD [5, 6] rfl (by decide) (ci := 8) (q0 := 5) rfl rfl) rfl rfl hl.1 rfl (lv_room (Nat.le_of_ble_eq_true rfl)) dX5_append_45 ⟨Nat.le_of_ble_eq_true rfl, Nat.le_of_ble_eq_true rfl⟩) hP hD hS hA [5, 6] [0, 1, 2, 3, 4] rfl rfl (by decide) (by decide) ?_
  clear hP hD hS H locs
  refine fun u H locs hq hP hD hS => ?_
  replace hP : va_P D vwCl [(h0, .inr (5, [.ref h2, .ref h3, .ref h4, .ref h5, .int 0])), (h3, .inr (8, [.ref h8, .int wp4100528])), (h8, .inl (y 1, 200, .inr (.inl wf4100529))), (h5, .inr (8, [.ref h11, .int wp4100530])), (h11, .inl (y 1, 3, .inr (.inl (fun _ => 0)))), (h2, .inr (8, [.ref h6, .int 6])), (h6, .inl (y 1, 200, .inr (.inl (vp_updL (vp_updL (vp_updL (vp_updL (vp_updL (vp_updL (vp_updL wf4100527 ((0 : Int32).toNatClampNeg) 0) ((1 : Int32).toNatClampNeg) 0) ((2 : Int32).toNatClampNeg) 0) ((3 : Int32).toNatClampNeg) 0) ((4 : Int32).toNatClampNeg) 0) ((5 : Int32).toNatClampNeg) 0) ((5 : Int32).toNatClampNeg) ((p1 - p1 / 10 * 10).toInt64)))))] H := hP
  replace hD : va_D A [(h0, .inr (5, [.ref h2, .ref h3, .ref h4, .ref h5, .int 0])), (h3, .inr (8, [.ref h8, .int wp4100528])), (h8, .inl (y 1, 200, .inr (.inl wf4100529))), (h5, .inr (8, [.ref h11, .int wp4100530])), (h11, .inl (y 1, 3, .inr (.inl (fun _ => 0)))), (h2, .inr (8, [.ref h6, .int 6])), (h6, .inl (y 1, 200, .inr (.inl (vp_updL (vp_updL (vp_updL (vp_updL (vp_updL (vp_updL (vp_updL wf4100527 ((0 : Int32).toNatClampNeg) 0) ((1 : Int32).toNatClampNeg) 0) ((2 : Int32).toNatClampNeg) 0) ((3 : Int32).toNatClampNeg) 0) ((4 : Int32).toNatClampNeg) 0) ((5 : Int32).toNatClampNeg) 0) ((5 : Int32).toNatClampNeg) ((p1 - p1 / 10 * 10).toInt64)))))] := hD
  refine lv_iload hx hb dX5_append_48 (lv_at hl 1 rfl) ?_
  refine lv_bipush (v := 10) hx hb dX5_append_50 (by decide +kernel) ?_
  refine lv_idiv hx hb dX5_append_52 (by decide +kernel) ?_
  refine lv_istore (lv' := [(4, .int (p1 / 10)), (5, .int 5), (3, .int 0), (0, .ref h0), (1, .int p1), (2, .int 6)]) hx hb dX5_append_53 hl (by decide) rfl ?_
  clear hl
  clear ls
  intro ls hl
  refine lv_iinc (v := 4) (lv' := [(5, .int 4), (4, .int (p1 / 10)), (3, .int 0), (0, .ref h0), (1, .int p1), (2, .int 6)]) hx hb dX5_append_55 hl (k := 1) rfl (by decide +kernel) (by decide) rfl ?_
  clear hl
  clear ls
  intro ls hl
  refine lv_goto (tgt := 27) hx hb dX5_append_58 (by decide) ?_
  refine lv_iload hx hb dX5_append_27 (lv_at hl 0 rfl) ?_
  refine lv_iload_n hx hb dX5_append_29 rfl (lv_at hl 2 rfl) ?_
  refine lv_icmp_lt (tgt := 61) hx hb dX5_append_30 (by decide) (fun c9 => absurd c9 (by decide +kernel)) (fun _ => ?_)
  refine lv_aload_n hx hb dX5_append_33 rfl (lv_at hl 3 rfl) ?_
  refine gm_get (D := D) (ci := 5) (v := .ref h2) (C := RX5) (T := TX5) (N := 5) hx hb hg inlX5 hown hK.1 hP 0 rfl rfl 0 (by decide) tX5_0 (hg _ gw_138) rfl dX5_append_34 ?_
  refine lv_iload hx hb dX5_append_37 (lv_at hl 0 rfl) ?_
  refine lv_iload hx hb dX5_append_39 (lv_at hl 1 rfl) ?_
  refine lv_bipush (v := 10) hx hb dX5_append_41 (by decide +kernel) ?_
  refine lv_irem hx hb dX5_append_43 (by decide +kernel) ?_
  refine lv_i2l (v := (((p1 / 10) - (p1 / 10) / 10 * 10).toInt64)) hx hb dX5_append_44 rfl ?_
  refine g_av (wr := [(h0, .inr (5, [.ref h2, .ref h3, .ref h4, .ref h5, .int 0])), (h3, .inr (8, [.ref h8, .int wp4100528])), (h8, .inl (y 1, 200, .inr (.inl wf4100529))), (h5, .inr (8, [.ref h11, .int wp4100530])), (h11, .inl (y 1, 3, .inr (.inl (fun _ => 0))))]) (va_runV (As := [.int 4, .long (((p1 / 10) - (p1 / 10) / 10 * 10).toInt64)]) (rest := []) ⟨hx, hb, hml, hown, hg⟩ (k_X8_set_49 l D y aS H.size h2 (((p1 / 10) - (p1 / 10) / 10 * 10).toInt64) h6 6 (vp_updL (vp_updL (vp_updL (vp_updL (vp_updL (vp_updL (vp_updL wf4100527 ((0 : Int32).toNatClampNeg) 0) ((1 : Int32).toNatClampNeg) 0) ((2 : Int32).toNatClampNeg) 0) ((3 : Int32).toNatClampNeg) 0) ((4 : Int32).toNatClampNeg) 0) ((5 : Int32).toNatClampNeg) 0) ((5 : Int32).toNatClampNeg) ((p1 - p1 / 10 * 10).toInt64))) (cwV 2 hg ggV_RX5_29_X8_set rfl rfl rfl (by decide +kernel) ⟨Nat.le_of_ble_eq_true rfl, Nat.le_of_ble_eq_true rfl⟩) (g_preV (q := (RX8, TX8, 2)) hK hP hD [5, 6] rfl (by decide) (ci := 8) (q0 := 5) rfl rfl) rfl rfl hl.1 rfl (lv_room (Nat.le_of_ble_eq_true rfl)) dX5_append_45 ⟨Nat.le_of_ble_eq_true rfl, Nat.le_of_ble_eq_true rfl⟩) hP hD hS hA [5, 6] [0, 1, 2, 3, 4] rfl rfl (by decide) (by decide) ?_
  clear hP hD hS H locs
  refine fun u H locs hq hP hD hS => ?_
  replace hP : va_P D vwCl [(h0, .inr (5, [.ref h2, .ref h3, .ref h4, .ref h5, .int 0])), (h3, .inr (8, [.ref h8, .int wp4100528])), (h8, .inl (y 1, 200, .inr (.inl wf4100529))), (h5, .inr (8, [.ref h11, .int wp4100530])), (h11, .inl (y 1, 3, .inr (.inl (fun _ => 0)))), (h2, .inr (8, [.ref h6, .int 6])), (h6, .inl (y 1, 200, .inr (.inl (vp_updL (vp_updL (vp_updL (vp_updL (vp_updL (vp_updL (vp_updL (vp_updL wf4100527 ((0 : Int32).toNatClampNeg) 0) ((1 : Int32).toNatClampNeg) 0) ((2 : Int32).toNatClampNeg) 0) ((3 : Int32).toNatClampNeg) 0) ((4 : Int32).toNatClampNeg) 0) ((5 : Int32).toNatClampNeg) 0) ((5 : Int32).toNatClampNeg) ((p1 - p1 / 10 * 10).toInt64)) ((4 : Int32).toNatClampNeg) (((p1 / 10) - (p1 / 10) / 10 * 10).toInt64)))))] H := hP
  replace hD : va_D A [(h0, .inr (5, [.ref h2, .ref h3, .ref h4, .ref h5, .int 0])), (h3, .inr (8, [.ref h8, .int wp4100528])), (h8, .inl (y 1, 200, .inr (.inl wf4100529))), (h5, .inr (8, [.ref h11, .int wp4100530])), (h11, .inl (y 1, 3, .inr (.inl (fun _ => 0)))), (h2, .inr (8, [.ref h6, .int 6])), (h6, .inl (y 1, 200, .inr (.inl (vp_updL (vp_updL (vp_updL (vp_updL (vp_updL (vp_updL (vp_updL (vp_updL wf4100527 ((0 : Int32).toNatClampNeg) 0) ((1 : Int32).toNatClampNeg) 0) ((2 : Int32).toNatClampNeg) 0) ((3 : Int32).toNatClampNeg) 0) ((4 : Int32).toNatClampNeg) 0) ((5 : Int32).toNatClampNeg) 0) ((5 : Int32).toNatClampNeg) ((p1 - p1 / 10 * 10).toInt64)) ((4 : Int32).toNatClampNeg) (((p1 / 10) - (p1 / 10) / 10 * 10).toInt64)))))] := hD
  refine lv_iload hx hb dX5_append_48 (lv_at hl 1 rfl) ?_
  refine lv_bipush (v := 10) hx hb dX5_append_50 (by decide +kernel) ?_
  refine lv_idiv hx hb dX5_append_52 (by decide +kernel) ?_
  refine lv_istore (lv' := [(4, .int ((p1 / 10) / 10)), (5, .int 4), (3, .int 0), (0, .ref h0), (1, .int p1), (2, .int 6)]) hx hb dX5_append_53 hl (by decide) rfl ?_
  clear hl
  clear ls
  intro ls hl
  refine lv_iinc (v := 3) (lv' := [(5, .int 3), (4, .int ((p1 / 10) / 10)), (3, .int 0), (0, .ref h0), (1, .int p1), (2, .int 6)]) hx hb dX5_append_55 hl (k := 1) rfl (by decide +kernel) (by decide) rfl ?_
  clear hl
  clear ls
  intro ls hl
  refine lv_goto (tgt := 27) hx hb dX5_append_58 (by decide) ?_
  refine lv_iload hx hb dX5_append_27 (lv_at hl 0 rfl) ?_
  refine lv_iload_n hx hb dX5_append_29 rfl (lv_at hl 2 rfl) ?_
  refine lv_icmp_lt (tgt := 61) hx hb dX5_append_30 (by decide) (fun c9 => absurd c9 (by decide +kernel)) (fun _ => ?_)
  refine lv_aload_n hx hb dX5_append_33 rfl (lv_at hl 3 rfl) ?_
  refine gm_get (D := D) (ci := 5) (v := .ref h2) (C := RX5) (T := TX5) (N := 5) hx hb hg inlX5 hown hK.1 hP 0 rfl rfl 0 (by decide) tX5_0 (hg _ gw_138) rfl dX5_append_34 ?_
  refine lv_iload hx hb dX5_append_37 (lv_at hl 0 rfl) ?_
  refine lv_iload hx hb dX5_append_39 (lv_at hl 1 rfl) ?_
  refine lv_bipush (v := 10) hx hb dX5_append_41 (by decide +kernel) ?_
  refine lv_irem hx hb dX5_append_43 (by decide +kernel) ?_
  refine lv_i2l (v := ((((p1 / 10) / 10) - ((p1 / 10) / 10) / 10 * 10).toInt64)) hx hb dX5_append_44 rfl ?_
  refine g_av (wr := [(h0, .inr (5, [.ref h2, .ref h3, .ref h4, .ref h5, .int 0])), (h3, .inr (8, [.ref h8, .int wp4100528])), (h8, .inl (y 1, 200, .inr (.inl wf4100529))), (h5, .inr (8, [.ref h11, .int wp4100530])), (h11, .inl (y 1, 3, .inr (.inl (fun _ => 0))))]) (va_runV (As := [.int 3, .long ((((p1 / 10) / 10) - ((p1 / 10) / 10) / 10 * 10).toInt64)]) (rest := []) ⟨hx, hb, hml, hown, hg⟩ (k_X8_set_48 l D y aS H.size h2 ((((p1 / 10) / 10) - ((p1 / 10) / 10) / 10 * 10).toInt64) h6 6 (vp_updL (vp_updL (vp_updL (vp_updL (vp_updL (vp_updL (vp_updL (vp_updL wf4100527 ((0 : Int32).toNatClampNeg) 0) ((1 : Int32).toNatClampNeg) 0) ((2 : Int32).toNatClampNeg) 0) ((3 : Int32).toNatClampNeg) 0) ((4 : Int32).toNatClampNeg) 0) ((5 : Int32).toNatClampNeg) 0) ((5 : Int32).toNatClampNeg) ((p1 - p1 / 10 * 10).toInt64)) ((4 : Int32).toNatClampNeg) (((p1 / 10) - (p1 / 10) / 10 * 10).toInt64))) (cwV 2 hg ggV_RX5_29_X8_set rfl rfl rfl (by decide +kernel) ⟨Nat.le_of_ble_eq_true rfl, Nat.le_of_ble_eq_true rfl⟩) (g_preV (q := (RX8, TX8, 2)) hK hP hD [5, 6] rfl (by decide) (ci := 8) (q0 := 5) rfl rfl) rfl rfl hl.1 rfl (lv_room (Nat.le_of_ble_eq_true rfl)) dX5_append_45 ⟨Nat.le_of_ble_eq_true rfl, Nat.le_of_ble_eq_true rfl⟩) hP hD hS hA [5, 6] [0, 1, 2, 3, 4] rfl rfl (by decide) (by decide) ?_
  clear hP hD hS H locs
  refine fun u H locs hq hP hD hS => ?_
  replace hP : va_P D vwCl [(h0, .inr (5, [.ref h2, .ref h3, .ref h4, .ref h5, .int 0])), (h3, .inr (8, [.ref h8, .int wp4100528])), (h8, .inl (y 1, 200, .inr (.inl wf4100529))), (h5, .inr (8, [.ref h11, .int wp4100530])), (h11, .inl (y 1, 3, .inr (.inl (fun _ => 0)))), (h2, .inr (8, [.ref h6, .int 6])), (h6, .inl (y 1, 200, .inr (.inl (vp_updL (vp_updL (vp_updL (vp_updL (vp_updL (vp_updL (vp_updL (vp_updL (vp_updL wf4100527 ((0 : Int32).toNatClampNeg) 0) ((1 : Int32).toNatClampNeg) 0) ((2 : Int32).toNatClampNeg) 0) ((3 : Int32).toNatClampNeg) 0) ((4 : Int32).toNatClampNeg) 0) ((5 : Int32).toNatClampNeg) 0) ((5 : Int32).toNatClampNeg) ((p1 - p1 / 10 * 10).toInt64)) ((4 : Int32).toNatClampNeg) (((p1 / 10) - (p1 / 10) / 10 * 10).toInt64)) ((3 : Int32).toNatClampNeg) ((((p1 / 10) / 10) - ((p1 / 10) / 10) / 10 * 10).toInt64)))))] H := hP
  replace hD : va_D A [(h0, .inr (5, [.ref h2, .ref h3, .ref h4, .ref h5, .int 0])), (h3, .inr (8, [.ref h8, .int wp4100528])), (h8, .inl (y 1, 200, .inr (.inl wf4100529))), (h5, .inr (8, [.ref h11, .int wp4100530])), (h11, .inl (y 1, 3, .inr (.inl (fun _ => 0)))), (h2, .inr (8, [.ref h6, .int 6])), (h6, .inl (y 1, 200, .inr (.inl (vp_updL (vp_updL (vp_updL (vp_updL (vp_updL (vp_updL (vp_updL (vp_updL (vp_updL wf4100527 ((0 : Int32).toNatClampNeg) 0) ((1 : Int32).toNatClampNeg) 0) ((2 : Int32).toNatClampNeg) 0) ((3 : Int32).toNatClampNeg) 0) ((4 : Int32).toNatClampNeg) 0) ((5 : Int32).toNatClampNeg) 0) ((5 : Int32).toNatClampNeg) ((p1 - p1 / 10 * 10).toInt64)) ((4 : Int32).toNatClampNeg) (((p1 / 10) - (p1 / 10) / 10 * 10).toInt64)) ((3 : Int32).toNatClampNeg) ((((p1 / 10) / 10) - ((p1 / 10) / 10) / 10 * 10).toInt64)))))] := hD
  refine lv_iload hx hb dX5_append_48 (lv_at hl 1 rfl) ?_
  refine lv_bipush (v := 10) hx hb dX5_append_50 (by decide +kernel) ?_
  refine lv_idiv hx hb dX5_append_52 (by decide +kernel) ?_
  refine lv_istore (lv' := [(4, .int (((p1 / 10) / 10) / 10)), (5, .int 3), (3, .int 0), (0, .ref h0), (1, .int p1), (2, .int 6)]) hx hb dX5_append_53 hl (by decide) rfl ?_
  clear hl
  clear ls
  intro ls hl
  refine lv_iinc (v := 2) (lv' := [(5, .int 2), (4, .int (((p1 / 10) / 10) / 10)), (3, .int 0), (0, .ref h0), (1, .int p1), (2, .int 6)]) hx hb dX5_append_55 hl (k := 1) rfl (by decide +kernel) (by decide) rfl ?_
  clear hl
  clear ls
  intro ls hl
  refine lv_goto (tgt := 27) hx hb dX5_append_58 (by decide) ?_
  refine lv_iload hx hb dX5_append_27 (lv_at hl 0 rfl) ?_
  refine lv_iload_n hx hb dX5_append_29 rfl (lv_at hl 2 rfl) ?_
  refine lv_icmp_lt (tgt := 61) hx hb dX5_append_30 (by decide) (fun c9 => absurd c9 (by decide +kernel)) (fun _ => ?_)
  refine lv_aload_n hx hb dX5_append_33 rfl (lv_at hl 3 rfl) ?_
  refine gm_get (D := D) (ci := 5) (v := .ref h2) (C := RX5) (T := TX5) (N := 5) hx hb hg inlX5 hown hK.1 hP 0 rfl rfl 0 (by decide) tX5_0 (hg _ gw_138) rfl dX5_append_34 ?_
  refine lv_iload hx hb dX5_append_37 (lv_at hl 0 rfl) ?_
  refine lv_iload hx hb dX5_append_39 (lv_at hl 1 rfl) ?_
  refine lv_bipush (v := 10) hx hb dX5_append_41 (by decide +kernel) ?_
  refine lv_irem hx hb dX5_append_43 (by decide +kernel) ?_
  refine lv_i2l (v := (((((p1 / 10) / 10) / 10) - (((p1 / 10) / 10) / 10) / 10 * 10).toInt64)) hx hb dX5_append_44 rfl ?_
  refine g_av (wr := [(h0, .inr (5, [.ref h2, .ref h3, .ref h4, .ref h5, .int 0])), (h3, .inr (8, [.ref h8, .int wp4100528])), (h8, .inl (y 1, 200, .inr (.inl wf4100529))), (h5, .inr (8, [.ref h11, .int wp4100530])), (h11, .inl (y 1, 3, .inr (.inl (fun _ => 0))))]) (va_runV (As := [.int 2, .long (((((p1 / 10) / 10) / 10) - (((p1 / 10) / 10) / 10) / 10 * 10).toInt64)]) (rest := []) ⟨hx, hb, hml, hown, hg⟩ (k_X8_set_47 l D y aS H.size h2 (((((p1 / 10) / 10) / 10) - (((p1 / 10) / 10) / 10) / 10 * 10).toInt64) h6 6 (vp_updL (vp_updL (vp_updL (vp_updL (vp_updL (vp_updL (vp_updL (vp_updL (vp_updL wf4100527 ((0 : Int32).toNatClampNeg) 0) ((1 : Int32).toNatClampNeg) 0) ((2 : Int32).toNatClampNeg) 0) ((3 : Int32).toNatClampNeg) 0) ((4 : Int32).toNatClampNeg) 0) ((5 : Int32).toNatClampNeg) 0) ((5 : Int32).toNatClampNeg) ((p1 - p1 / 10 * 10).toInt64)) ((4 : Int32).toNatClampNeg) (((p1 / 10) - (p1 / 10) / 10 * 10).toInt64)) ((3 : Int32).toNatClampNeg) ((((p1 / 10) / 10) - ((p1 / 10) / 10) / 10 * 10).toInt64))) (cwV 2 hg ggV_RX5_29_X8_set rfl rfl rfl (by decide +kernel) ⟨Nat.le_of_ble_eq_true rfl, Nat.le_of_ble_eq_true rfl⟩) (g_preV (q := (RX8, TX8, 2)) hK hP hD [5, 6] rfl (by decide) (ci := 8) (q0 := 5) rfl rfl) rfl rfl hl.1 rfl (lv_room (Nat.le_of_ble_eq_true rfl)) dX5_append_45 ⟨Nat.le_of_ble_eq_true rfl, Nat.le_of_ble_eq_true rfl⟩) hP hD hS hA [5, 6] [0, 1, 2, 3, 4] rfl rfl (by decide) (by decide) ?_
  clear hP hD hS H locs
  refine fun u H locs hq hP hD hS => ?_
  replace hP : va_P D vwCl [(h0, .inr (5, [.ref h2, .ref h3, .ref h4, .ref h5, .int 0])), (h3, .inr (8, [.ref h8, .int wp4100528])), (h8, .inl (y 1, 200, .inr (.inl wf4100529))), (h5, .inr (8, [.ref h11, .int wp4100530])), (h11, .inl (y 1, 3, .inr (.inl (fun _ => 0)))), (h2, .inr (8, [.ref h6, .int 6])), (h6, .inl (y 1, 200, .inr (.inl (vp_updL (vp_updL (vp_updL (vp_updL (vp_updL (vp_updL (vp_updL (vp_updL (vp_updL (vp_updL wf4100527 ((0 : Int32).toNatClampNeg) 0) ((1 : Int32).toNatClampNeg) 0) ((2 : Int32).toNatClampNeg) 0) ((3 : Int32).toNatClampNeg) 0) ((4 : Int32).toNatClampNeg) 0) ((5 : Int32).toNatClampNeg) 0) ((5 : Int32).toNatClampNeg) ((p1 - p1 / 10 * 10).toInt64)) ((4 : Int32).toNatClampNeg) (((p1 / 10) - (p1 / 10) / 10 * 10).toInt64)) ((3 : Int32).toNatClampNeg) ((((p1 / 10) / 10) - ((p1 / 10) / 10) / 10 * 10).toInt64)) ((2 : Int32).toNatClampNeg) (((((p1 / 10) / 10) / 10) - (((p1 / 10) / 10) / 10) / 10 * 10).toInt64)))))] H := hP
  replace hD : va_D A [(h0, .inr (5, [.ref h2, .ref h3, .ref h4, .ref h5, .int 0])), (h3, .inr (8, [.ref h8, .int wp4100528])), (h8, .inl (y 1, 200, .inr (.inl wf4100529))), (h5, .inr (8, [.ref h11, .int wp4100530])), (h11, .inl (y 1, 3, .inr (.inl (fun _ => 0)))), (h2, .inr (8, [.ref h6, .int 6])), (h6, .inl (y 1, 200, .inr (.inl (vp_updL (vp_updL (vp_updL (vp_updL (vp_updL (vp_updL (vp_updL (vp_updL (vp_updL (vp_updL wf4100527 ((0 : Int32).toNatClampNeg) 0) ((1 : Int32).toNatClampNeg) 0) ((2 : Int32).toNatClampNeg) 0) ((3 : Int32).toNatClampNeg) 0) ((4 : Int32).toNatClampNeg) 0) ((5 : Int32).toNatClampNeg) 0) ((5 : Int32).toNatClampNeg) ((p1 - p1 / 10 * 10).toInt64)) ((4 : Int32).toNatClampNeg) (((p1 / 10) - (p1 / 10) / 10 * 10).toInt64)) ((3 : Int32).toNatClampNeg) ((((p1 / 10) / 10) - ((p1 / 10) / 10) / 10 * 10).toInt64)) ((2 : Int32).toNatClampNeg) (((((p1 / 10) / 10) / 10) - (((p1 / 10) / 10) / 10) / 10 * 10).toInt64)))))] := hD
  refine lv_iload hx hb dX5_append_48 (lv_at hl 1 rfl) ?_
  refine lv_bipush (v := 10) hx hb dX5_append_50 (by decide +kernel) ?_
  refine lv_idiv hx hb dX5_append_52 (by decide +kernel) ?_
  refine lv_istore (lv' := [(4, .int ((((p1 / 10) / 10) / 10) / 10)), (5, .int 2), (3, .int 0), (0, .ref h0), (1, .int p1), (2, .int 6)]) hx hb dX5_append_53 hl (by decide) rfl ?_
  clear hl
  clear ls
  intro ls hl
  refine lv_iinc (v := 1) (lv' := [(5, .int 1), (4, .int ((((p1 / 10) / 10) / 10) / 10)), (3, .int 0), (0, .ref h0), (1, .int p1), (2, .int 6)]) hx hb dX5_append_55 hl (k := 1) rfl (by decide +kernel) (by decide) rfl ?_
  clear hl
  clear ls
  intro ls hl
  refine lv_goto (tgt := 27) hx hb dX5_append_58 (by decide) ?_
  refine lv_iload hx hb dX5_append_27 (lv_at hl 0 rfl) ?_
  refine lv_iload_n hx hb dX5_append_29 rfl (lv_at hl 2 rfl) ?_
  refine lv_icmp_lt (tgt := 61) hx hb dX5_append_30 (by decide) (fun c9 => absurd c9 (by decide +kernel)) (fun _ => ?_)
  refine lv_aload_n hx hb dX5_append_33 rfl (lv_at hl 3 rfl) ?_
  refine gm_get (D := D) (ci := 5) (v := .ref h2) (C := RX5) (T := TX5) (N := 5) hx hb hg inlX5 hown hK.1 hP 0 rfl rfl 0 (by decide) tX5_0 (hg _ gw_138) rfl dX5_append_34 ?_
  refine lv_iload hx hb dX5_append_37 (lv_at hl 0 rfl) ?_
  refine lv_iload hx hb dX5_append_39 (lv_at hl 1 rfl) ?_
  refine lv_bipush (v := 10) hx hb dX5_append_41 (by decide +kernel) ?_
  refine lv_irem hx hb dX5_append_43 (by decide +kernel) ?_
  refine lv_i2l (v := ((((((p1 / 10) / 10) / 10) / 10) - ((((p1 / 10) / 10) / 10) / 10) / 10 * 10).toInt64)) hx hb dX5_append_44 rfl ?_
  refine g_av (wr := [(h0, .inr (5, [.ref h2, .ref h3, .ref h4, .ref h5, .int 0])), (h3, .inr (8, [.ref h8, .int wp4100528])), (h8, .inl (y 1, 200, .inr (.inl wf4100529))), (h5, .inr (8, [.ref h11, .int wp4100530])), (h11, .inl (y 1, 3, .inr (.inl (fun _ => 0))))]) (va_runV (As := [.int 1, .long ((((((p1 / 10) / 10) / 10) / 10) - ((((p1 / 10) / 10) / 10) / 10) / 10 * 10).toInt64)]) (rest := []) ⟨hx, hb, hml, hown, hg⟩ (k_X8_set_46 l D y aS H.size h2 ((((((p1 / 10) / 10) / 10) / 10) - ((((p1 / 10) / 10) / 10) / 10) / 10 * 10).toInt64) h6 6 (vp_updL (vp_updL (vp_updL (vp_updL (vp_updL (vp_updL (vp_updL (vp_updL (vp_updL (vp_updL wf4100527 ((0 : Int32).toNatClampNeg) 0) ((1 : Int32).toNatClampNeg) 0) ((2 : Int32).toNatClampNeg) 0) ((3 : Int32).toNatClampNeg) 0) ((4 : Int32).toNatClampNeg) 0) ((5 : Int32).toNatClampNeg) 0) ((5 : Int32).toNatClampNeg) ((p1 - p1 / 10 * 10).toInt64)) ((4 : Int32).toNatClampNeg) (((p1 / 10) - (p1 / 10) / 10 * 10).toInt64)) ((3 : Int32).toNatClampNeg) ((((p1 / 10) / 10) - ((p1 / 10) / 10) / 10 * 10).toInt64)) ((2 : Int32).toNatClampNeg) (((((p1 / 10) / 10) / 10) - (((p1 / 10) / 10) / 10) / 10 * 10).toInt64))) (cwV 2 hg ggV_RX5_29_X8_set rfl rfl rfl (by decide +kernel) ⟨Nat.le_of_ble_eq_true rfl, Nat.le_of_ble_eq_true rfl⟩) (g_preV (q := (RX8, TX8, 2)) hK hP hD [5, 6] rfl (by decide) (ci := 8) (q0 := 5) rfl rfl) rfl rfl hl.1 rfl (lv_room (Nat.le_of_ble_eq_true rfl)) dX5_append_45 ⟨Nat.le_of_ble_eq_true rfl, Nat.le_of_ble_eq_true rfl⟩) hP hD hS hA [5, 6] [0, 1, 2, 3, 4] rfl rfl (by decide) (by decide) ?_
  clear hP hD hS H locs
  refine fun u H locs hq hP hD hS => ?_
  replace hP : va_P D vwCl [(h0, .inr (5, [.ref h2, .ref h3, .ref h4, .ref h5, .int 0])), (h3, .inr (8, [.ref h8, .int wp4100528])), (h8, .inl (y 1, 200, .inr (.inl wf4100529))), (h5, .inr (8, [.ref h11, .int wp4100530])), (h11, .inl (y 1, 3, .inr (.inl (fun _ => 0)))), (h2, .inr (8, [.ref h6, .int 6])), (h6, .inl (y 1, 200, .inr (.inl (vp_updL (vp_updL (vp_updL (vp_updL (vp_updL (vp_updL (vp_updL (vp_updL (vp_updL (vp_updL (vp_updL wf4100527 ((0 : Int32).toNatClampNeg) 0) ((1 : Int32).toNatClampNeg) 0) ((2 : Int32).toNatClampNeg) 0) ((3 : Int32).toNatClampNeg) 0) ((4 : Int32).toNatClampNeg) 0) ((5 : Int32).toNatClampNeg) 0) ((5 : Int32).toNatClampNeg) ((p1 - p1 / 10 * 10).toInt64)) ((4 : Int32).toNatClampNeg) (((p1 / 10) - (p1 / 10) / 10 * 10).toInt64)) ((3 : Int32).toNatClampNeg) ((((p1 / 10) / 10) - ((p1 / 10) / 10) / 10 * 10).toInt64)) ((2 : Int32).toNatClampNeg) (((((p1 / 10) / 10) / 10) - (((p1 / 10) / 10) / 10) / 10 * 10).toInt64)) ((1 : Int32).toNatClampNeg) ((((((p1 / 10) / 10) / 10) / 10) - ((((p1 / 10) / 10) / 10) / 10) / 10 * 10).toInt64)))))] H := hP
  replace hD : va_D A [(h0, .inr (5, [.ref h2, .ref h3, .ref h4, .ref h5, .int 0])), (h3, .inr (8, [.ref h8, .int wp4100528])), (h8, .inl (y 1, 200, .inr (.inl wf4100529))), (h5, .inr (8, [.ref h11, .int wp4100530])), (h11, .inl (y 1, 3, .inr (.inl (fun _ => 0)))), (h2, .inr (8, [.ref h6, .int 6])), (h6, .inl (y 1, 200, .inr (.inl (vp_updL (vp_updL (vp_updL (vp_updL (vp_updL (vp_updL (vp_updL (vp_updL (vp_updL (vp_updL (vp_updL wf4100527 ((0 : Int32).toNatClampNeg) 0) ((1 : Int32).toNatClampNeg) 0) ((2 : Int32).toNatClampNeg) 0) ((3 : Int32).toNatClampNeg) 0) ((4 : Int32).toNatClampNeg) 0) ((5 : Int32).toNatClampNeg) 0) ((5 : Int32).toNatClampNeg) ((p1 - p1 / 10 * 10).toInt64)) ((4 : Int32).toNatClampNeg) (((p1 / 10) - (p1 / 10) / 10 * 10).toInt64)) ((3 : Int32).toNatClampNeg) ((((p1 / 10) / 10) - ((p1 / 10) / 10) / 10 * 10).toInt64)) ((2 : Int32).toNatClampNeg) (((((p1 / 10) / 10) / 10) - (((p1 / 10) / 10) / 10) / 10 * 10).toInt64)) ((1 : Int32).toNatClampNeg) ((((((p1 / 10) / 10) / 10) / 10) - ((((p1 / 10) / 10) / 10) / 10) / 10 * 10).toInt64)))))] := hD
  refine lv_iload hx hb dX5_append_48 (lv_at hl 1 rfl) ?_
  refine lv_bipush (v := 10) hx hb dX5_append_50 (by decide +kernel) ?_
  refine lv_idiv hx hb dX5_append_52 (by decide +kernel) ?_
  refine lv_istore (lv' := [(4, .int (((((p1 / 10) / 10) / 10) / 10) / 10)), (5, .int 1), (3, .int 0), (0, .ref h0), (1, .int p1), (2, .int 6)]) hx hb dX5_append_53 hl (by decide) rfl ?_
  clear hl
  clear ls
  intro ls hl
  refine lv_iinc (v := 0) (lv' := [(5, .int 0), (4, .int (((((p1 / 10) / 10) / 10) / 10) / 10)), (3, .int 0), (0, .ref h0), (1, .int p1), (2, .int 6)]) hx hb dX5_append_55 hl (k := 1) rfl (by decide +kernel) (by decide) rfl ?_
  clear hl
  clear ls
  intro ls hl
  refine lv_goto (tgt := 27) hx hb dX5_append_58 (by decide) ?_
  refine lv_iload hx hb dX5_append_27 (lv_at hl 0 rfl) ?_
  refine lv_iload_n hx hb dX5_append_29 rfl (lv_at hl 2 rfl) ?_
  refine lv_icmp_lt (tgt := 61) hx hb dX5_append_30 (by decide) (fun c9 => absurd c9 (by decide +kernel)) (fun _ => ?_)
  refine lv_aload_n hx hb dX5_append_33 rfl (lv_at hl 3 rfl) ?_
  refine gm_get (D := D) (ci := 5) (v := .ref h2) (C := RX5) (T := TX5) (N := 5) hx hb hg inlX5 hown hK.1 hP 0 rfl rfl 0 (by decide) tX5_0 (hg _ gw_138) rfl dX5_append_34 ?_
  refine lv_iload hx hb dX5_append_37 (lv_at hl 0 rfl) ?_
  refine lv_iload hx hb dX5_append_39 (lv_at hl 1 rfl) ?_
  refine lv_bipush (v := 10) hx hb dX5_append_41 (by decide +kernel) ?_
  refine lv_irem hx hb dX5_append_43 (by decide +kernel) ?_
  refine lv_i2l (v := (((((((p1 / 10) / 10) / 10) / 10) / 10) - (((((p1 / 10) / 10) / 10) / 10) / 10) / 10 * 10).toInt64)) hx hb dX5_append_44 rfl ?_
  refine g_av (wr := [(h0, .inr (5, [.ref h2, .ref h3, .ref h4, .ref h5, .int 0])), (h3, .inr (8, [.ref h8, .int wp4100528])), (h8, .inl (y 1, 200, .inr (.inl wf4100529))), (h5, .inr (8, [.ref h11, .int wp4100530])), (h11, .inl (y 1, 3, .inr (.inl (fun _ => 0))))]) (va_runV (As := [.int 0, .long (((((((p1 / 10) / 10) / 10) / 10) / 10) - (((((p1 / 10) / 10) / 10) / 10) / 10) / 10 * 10).toInt64)]) (rest := []) ⟨hx, hb, hml, hown, hg⟩ (k_X8_set_45 l D y aS H.size h2 (((((((p1 / 10) / 10) / 10) / 10) / 10) - (((((p1 / 10) / 10) / 10) / 10) / 10) / 10 * 10).toInt64) h6 6 (vp_updL (vp_updL (vp_updL (vp_updL (vp_updL (vp_updL (vp_updL (vp_updL (vp_updL (vp_updL (vp_updL wf4100527 ((0 : Int32).toNatClampNeg) 0) ((1 : Int32).toNatClampNeg) 0) ((2 : Int32).toNatClampNeg) 0) ((3 : Int32).toNatClampNeg) 0) ((4 : Int32).toNatClampNeg) 0) ((5 : Int32).toNatClampNeg) 0) ((5 : Int32).toNatClampNeg) ((p1 - p1 / 10 * 10).toInt64)) ((4 : Int32).toNatClampNeg) (((p1 / 10) - (p1 / 10) / 10 * 10).toInt64)) ((3 : Int32).toNatClampNeg) ((((p1 / 10) / 10) - ((p1 / 10) / 10) / 10 * 10).toInt64)) ((2 : Int32).toNatClampNeg) (((((p1 / 10) / 10) / 10) - (((p1 / 10) / 10) / 10) / 10 * 10).toInt64)) ((1 : Int32).toNatClampNeg) ((((((p1 / 10) / 10) / 10) / 10) - ((((p1 / 10) / 10) / 10) / 10) / 10 * 10).toInt64))) (cwV 2 hg ggV_RX5_29_X8_set rfl rfl rfl (by decide +kernel) ⟨Nat.le_of_ble_eq_true rfl, Nat.le_of_ble_eq_true rfl⟩) (g_preV (q := (RX8, TX8, 2)) hK hP hD [5, 6] rfl (by decide) (ci := 8) (q0 := 5) rfl rfl) rfl rfl hl.1 rfl (lv_room (Nat.le_of_ble_eq_true rfl)) dX5_append_45 ⟨Nat.le_of_ble_eq_true rfl, Nat.le_of_ble_eq_true rfl⟩) hP hD hS hA [5, 6] [0, 1, 2, 3, 4] rfl rfl (by decide) (by decide) ?_
  clear hP hD hS H locs
  refine fun u H locs hq hP hD hS => ?_
  replace hP : va_P D vwCl [(h0, .inr (5, [.ref h2, .ref h3, .ref h4, .ref h5, .int 0])), (h3, .inr (8, [.ref h8, .int wp4100528])), (h8, .inl (y 1, 200, .inr (.inl wf4100529))), (h5, .inr (8, [.ref h11, .int wp4100530])), (h11, .inl (y 1, 3, .inr (.inl (fun _ => 0)))), (h2, .inr (8, [.ref h6, .int 6])), (h6, .inl (y 1, 200, .inr (.inl (vp_updL (vp_updL (vp_updL (vp_updL (vp_updL (vp_updL (vp_updL (vp_updL (vp_updL (vp_updL (vp_updL (vp_updL wf4100527 ((0 : Int32).toNatClampNeg) 0) ((1 : Int32).toNatClampNeg) 0) ((2 : Int32).toNatClampNeg) 0) ((3 : Int32).toNatClampNeg) 0) ((4 : Int32).toNatClampNeg) 0) ((5 : Int32).toNatClampNeg) 0) ((5 : Int32).toNatClampNeg) ((p1 - p1 / 10 * 10).toInt64)) ((4 : Int32).toNatClampNeg) (((p1 / 10) - (p1 / 10) / 10 * 10).toInt64)) ((3 : Int32).toNatClampNeg) ((((p1 / 10) / 10) - ((p1 / 10) / 10) / 10 * 10).toInt64)) ((2 : Int32).toNatClampNeg) (((((p1 / 10) / 10) / 10) - (((p1 / 10) / 10) / 10) / 10 * 10).toInt64)) ((1 : Int32).toNatClampNeg) ((((((p1 / 10) / 10) / 10) / 10) - ((((p1 / 10) / 10) / 10) / 10) / 10 * 10).toInt64)) ((0 : Int32).toNatClampNeg) (((((((p1 / 10) / 10) / 10) / 10) / 10) - (((((p1 / 10) / 10) / 10) / 10) / 10) / 10 * 10).toInt64)))))] H := hP
  replace hD : va_D A [(h0, .inr (5, [.ref h2, .ref h3, .ref h4, .ref h5, .int 0])), (h3, .inr (8, [.ref h8, .int wp4100528])), (h8, .inl (y 1, 200, .inr (.inl wf4100529))), (h5, .inr (8, [.ref h11, .int wp4100530])), (h11, .inl (y 1, 3, .inr (.inl (fun _ => 0)))), (h2, .inr (8, [.ref h6, .int 6])), (h6, .inl (y 1, 200, .inr (.inl (vp_updL (vp_updL (vp_updL (vp_updL (vp_updL (vp_updL (vp_updL (vp_updL (vp_updL (vp_updL (vp_updL (vp_updL wf4100527 ((0 : Int32).toNatClampNeg) 0) ((1 : Int32).toNatClampNeg) 0) ((2 : Int32).toNatClampNeg) 0) ((3 : Int32).toNatClampNeg) 0) ((4 : Int32).toNatClampNeg) 0) ((5 : Int32).toNatClampNeg) 0) ((5 : Int32).toNatClampNeg) ((p1 - p1 / 10 * 10).toInt64)) ((4 : Int32).toNatClampNeg) (((p1 / 10) - (p1 / 10) / 10 * 10).toInt64)) ((3 : Int32).toNatClampNeg) ((((p1 / 10) / 10) - ((p1 / 10) / 10) / 10 * 10).toInt64)) ((2 : Int32).toNatClampNeg) (((((p1 / 10) / 10) / 10) - (((p1 / 10) / 10) / 10) / 10 * 10).toInt64)) ((1 : Int32).toNatClampNeg) ((((((p1 / 10) / 10) / 10) / 10) - ((((p1 / 10) / 10) / 10) / 10) / 10 * 10).toInt64)) ((0 : Int32).toNatClampNeg) (((((((p1 / 10) / 10) / 10) / 10) / 10) - (((((p1 / 10) / 10) / 10) / 10) / 10) / 10 * 10).toInt64)))))] := hD
  refine lv_iload hx hb dX5_append_48 (lv_at hl 1 rfl) ?_
  refine lv_bipush (v := 10) hx hb dX5_append_50 (by decide +kernel) ?_
  refine lv_idiv hx hb dX5_append_52 (by decide +kernel) ?_
  refine lv_istore (lv' := [(4, .int ((((((p1 / 10) / 10) / 10) / 10) / 10) / 10)), (5, .int 0), (3, .int 0), (0, .ref h0), (1, .int p1), (2, .int 6)]) hx hb dX5_append_53 hl (by decide) rfl ?_
  clear hl
  clear ls
  intro ls hl
  refine lv_iinc (v := (-1)) (lv' := [(5, .int (-1)), (4, .int ((((((p1 / 10) / 10) / 10) / 10) / 10) / 10)), (3, .int 0), (0, .ref h0), (1, .int p1), (2, .int 6)]) hx hb dX5_append_55 hl (k := 1) rfl (by decide +kernel) (by decide) rfl ?_
  clear hl
  clear ls
  intro ls hl
  refine lv_goto (tgt := 27) hx hb dX5_append_58 (by decide) ?_
  refine lv_iload hx hb dX5_append_27 (lv_at hl 0 rfl) ?_
  refine lv_iload_n hx hb dX5_append_29 rfl (lv_at hl 2 rfl) ?_
  refine lv_icmp_lt (tgt := 61) hx hb dX5_append_30 (by decide) (fun _ => ?_) (fun c9 => absurd c9 (by decide +kernel))
  refine lv_aload_n hx hb dX5_append_61 rfl (lv_at hl 3 rfl) ?_
  refine g_av (wr := [(h6, .inl (y 1, 200, .inr (.inl (vp_updL (vp_updL (vp_updL (vp_updL (vp_updL (vp_updL (vp_updL (vp_updL (vp_updL (vp_updL (vp_updL (vp_updL wf4100527 ((0 : Int32).toNatClampNeg) 0) ((1 : Int32).toNatClampNeg) 0) ((2 : Int32).toNatClampNeg) 0) ((3 : Int32).toNatClampNeg) 0) ((4 : Int32).toNatClampNeg) 0) ((5 : Int32).toNatClampNeg) 0) ((5 : Int32).toNatClampNeg) ((p1 - p1 / 10 * 10).toInt64)) ((4 : Int32).toNatClampNeg) (((p1 / 10) - (p1 / 10) / 10 * 10).toInt64)) ((3 : Int32).toNatClampNeg) ((((p1 / 10) / 10) - ((p1 / 10) / 10) / 10 * 10).toInt64)) ((2 : Int32).toNatClampNeg) (((((p1 / 10) / 10) / 10) - (((p1 / 10) / 10) / 10) / 10 * 10).toInt64)) ((1 : Int32).toNatClampNeg) ((((((p1 / 10) / 10) / 10) / 10) - ((((p1 / 10) / 10) / 10) / 10) / 10 * 10).toInt64)) ((0 : Int32).toNatClampNeg) (((((((p1 / 10) / 10) / 10) / 10) / 10) - (((((p1 / 10) / 10) / 10) / 10) / 10) / 10 * 10).toInt64)))))]) (va_runV (As := []) (rest := []) ⟨hx, hb, hml, hown, hg⟩ (k_X5_findOut_6 l D y aS H.size h0 h2 h3 h4 h5 0 h6 h8 wp4100528 wf4100529 h11 wp4100530) (cwV 0 hg ggV_RX5_33_X5_findOut rfl rfl rfl (by decide +kernel) ⟨Nat.le_of_ble_eq_true rfl, Nat.le_of_ble_eq_true rfl⟩) (g_preV (q := (RX5, TX5, 5)) hK hP hD [0, 5, 1, 2, 3, 4] rfl (by decide) (ci := 5) (q0 := 0) rfl rfl) rfl rfl hl.1 rfl (lv_room (Nat.le_of_ble_eq_true rfl)) dX5_append_62 ⟨Nat.le_of_ble_eq_true rfl, Nat.le_of_ble_eq_true rfl⟩) hP hD hS hA [0, 5, 1, 2, 3, 4] [6] rfl rfl (by decide) (by decide) ?_
  clear hP hD hS H locs
  refine fun u H locs hq hP hD hS => ?_
  replace hP : va_P D vwCl [(h6, .inl (y 1, 200, .inr (.inl (vp_updL (vp_updL (vp_updL (vp_updL (vp_updL (vp_updL (vp_updL (vp_updL (vp_updL (vp_updL (vp_updL (vp_updL wf4100527 ((0 : Int32).toNatClampNeg) 0) ((1 : Int32).toNatClampNeg) 0) ((2 : Int32).toNatClampNeg) 0) ((3 : Int32).toNatClampNeg) 0) ((4 : Int32).toNatClampNeg) 0) ((5 : Int32).toNatClampNeg) 0) ((5 : Int32).toNatClampNeg) ((p1 - p1 / 10 * 10).toInt64)) ((4 : Int32).toNatClampNeg) (((p1 / 10) - (p1 / 10) / 10 * 10).toInt64)) ((3 : Int32).toNatClampNeg) ((((p1 / 10) / 10) - ((p1 / 10) / 10) / 10 * 10).toInt64)) ((2 : Int32).toNatClampNeg) (((((p1 / 10) / 10) / 10) - (((p1 / 10) / 10) / 10) / 10 * 10).toInt64)) ((1 : Int32).toNatClampNeg) ((((((p1 / 10) / 10) / 10) / 10) - ((((p1 / 10) / 10) / 10) / 10) / 10 * 10).toInt64)) ((0 : Int32).toNatClampNeg) (((((((p1 / 10) / 10) / 10) / 10) / 10) - (((((p1 / 10) / 10) / 10) / 10) / 10) / 10 * 10).toInt64))))), (h0, .inr (5, [.ref h2, .ref h3, .ref h4, .ref h5, .int 6])), (h2, .inr (8, [.ref h6, .int 6])), (h3, .inr (8, [.ref h8, .int wp4100528])), (h8, .inl (y 1, 200, .inr (.inl (vp_updL (vp_updL (vp_updL (vp_updL (vp_updL (vp_updL wf4100529 ((0 : Int32).toNatClampNeg) 0) ((1 : Int32).toNatClampNeg) 0) ((2 : Int32).toNatClampNeg) 0) ((3 : Int32).toNatClampNeg) 0) ((4 : Int32).toNatClampNeg) 0) ((5 : Int32).toNatClampNeg) 0)))), (h5, .inr (8, [.ref h11, .int wp4100530])), (h11, .inl (y 1, 3, .inr (.inl (fun _ => 0))))] H := hP
  replace hD : va_D A [(h6, .inl (y 1, 200, .inr (.inl (vp_updL (vp_updL (vp_updL (vp_updL (vp_updL (vp_updL (vp_updL (vp_updL (vp_updL (vp_updL (vp_updL (vp_updL wf4100527 ((0 : Int32).toNatClampNeg) 0) ((1 : Int32).toNatClampNeg) 0) ((2 : Int32).toNatClampNeg) 0) ((3 : Int32).toNatClampNeg) 0) ((4 : Int32).toNatClampNeg) 0) ((5 : Int32).toNatClampNeg) 0) ((5 : Int32).toNatClampNeg) ((p1 - p1 / 10 * 10).toInt64)) ((4 : Int32).toNatClampNeg) (((p1 / 10) - (p1 / 10) / 10 * 10).toInt64)) ((3 : Int32).toNatClampNeg) ((((p1 / 10) / 10) - ((p1 / 10) / 10) / 10 * 10).toInt64)) ((2 : Int32).toNatClampNeg) (((((p1 / 10) / 10) / 10) - (((p1 / 10) / 10) / 10) / 10 * 10).toInt64)) ((1 : Int32).toNatClampNeg) ((((((p1 / 10) / 10) / 10) / 10) - ((((p1 / 10) / 10) / 10) / 10) / 10 * 10).toInt64)) ((0 : Int32).toNatClampNeg) (((((((p1 / 10) / 10) / 10) / 10) / 10) - (((((p1 / 10) / 10) / 10) / 10) / 10) / 10 * 10).toInt64))))), (h0, .inr (5, [.ref h2, .ref h3, .ref h4, .ref h5, .int 6])), (h2, .inr (8, [.ref h6, .int 6])), (h3, .inr (8, [.ref h8, .int wp4100528])), (h8, .inl (y 1, 200, .inr (.inl (vp_updL (vp_updL (vp_updL (vp_updL (vp_updL (vp_updL wf4100529 ((0 : Int32).toNatClampNeg) 0) ((1 : Int32).toNatClampNeg) 0) ((2 : Int32).toNatClampNeg) 0) ((3 : Int32).toNatClampNeg) 0) ((4 : Int32).toNatClampNeg) 0) ((5 : Int32).toNatClampNeg) 0)))), (h5, .inr (8, [.ref h11, .int wp4100530])), (h11, .inl (y 1, 3, .inr (.inl (fun _ => 0))))] := hD
  refine lv_aload_n hx hb dX5_append_65 rfl (lv_at hl 3 rfl) ?_
  refine gm_get (D := D) (ci := 5) (v := .int 6) (C := RX5) (T := TX5) (N := 5) hx hb hg inlX5 hown hK.1 hP 1 rfl rfl 4 (by decide) tX5_4 (hg _ gw_1442) rfl dX5_append_66 ?_
  exact g_iret hx hb hr hlocks () (hP.sub [1, 2, 0, 3, 4, 5, 6] rfl) (hD.sub [1, 2, 0, 3, 4, 5, 6] (by decide +kernel) rfl) hS rfl rfl (Nat.le_of_ble_eq_true rfl) (Nat.le_of_ble_eq_true rfl) dX5_append_69
