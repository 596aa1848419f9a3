def dt234_X8_addMany : List (Nat × Instr × Nat) := [(0, (.iconst 0, 1)), (1, (.istore 4, 2)), (3, (.iload 4, 2)), (5, (.iload_n 1, 1)), (6, (.if_icmp .ge 24, 3)), (9, (.iload 4, 2)), (11, (.aload_n 0, 1)), (12, (.getfield 9, 3)), (15, (.arraylength, 1)), (16, (.if_icmp .ge 14, 3)), (19, (.aload_n 0, 1)), (20, (.lload_n 2, 1)), (21, (.invokevirtual 19, 3)), (24, (.iinc 4 1, 3)), (27, (.goto (-24), 3)), (30, (.return_, 1))]
theorem dt234_X8_addMany_ok : ∀ q ∈ dt234_X8_addMany, decode cX8_addMany q.1 = .ok q.2 := by decide +kernel
theorem dX8_addMany_0 : decode cX8_addMany 0 = .ok (.iconst 0, 1) := g_dec dt234_X8_addMany_ok (k := 0) rfl
theorem dX8_addMany_1 : decode cX8_addMany 1 = .ok (.istore 4, 2) := g_dec dt234_X8_addMany_ok (k := 1) rfl
theorem dX8_addMany_3 : decode cX8_addMany 3 = .ok (.iload 4, 2) := g_dec dt234_X8_addMany_ok (k := 2) rfl
theorem dX8_addMany_5 : decode cX8_addMany 5 = .ok (.iload_n 1, 1) := g_dec dt234_X8_addMany_ok (k := 3) rfl
theorem dX8_addMany_6 : decode cX8_addMany 6 = .ok (.if_icmp .ge 24, 3) := g_dec dt234_X8_addMany_ok (k := 4) rfl
theorem dX8_addMany_9 : decode cX8_addMany 9 = .ok (.iload 4, 2) := g_dec dt234_X8_addMany_ok (k := 5) rfl
theorem dX8_addMany_11 : decode cX8_addMany 11 = .ok (.aload_n 0, 1) := g_dec dt234_X8_addMany_ok (k := 6) rfl
theorem dX8_addMany_12 : decode cX8_addMany 12 = .ok (.getfield 9, 3) := g_dec dt234_X8_addMany_ok (k := 7) rfl
theorem dX8_addMany_15 : decode cX8_addMany 15 = .ok (.arraylength, 1) := g_dec dt234_X8_addMany_ok (k := 8) rfl
theorem dX8_addMany_16 : decode cX8_addMany 16 = .ok (.if_icmp .ge 14, 3) := g_dec dt234_X8_addMany_ok (k := 9) rfl
theorem dX8_addMany_19 : decode cX8_addMany 19 = .ok (.aload_n 0, 1) := g_dec dt234_X8_addMany_ok (k := 10) rfl
theorem dX8_addMany_20 : decode cX8_addMany 20 = .ok (.lload_n 2, 1) := g_dec dt234_X8_addMany_ok (k := 11) rfl
theorem dX8_addMany_21 : decode cX8_addMany 21 = .ok (.invokevirtual 19, 3) := g_dec dt234_X8_addMany_ok (k := 12) rfl
theorem dX8_addMany_24 : decode cX8_addMany 24 = .ok (.iinc 4 1, 3) := g_dec dt234_X8_addMany_ok (k := 13) rfl
theorem dX8_addMany_27 : decode cX8_addMany 27 = .ok (.goto (-24), 3) := g_dec dt234_X8_addMany_ok (k := 14) rfl
theorem dX8_addMany_30 : decode cX8_addMany 30 = .ok (.return_, 1) := g_dec dt234_X8_addMany_ok (k := 15) rfl
def dt235_X5_find : List (Nat × Instr × Nat) := [(0, (.aload_n 0, 1)), (1, (.getfield 26, 3)), (4, (.iload_n 1, 1)), (5, (.invokevirtual 50, 3)), (8, (.istore_n 3, 1)), (9, (.iconst 0, 1)), (10, (.istore 4, 2)), (12, (.iload 4, 2)), (14, (.iload_n 3, 1)), (15, (.if_icmp .ge 52, 3)), (67, (.iload_n 3, 1)), (68, (.ifCond .le 39, 3)), (107, (.iload 4, 2)), (109, (.ifCond .le 30, 3)), (139, (.return_, 1))]
theorem dt235_X5_find_ok : ∀ q ∈ dt235_X5_find, decode cX5_find q.1 = .ok q.2 := by decide +kernel
theorem dX5_find_0 : decode cX5_find 0 = .ok (.aload_n 0, 1) := g_dec dt235_X5_find_ok (k := 0) rfl
theorem dX5_find_1 : decode cX5_find 1 = .ok (.getfield 26, 3) := g_dec dt235_X5_find_ok (k := 1) rfl
theorem dX5_find_4 : decode cX5_find 4 = .ok (.iload_n 1, 1) := g_dec dt235_X5_find_ok (k := 2) rfl
theorem dX5_find_5 : decode cX5_find 5 = .ok (.invokevirtual 50, 3) := g_dec dt235_X5_find_ok (k := 3) rfl
theorem dX5_find_8 : decode cX5_find 8 = .ok (.istore_n 3, 1) := g_dec dt235_X5_find_ok (k := 4) rfl
theorem dX5_find_9 : decode cX5_find 9 = .ok (.iconst 0, 1) := g_dec dt235_X5_find_ok (k := 5) rfl
theorem dX5_find_10 : decode cX5_find 10 = .ok (.istore 4, 2) := g_dec dt235_X5_find_ok (k := 6) rfl
theorem dX5_find_12 : decode cX5_find 12 = .ok (.iload 4, 2) := g_dec dt235_X5_find_ok (k := 7) rfl
theorem dX5_find_14 : decode cX5_find 14 = .ok (.iload_n 3, 1) := g_dec dt235_X5_find_ok (k := 8) rfl
theorem dX5_find_15 : decode cX5_find 15 = .ok (.if_icmp .ge 52, 3) := g_dec dt235_X5_find_ok (k := 9) rfl
theorem dX5_find_67 : decode cX5_find 67 = .ok (.iload_n 3, 1) := g_dec dt235_X5_find_ok (k := 10) rfl
theorem dX5_find_68 : decode cX5_find 68 = .ok (.ifCond .le 39, 3) := g_dec dt235_X5_find_ok (k := 11) rfl
theorem dX5_find_107 : decode cX5_find 107 = .ok (.iload 4, 2) := g_dec dt235_X5_find_ok (k := 12) rfl
theorem dX5_find_109 : decode cX5_find 109 = .ok (.ifCond .le 30, 3) := g_dec dt235_X5_find_ok (k := 13) rfl
theorem dX5_find_139 : decode cX5_find 139 = .ok (.return_, 1) := g_dec dt235_X5_find_ok (k := 14) rfl
def dt236_X5_findOut : List (Nat × Instr × Nat) := [(24, (.aload_n 0, 1)), (25, (.getfield 20, 3)), (28, (.iload_n 1, 1)), (29, (.lconst 0, 1)), (30, (.invokevirtual 29, 3)), (33, (.iinc 1 1, 3)), (36, (.goto (-23), 3)), (52, (.iconst 0, 1)), (53, (.istore_n 2, 1)), (54, (.iload_n 2, 1)), (55, (.iconst 3, 1)), (56, (.if_icmp .ge 15, 3)), (59, (.aload_n 0, 1)), (60, (.iload_n 2, 1)), (61, (.iload_n 1, 1)), (62, (.invokevirtual 54, 3)), (65, (.iinc 2 1, 3)), (68, (.goto (-14), 3)), (71, (.iinc 1 1, 3)), (74, (.goto (-33), 3))]
theorem dt236_X5_findOut_ok : ∀ q ∈ dt236_X5_findOut, decode cX5_findOut q.1 = .ok q.2 := by decide +kernel
theorem dX5_findOut_24 : decode cX5_findOut 24 = .ok (.aload_n 0, 1) := g_dec dt236_X5_findOut_ok (k := 0) rfl
theorem dX5_findOut_25 : decode cX5_findOut 25 = .ok (.getfield 20, 3) := g_dec dt236_X5_findOut_ok (k := 1) rfl
theorem dX5_findOut_28 : decode cX5_findOut 28 = .ok (.iload_n 1, 1) := g_dec dt236_X5_findOut_ok (k := 2) rfl
theorem dX5_findOut_29 : decode cX5_findOut 29 = .ok (.lconst 0, 1) := g_dec dt236_X5_findOut_ok (k := 3) rfl
theorem dX5_findOut_30 : decode cX5_findOut 30 = .ok (.invokevirtual 29, 3) := g_dec dt236_X5_findOut_ok (k := 4) rfl
theorem dX5_findOut_33 : decode cX5_findOut 33 = .ok (.iinc 1 1, 3) := g_dec dt236_X5_findOut_ok (k := 5) rfl
theorem dX5_findOut_36 : decode cX5_findOut 36 = .ok (.goto (-23), 3) := g_dec dt236_X5_findOut_ok (k := 6) rfl
theorem dX5_findOut_52 : decode cX5_findOut 52 = .ok (.iconst 0, 1) := g_dec dt236_X5_findOut_ok (k := 7) rfl
theorem dX5_findOut_53 : decode cX5_findOut 53 = .ok (.istore_n 2, 1) := g_dec dt236_X5_findOut_ok (k := 8) rfl
theorem dX5_findOut_54 : decode cX5_findOut 54 = .ok (.iload_n 2, 1) := g_dec dt236_X5_findOut_ok (k := 9) rfl
theorem dX5_findOut_55 : decode cX5_findOut 55 = .ok (.iconst 3, 1) := g_dec dt236_X5_findOut_ok (k := 10) rfl
theorem dX5_findOut_56 : decode cX5_findOut 56 = .ok (.if_icmp .ge 15, 3) := g_dec dt236_X5_findOut_ok (k := 11) rfl
theorem dX5_findOut_59 : decode cX5_findOut 59 = .ok (.aload_n 0, 1) := g_dec dt236_X5_findOut_ok (k := 12) rfl
theorem dX5_findOut_60 : decode cX5_findOut 60 = .ok (.iload_n 2, 1) := g_dec dt236_X5_findOut_ok (k := 13) rfl
theorem dX5_findOut_61 : decode cX5_findOut 61 = .ok (.iload_n 1, 1) := g_dec dt236_X5_findOut_ok (k := 14) rfl
theorem dX5_findOut_62 : decode cX5_findOut 62 = .ok (.invokevirtual 54, 3) := g_dec dt236_X5_findOut_ok (k := 15) rfl
theorem dX5_findOut_65 : decode cX5_findOut 65 = .ok (.iinc 2 1, 3) := g_dec dt236_X5_findOut_ok (k := 16) rfl
theorem dX5_findOut_68 : decode cX5_findOut 68 = .ok (.goto (-14), 3) := g_dec dt236_X5_findOut_ok (k := 17) rfl
theorem dX5_findOut_71 : decode cX5_findOut 71 = .ok (.iinc 1 1, 3) := g_dec dt236_X5_findOut_ok (k := 18) rfl
theorem dX5_findOut_74 : decode cX5_findOut 74 = .ok (.goto (-33), 3) := g_dec dt236_X5_findOut_ok (k := 19) rfl
def dt237_X5_append : List (Nat × Instr × Nat) := [(0, (.aload_n 0, 1)), (1, (.getfield 14, 3)), (4, (.getfield 40, 3)), (7, (.istore_n 3, 1)), (8, (.aload_n 0, 1)), (9, (.getfield 14, 3)), (12, (.iload_n 2, 1)), (13, (.lconst 0, 1)), (14, (.invokevirtual 44, 3)), (17, (.iload_n 1, 1)), (18, (.istore 4, 2)), (20, (.iload_n 3, 1)), (21, (.iload_n 2, 1)), (22, (.iadd, 1)), (23, (.iconst 1, 1)), (24, (.isub, 1)), (25, (.istore 5, 2)), (27, (.iload 5, 2)), (29, (.iload_n 3, 1)), (30, (.if_icmp .lt 31, 3)), (33, (.aload_n 0, 1)), (34, (.getfield 14, 3)), (37, (.iload 5, 2)), (39, (.iload 4, 2)), (41, (.bipush 10, 2)), (43, (.irem, 1)), (44, (.i2l, 1)), (45, (.invokevirtual 29, 3)), (48, (.iload 4, 2)), (50, (.bipush 10, 2)), (52, (.idiv, 1)), (53, (.istore 4, 2)), (55, (.iinc 5 (-1), 3)), (58, (.goto (-31), 3)), (61, (.aload_n 0, 1)), (62, (.invokevirtual 33, 3)), (65, (.aload_n 0, 1)), (66, (.getfield 47, 3)), (69, (.ireturn, 1))]
theorem dt237_X5_append_ok : ∀ q ∈ dt237_X5_append, decode cX5_append q.1 = .ok q.2 := by decide +kernel
theorem dX5_append_0 : decode cX5_append 0 = .ok (.aload_n 0, 1) := g_dec dt237_X5_append_ok (k := 0) rfl
theorem dX5_append_1 : decode cX5_append 1 = .ok (.getfield 14, 3) := g_dec dt237_X5_append_ok (k := 1) rfl
theorem dX5_append_4 : decode cX5_append 4 = .ok (.getfield 40, 3) := g_dec dt237_X5_append_ok (k := 2) rfl
theorem dX5_append_7 : decode cX5_append 7 = .ok (.istore_n 3, 1) := g_dec dt237_X5_append_ok (k := 3) rfl
theorem dX5_append_8 : decode cX5_append 8 = .ok (.aload_n 0, 1) := g_dec dt237_X5_append_ok (k := 4) rfl
theorem dX5_append_9 : decode cX5_append 9 = .ok (.getfield 14, 3) := g_dec dt237_X5_append_ok (k := 5) rfl
theorem dX5_append_12 : decode cX5_append 12 = .ok (.iload_n 2, 1) := g_dec dt237_X5_append_ok (k := 6) rfl
theorem dX5_append_13 : decode cX5_append 13 = .ok (.lconst 0, 1) := g_dec dt237_X5_append_ok (k := 7) rfl
theorem dX5_append_14 : decode cX5_append 14 = .ok (.invokevirtual 44, 3) := g_dec dt237_X5_append_ok (k := 8) rfl
theorem dX5_append_17 : decode cX5_append 17 = .ok (.iload_n 1, 1) := g_dec dt237_X5_append_ok (k := 9) rfl
theorem dX5_append_18 : decode cX5_append 18 = .ok (.istore 4, 2) := g_dec dt237_X5_append_ok (k := 10) rfl
theorem dX5_append_20 : decode cX5_append 20 = .ok (.iload_n 3, 1) := g_dec dt237_X5_append_ok (k := 11) rfl
theorem dX5_append_21 : decode cX5_append 21 = .ok (.iload_n 2, 1) := g_dec dt237_X5_append_ok (k := 12) rfl
theorem dX5_append_22 : decode cX5_append 22 = .ok (.iadd, 1) := g_dec dt237_X5_append_ok (k := 13) rfl
theorem dX5_append_23 : decode cX5_append 23 = .ok (.iconst 1, 1) := g_dec dt237_X5_append_ok (k := 14) rfl
theorem dX5_append_24 : decode cX5_append 24 = .ok (.isub, 1) := g_dec dt237_X5_append_ok (k := 15) rfl
theorem dX5_append_25 : decode cX5_append 25 = .ok (.istore 5, 2) := g_dec dt237_X5_append_ok (k := 16) rfl
theorem dX5_append_27 : decode cX5_append 27 = .ok (.iload 5, 2) := g_dec dt237_X5_append_ok (k := 17) rfl
theorem dX5_append_29 : decode cX5_append 29 = .ok (.iload_n 3, 1) := g_dec dt237_X5_append_ok (k := 18) rfl
theorem dX5_append_30 : decode cX5_append 30 = .ok (.if_icmp .lt 31, 3) := g_dec dt237_X5_append_ok (k := 19) rfl
theorem dX5_append_33 : decode cX5_append 33 = .ok (.aload_n 0, 1) := g_dec dt237_X5_append_ok (k := 20) rfl
theorem dX5_append_34 : decode cX5_append 34 = .ok (.getfield 14, 3) := g_dec dt237_X5_append_ok (k := 21) rfl
theorem dX5_append_37 : decode cX5_append 37 = .ok (.iload 5, 2) := g_dec dt237_X5_append_ok (k := 22) rfl
theorem dX5_append_39 : decode cX5_append 39 = .ok (.iload 4, 2) := g_dec dt237_X5_append_ok (k := 23) rfl
theorem dX5_append_41 : decode cX5_append 41 = .ok (.bipush 10, 2) := g_dec dt237_X5_append_ok (k := 24) rfl
theorem dX5_append_43 : decode cX5_append 43 = .ok (.irem, 1) := g_dec dt237_X5_append_ok (k := 25) rfl
theorem dX5_append_44 : decode cX5_append 44 = .ok (.i2l, 1) := g_dec dt237_X5_append_ok (k := 26) rfl
theorem dX5_append_45 : decode cX5_append 45 = .ok (.invokevirtual 29, 3) := g_dec dt237_X5_append_ok (k := 27) rfl
theorem dX5_append_48 : decode cX5_append 48 = .ok (.iload 4, 2) := g_dec dt237_X5_append_ok (k := 28) rfl
theorem dX5_append_50 : decode cX5_append 50 = .ok (.bipush 10, 2) := g_dec dt237_X5_append_ok (k := 29) rfl
theorem dX5_append_52 : decode cX5_append 52 = .ok (.idiv, 1) := g_dec dt237_X5_append_ok (k := 30) rfl
theorem dX5_append_53 : decode cX5_append 53 = .ok (.istore 4, 2) := g_dec dt237_X5_append_ok (k := 31) rfl
theorem dX5_append_55 : decode cX5_append 55 = .ok (.iinc 5 (-1), 3) := g_dec dt237_X5_append_ok (k := 32) rfl
theorem dX5_append_58 : decode cX5_append 58 = .ok (.goto (-31), 3) := g_dec dt237_X5_append_ok (k := 33) rfl
theorem dX5_append_61 : decode cX5_append 61 = .ok (.aload_n 0, 1) := g_dec dt237_X5_append_ok (k := 34) rfl
theorem dX5_append_62 : decode cX5_append 62 = .ok (.invokevirtual 33, 3) := g_dec dt237_X5_append_ok (k := 35) rfl
theorem dX5_append_65 : decode cX5_append 65 = .ok (.aload_n 0, 1) := g_dec dt237_X5_append_ok (k := 36) rfl
theorem dX5_append_66 : decode cX5_append 66 = .ok (.getfield 47, 3) := g_dec dt237_X5_append_ok (k := 37) rfl
theorem dX5_append_69 : decode cX5_append 69 = .ok (.ireturn, 1) := g_dec dt237_X5_append_ok (k := 38) rfl
set_option maxRecDepth 100000 in
set_option maxHeartbeats 4000000 in
theorem k_X8_add_28 (l : Launch) (D : va_G) (y : Nat → ClassId) (aS : Nat → Nat) (sz : Nat) (h0 : Nat) (h1 : Nat) (wf30182 : Nat → Int64) : Met l yX8_add (Cond.code yX8_add cX8_add 3 none :: wsL_law) ({ frames := 0, cells := 0, slots := 0, locals := 0 } : Room) (va_Pc [.ref h0, .long 0] (gI D y aS [(h0, .inr (8, [.ref h1, .int 0])), (h1, .inl (y 1, 200, .inr (.inl wf30182)))] sz)) (va_Qv (fun (u : Unit) => True) (fun u => gO D (va_A [(h0, .inr (8, [.ref h1, .int 0])), (h1, .inl (y 1, 200, .inr (.inl wf30182)))] sz) [(h0, .inr (8, [.ref h1, .int 1])), (h1, .inl (y 1, 200, .inr (.inl (vp_updL wf30182 ((0 : Int32).toNatClampNeg) 0))))]) (va_A [(h0, .inr (8, [.ref h1, .int 0])), (h1, .inl (y 1, 200, .inr (.inl wf30182)))] sz)) 0 0 (va_A [(h0, .inr (8, [.ref h1, .int 0])), (h1, .inl (y 1, 200, .inr (.inl wf30182)))] sz) := by
  refine g_of (by decide) (Nat.le_of_ble_eq_true rfl) ?_
  intro p e s m below meth c ls A hx hb hr hml hown hg hlocks hin hsz hK hP hD hS hA hAe hl
  rw [← hAe]
  replace hown : s.vm.findClass RX8 = some m.cls := hown
  replace hl : lv_has ls 3 [(0, .ref h0), (1, .long 0)] := hl
  refine lv_aload_n hx hb dX8_add_0 rfl (lv_at hl 0 rfl) ?_
  refine gm_get (D := D) (ci := 8) (v := .int 0) (C := RX8) (T := TX8) (N := 2) hx hb hg inlX8 hown hK.1 hP 0 rfl rfl 1 (by decide) tX8_1 (hg _ gw_155) rfl dX8_add_1 ?_
  refine lv_if_lt (tgt := 39) hx hb dX8_add_4 (by decide) (fun c9 => absurd c9 (by decide +kernel)) (fun _ => ?_)
  refine lv_aload_n hx hb dX8_add_7 rfl (lv_at hl 0 rfl) ?_
  refine gm_get (D := D) (ci := 8) (v := .int 0) (C := RX8) (T := TX8) (N := 2) hx hb hg inlX8 hown hK.1 hP 0 rfl rfl 1 (by decide) tX8_1 (hg _ gw_155) rfl dX8_add_8 ?_
  refine lv_aload_n hx hb dX8_add_11 rfl (lv_at hl 0 rfl) ?_
  refine gm_get (D := D) (ci := 8) (v := .ref h1) (C := RX8) (T := TX8) (N := 2) hx hb hg inlX8 hown hK.1 hP 0 rfl rfl 0 (by decide) tX8_0 (hg _ gw_98) rfl dX8_add_12 ?_
  refine va_alen hx hb hK.1 hP 1 1 rfl rfl (v := 200) rfl dX8_add_15 ?_
  refine lv_icmp_ge (tgt := 39) hx hb dX8_add_16 (by decide) (fun c9 => absurd c9 (by decide +kernel)) (fun _ => ?_)
  refine lv_aload_n hx hb dX8_add_19 rfl (lv_at hl 0 rfl) ?_
  refine gm_get (D := D) (ci := 8) (v := .ref h1) (C := RX8) (T := TX8) (N := 2) hx hb hg inlX8 hown hK.1 hP 0 rfl rfl 0 (by decide) tX8_0 (hg _ gw_98) rfl dX8_add_20 ?_
  refine lv_aload_n hx hb dX8_add_23 rfl (lv_at hl 0 rfl) ?_
  refine gm_get (D := D) (ci := 8) (v := .int 0) (C := RX8) (T := TX8) (N := 2) hx hb hg inlX8 hown hK.1 hP 0 rfl rfl 1 (by decide) tX8_1 (hg _ gw_155) rfl dX8_add_24 ?_
  refine lv_lload_n hx hb dX8_add_27 rfl (lv_at hl 1 rfl) ?_
  refine va_last hx hb hK.1 hP hD hS 1 1 rfl rfl (by unfold vp_in; decide +kernel) dX8_add_28 ?_
  clear hP hD hS
  refine fun H locs (hP : va_P D vwCl [(h0, .inr (8, [.ref h1, .int 0])), (h1, .inl (y 1, 200, .inr (.inl (vp_updL wf30182 ((0 : Int32).toNatClampNeg) 0))))] H) (hD : va_D A [(h0, .inr (8, [.ref h1, .int 0])), (h1, .inl (y 1, 200, .inr (.inl (vp_updL wf30182 ((0 : Int32).toNatClampNeg) 0))))]) hS => ?_
  refine lv_aload_n hx hb dX8_add_29 rfl (lv_at hl 0 rfl) ?_
  refine lv_dup hx hb dX8_add_30 rfl ?_
  refine gm_get (D := D) (ci := 8) (v := .int 0) (C := RX8) (T := TX8) (N := 2) hx hb hg inlX8 hown hK.1 hP 0 rfl rfl 1 (by decide) tX8_1 (hg _ gw_155) rfl dX8_add_31 ?_
  refine lv_iconst (v := 1) hx hb dX8_add_34 (by decide) ?_
  refine lv_iadd hx hb dX8_add_35 ?_
  refine g_fi (v := 1) (by decide +kernel) ?_
  refine gm_put (D := D) (ci := 8) (v := .int 1) (ty := .int) (C := RX8) (T := TX8) (N := 2) hx hb hg inlX8 tyX8 tyX8_ok nmX8 hown hK.1 hP hD hS 0 rfl rfl 1 (by decide) tX8_1 (hg _ gw_155) (by decide +kernel) rfl rfl (Nat.le_of_ble_eq_true rfl) dX8_add_36 ?_
  clear hP hD hS H locs
  refine fun H locs (hP : va_P D vwCl [(h0, .inr (8, [.ref h1, .int 1])), (h1, .inl (y 1, 200, .inr (.inl (vp_updL wf30182 ((0 : Int32).toNatClampNeg) 0))))] H) (hD : va_D A [(h0, .inr (8, [.ref h1, .int 1])), (h1, .inl (y 1, 200, .inr (.inl (vp_updL wf30182 ((0 : Int32).toNatClampNeg) 0))))]) hS => ?_
  exact g_vret hx hb hr hlocks () hP hD hS trivial (Nat.le_of_ble_eq_true rfl) (Nat.le_of_ble_eq_true rfl) dX8_add_39
set_option maxRecDepth 100000 in
set_option maxHeartbeats 4000000 in
theorem k_X8_addMany_4 (l : Launch) (D : va_G) (y : Nat → ClassId) (aS : Nat → Nat) (sz : Nat) (h0 : Nat) (h1 : Nat) (wf30184 : Nat → Int64) : Met l yX8_addMany (Cond.code yX8_addMany cX8_addMany 5 none :: wsL_law) ({ frames := 1, cells := 0, slots := 0, locals := 22 } : Room) (va_Pc [.ref h0, .int 1, .long 0] (gI D y aS [(h0, .inr (8, [.ref h1, .int 0])), (h1, .inl (y 1, 200, .inr (.inl wf30184)))] sz)) (va_Qv (fun (u : Unit) => True) (fun u => gO D (va_A [(h0, .inr (8, [.ref h1, .int 0])), (h1, .inl (y 1, 200, .inr (.inl wf30184)))] sz) [(h0, .inr (8, [.ref h1, .int 1])), (h1, .inl (y 1, 200, .inr (.inl (vp_updL wf30184 ((0 : Int32).toNatClampNeg) 0))))]) (va_A [(h0, .inr (8, [.ref h1, .int 0])), (h1, .inl (y 1, 200, .inr (.inl wf30184)))] sz)) 0 0 (va_A [(h0, .inr (8, [.ref h1, .int 0])), (h1, .inl (y 1, 200, .inr (.inl wf30184)))] sz) := by
  refine g_of (by decide) (Nat.le_of_ble_eq_true rfl) ?_
  intro p e s m below meth c ls A hx hb hr hml hown hg hlocks hin hsz hK hP hD hS hA hAe hl
  rw [← hAe]
  replace hown : s.vm.findClass RX8 = some m.cls := hown
  replace hl : lv_has ls 5 [(0, .ref h0), (1, .int 1), (2, .long 0)] := hl
  refine lv_iconst (v := 0) hx hb dX8_addMany_0 (by decide) ?_
  refine lv_istore (lv' := [(4, .int 0), (0, .ref h0), (1, .int 1), (2, .long 0)]) hx hb dX8_addMany_1 hl (by decide) rfl ?_
  clear hl
  clear ls
  intro ls hl
  refine lv_iload hx hb dX8_addMany_3 (lv_at hl 0 rfl) ?_
  refine lv_iload_n hx hb dX8_addMany_5 rfl (lv_at hl 2 rfl) ?_
  refine lv_icmp_ge (tgt := 30) hx hb dX8_addMany_6 (by decide) (fun c9 => absurd c9 (by decide +kernel)) (fun _ => ?_)
  refine lv_iload hx hb dX8_addMany_9 (lv_at hl 0 rfl) ?_
  refine lv_aload_n hx hb dX8_addMany_11 rfl (lv_at hl 1 rfl) ?_
  refine gm_get (D := D) (ci := 8) (v := .ref h1) (C := RX8) (T := TX8) (N := 2) hx hb hg inlX8 hown hK.1 hP 0 rfl rfl 0 (by decide) tX8_0 (hg _ gw_98) rfl dX8_addMany_12 ?_
  refine va_alen hx hb hK.1 hP 1 1 rfl rfl (v := 200) rfl dX8_addMany_15 ?_
  refine lv_icmp_ge (tgt := 30) hx hb dX8_addMany_16 (by decide) (fun c9 => absurd c9 (by decide +kernel)) (fun _ => ?_)
  refine lv_aload_n hx hb dX8_addMany_19 rfl (lv_at hl 1 rfl) ?_
  refine lv_lload_n hx hb dX8_addMany_20 rfl (lv_at hl 3 rfl) ?_
  refine g_av (wr := []) (va_runV (As := [.long 0]) (rest := []) ⟨hx, hb, hml, hown, hg⟩ (k_X8_add_28 l D y aS s.heap.size h0 h1 wf30184) (cwV 1 hg ggV_RX8_19_X8_add rfl rfl rfl (by decide +kernel) ⟨Nat.le_of_ble_eq_true rfl, Nat.le_of_ble_eq_true rfl⟩) (g_preV (q := (RX8, TX8, 2)) hK hP hD [0, 1] rfl (by decide) (ci := 8) (q0 := 0) rfl rfl) rfl rfl hl.1 rfl (lv_room (Nat.le_of_ble_eq_true rfl)) dX8_addMany_21 ⟨Nat.le_of_ble_eq_true rfl, Nat.le_of_ble_eq_true rfl⟩) hP hD hS hA [0, 1] [] rfl rfl (by decide) (by decide) ?_
  clear hP hD hS
  refine fun u H locs hq hP hD hS => ?_
  replace hP : va_P D vwCl [(h0, .inr (8, [.ref h1, .int 1])), (h1, .inl (y 1, 200, .inr (.inl (vp_updL wf30184 ((0 : Int32).toNatClampNeg) 0))))] H := hP
  replace hD : va_D A [(h0, .inr (8, [.ref h1, .int 1])), (h1, .inl (y 1, 200, .inr (.inl (vp_updL wf30184 ((0 : Int32).toNatClampNeg) 0))))] := hD
  refine lv_iinc (v := 1) (lv' := [(4, .int 1), (0, .ref h0), (1, .int 1), (2, .long 0)]) hx hb dX8_addMany_24 hl (k := 0) rfl (by decide +kernel) (by decide) rfl ?_
  clear hl
  clear ls
  intro ls hl
  refine lv_goto (tgt := 3) hx hb dX8_addMany_27 (by decide) ?_
  refine lv_iload hx hb dX8_addMany_3 (lv_at hl 0 rfl) ?_
  refine lv_iload_n hx hb dX8_addMany_5 rfl (lv_at hl 2 rfl) ?_
  refine lv_icmp_ge (tgt := 30) hx hb dX8_addMany_6 (by decide) (fun _ => ?_) (fun c9 => absurd c9 (by decide +kernel))
  exact g_vret hx hb hr hlocks () hP hD hS trivial (Nat.le_of_ble_eq_true rfl) (Nat.le_of_ble_eq_true rfl) dX8_addMany_30
theorem ggV_RX5_44_X8_addMany : GoodIn wsL_law (wsV RX5 44 RX8 yX8_addMany (Cond.code yX8_addMany cX8_addMany 5 none :: wsL_law)) := g_gi (fun _ h => h) gW_good (List.forall_mem_cons.mpr ⟨⟨gw_1471, rfl⟩, List.forall_mem_cons.mpr ⟨⟨gw_157, rfl⟩, List.forall_mem_cons.mpr ⟨⟨gw_158, rfl⟩, List.forall_mem_cons.mpr ⟨⟨gw_48, rfl⟩, fun _ h => nomatch h⟩⟩⟩⟩) ⟨gw_159, rfl⟩
set_option maxRecDepth 100000 in
set_option maxHeartbeats 4000000 in
theorem k_X8_set_45 (l : Launch) (D : va_G) (y : Nat → ClassId) (aS : Nat → Nat) (sz : Nat) (h0 : Nat) (p1 : Int64) (h2 : Nat) (wp30188 : Int32) (wf30189 : Nat → Int64) : Met l yX8_set (Cond.code yX8_set cX8_set 4 none :: wsL_law) ({ frames := 0, cells := 0, slots := 0, locals := 0 } : Room) (va_Pc [.ref h0, .int 0, .long p1] (gI D y aS [(h0, .inr (8, [.ref h2, .int wp30188])), (h2, .inl (y 1, 200, .inr (.inl wf30189)))] sz)) (va_Qv (fun (u : Unit) => True) (fun u => gO D (va_A [(h0, .inr (8, [.ref h2, .int wp30188])), (h2, .inl (y 1, 200, .inr (.inl wf30189)))] sz) [(h0, .inr (8, [.ref h2, .int wp30188])), (h2, .inl (y 1, 200, .inr (.inl (vp_updL wf30189 ((0 : Int32).toNatClampNeg) p1))))]) (va_A [(h0, .inr (8, [.ref h2, .int wp30188])), (h2, .inl (y 1, 200, .inr (.inl wf30189)))] sz)) 0 0 (va_A [(h0, .inr (8, [.ref h2, .int wp30188])), (h2, .inl (y 1, 200, .inr (.inl wf30189)))] sz) := by
  refine g_of (by decide) (Nat.le_of_ble_eq_true rfl) ?_
  intro p e s m below meth c ls A hx hb hr hml hown hg hlocks hin hsz hK hP hD hS hA hAe hl
  rw [← hAe]
  replace hown : s.vm.findClass RX8 = some m.cls := hown
  replace hl : lv_has ls 4 [(0, .ref h0), (1, .int 0), (2, .long p1)] := hl
  refine lv_iload_n hx hb dX8_set_0 rfl (lv_at hl 1 rfl) ?_
  refine lv_if_lt (tgt := 20) hx hb dX8_set_1 (by decide) (fun c9 => absurd c9 (by decide +kernel)) (fun _ => ?_)
  refine lv_iload_n hx hb dX8_set_4 rfl (lv_at hl 1 rfl) ?_
  refine lv_aload_n hx hb dX8_set_5 rfl (lv_at hl 0 rfl) ?_
  refine gm_get (D := D) (ci := 8) (v := .ref h2) (C := RX8) (T := TX8) (N := 2) hx hb hg inlX8 hown hK.1 hP 0 rfl rfl 0 (by decide) tX8_0 (hg _ gw_98) rfl dX8_set_6 ?_
  refine va_alen hx hb hK.1 hP 1 1 rfl rfl (v := 200) rfl dX8_set_9 ?_
  refine lv_icmp_ge (tgt := 20) hx hb dX8_set_10 (by decide) (fun c9 => absurd c9 (by decide +kernel)) (fun _ => ?_)
  refine lv_aload_n hx hb dX8_set_13 rfl (lv_at hl 0 rfl) ?_
  refine gm_get (D := D) (ci := 8) (v := .ref h2) (C := RX8) (T := TX8) (N := 2) hx hb hg inlX8 hown hK.1 hP 0 rfl rfl 0 (by decide) tX8_0 (hg _ gw_98) rfl dX8_set_14 ?_
  refine lv_iload_n hx hb dX8_set_17 rfl (lv_at hl 1 rfl) ?_
  refine lv_lload_n hx hb dX8_set_18 rfl (lv_at hl 2 rfl) ?_
  refine va_last hx hb hK.1 hP hD hS 1 1 rfl rfl (by unfold vp_in; decide +kernel) dX8_set_19 ?_
  clear hP hD hS
  refine fun H locs (hP : va_P D vwCl [(h0, .inr (8, [.ref h2, .int wp30188])), (h2, .inl (y 1, 200, .inr (.inl (vp_updL wf30189 ((0 : Int32).toNatClampNeg) p1))))] H) (hD : va_D A [(h0, .inr (8, [.ref h2, .int wp30188])), (h2, .inl (y 1, 200, .inr (.inl (vp_updL wf30189 ((0 : Int32).toNatClampNeg) p1))))]) hS => ?_
  exact g_vret hx hb hr hlocks () hP hD hS trivial (Nat.le_of_ble_eq_true rfl) (Nat.le_of_ble_eq_true rfl) dX8_set_20
set_option maxRecDepth 100000 in
set_option maxHeartbeats 4000000 in
theorem k_X8_whole_27 (l : Launch) (D : va_G) (y : Nat → ClassId) (aS : Nat → Nat) (sz : Nat) (h0 : Nat) (h1 : Nat) (wp30192 : Int32) : Met l yX8_whole (Cond.code yX8_whole cX8_whole 2 (some .int) :: wsL_law) ({ frames := 0, cells := 0, slots := 0, locals := 0 } : Room) (va_Pc [.ref h0, .int 0] (gI D y aS [(h0, .inr (8, [.ref h1, .int wp30192])), (h1, .inl (y 1, 3, .inr (.inl (fun _ => 0))))] sz)) (va_Qi (fun (r : Int32) (u : Unit) => 0 = r) (fun u => gO D (va_A [(h0, .inr (8, [.ref h1, .int wp30192])), (h1, .inl (y 1, 3, .inr (.inl (fun _ => 0))))] sz) [(h0, .inr (8, [.ref h1, .int wp30192])), (h1, .inl (y 1, 3, .inr (.inl (fun _ => 0))))]) (va_A [(h0, .inr (8, [.ref h1, .int wp30192])), (h1, .inl (y 1, 3, .inr (.inl (fun _ => 0))))] sz)) 0 0 (va_A [(h0, .inr (8, [.ref h1, .int wp30192])), (h1, .inl (y 1, 3, .inr (.inl (fun _ => 0))))] sz) := by
  refine g_of (by decide) (Nat.le_of_ble_eq_true rfl) ?_
  intro p e s m below meth c ls A hx hb hr hml hown hg hlocks hin hsz hK hP hD hS hA hAe hl
  rw [← hAe]
  replace hown : s.vm.findClass RX8 = some m.cls := hown
  replace hl : lv_has ls 2 [(0, .ref h0), (1, .int 0)] := hl
  refine lv_iload_n hx hb dX8_whole_0 rfl (lv_at hl 1 rfl) ?_
  refine lv_if_lt (tgt := 23) hx hb dX8_whole_1 (by decide) (fun c9 => absurd c9 (by decide +kernel)) (fun _ => ?_)
  refine lv_iload_n hx hb dX8_whole_4 rfl (lv_at hl 1 rfl) ?_
  refine lv_aload_n hx hb dX8_whole_5 rfl (lv_at hl 0 rfl) ?_
  refine gm_get (D := D) (ci := 8) (v := .ref h1) (C := RX8) (T := TX8) (N := 2) hx hb hg inlX8 hown hK.1 hP 0 rfl rfl 0 (by decide) tX8_0 (hg _ gw_98) rfl dX8_whole_6 ?_
  refine va_alen hx hb hK.1 hP 1 1 rfl rfl (v := 3) rfl dX8_whole_9 ?_
  refine lv_icmp_ge (tgt := 23) hx hb dX8_whole_10 (by decide) (fun c9 => absurd c9 (by decide +kernel)) (fun _ => ?_)
  refine lv_aload_n hx hb dX8_whole_13 rfl (lv_at hl 0 rfl) ?_
  refine gm_get (D := D) (ci := 8) (v := .ref h1) (C := RX8) (T := TX8) (N := 2) hx hb hg inlX8 hown hK.1 hP 0 rfl rfl 0 (by decide) tX8_0 (hg _ gw_98) rfl dX8_whole_14 ?_
  refine lv_iload_n hx hb dX8_whole_17 rfl (lv_at hl 1 rfl) ?_
  refine va_lald hx hb hK.1 hP 1 1 rfl rfl (by unfold vp_in; decide +kernel) dX8_whole_18 ?_
  refine g_fj (v := 0) (by rfl) ?_
  refine lv_l2i (v := 0) hx hb dX8_whole_19 (by decide +kernel) ?_
  refine lv_goto (tgt := 24) hx hb dX8_whole_20 (by decide) ?_
  exact g_iret hx hb hr hlocks () hP hD hS rfl rfl (Nat.le_of_ble_eq_true rfl) (Nat.le_of_ble_eq_true rfl) dX8_whole_24
theorem ggV_RX5_50_X8_whole : GoodIn wsL_law (wsV RX5 50 RX8 yX8_whole (Cond.code yX8_whole cX8_whole 2 (some .int) :: wsL_law)) := g_gi (fun _ h => h) gW_good (List.forall_mem_cons.mpr ⟨⟨gw_1447, rfl⟩, List.forall_mem_cons.mpr ⟨⟨gw_429, rfl⟩, List.forall_mem_cons.mpr ⟨⟨gw_430, rfl⟩, List.forall_mem_cons.mpr ⟨⟨gw_48, rfl⟩, fun _ h => nomatch h⟩⟩⟩⟩) ⟨gw_431, rfl⟩
set_option maxRecDepth 100000 in
set_option maxHeartbeats 4000000 in
theorem k_X5_find_0 (l : Launch) (D : va_G) (y : Nat → ClassId) (aS : Nat → Nat) (sz : Nat) (h0 : Nat) (h1 : Nat) (h2 : Nat) (h3 : Nat) (h4 : Nat) (wp30194 : Int32) (h6 : Nat) (wp30195 : Int32) : Met l yX5_find (Cond.code yX5_find cX5_find 6 none :: wsL_law) ({ frames := 1, cells := 0, slots := 0, locals := 21 } : Room) (va_Pc [.ref h0, .int 0, .int 0] (gI D y aS [(h0, .inr (5, [.ref h1, .ref h2, .ref h3, .ref h4, .int wp30194])), (h4, .inr (8, [.ref h6, .int wp30195])), (h6, .inl (y 1, 3, .inr (.inl (fun _ => 0))))] sz)) (va_Qv (fun (u : Unit) => True) (fun u => gO D (va_A [(h0, .inr (5, [.ref h1, .ref h2, .ref h3, .ref h4, .int wp30194])), (h4, .inr (8, [.ref h6, .int wp30195])), (h6, .inl (y 1, 3, .inr (.inl (fun _ => 0))))] sz) [(h0, .inr (5, [.ref h1, .ref h2, .ref h3, .ref h4, .int wp30194])), (h4, .inr (8, [.ref h6, .int wp30195])), (h6, .inl (y 1, 3, .inr (.inl (fun _ => 0))))]) (va_A [(h0, .inr (5, [.ref h1, .ref h2, .ref h3, .ref h4, .int wp30194])), (h4, .inr (8, [.ref h6, .int wp30195])), (h6, .inl (y 1, 3, .inr (.inl (fun _ => 0))))] sz)) 0 0 (va_A [(h0, .inr (5, [.ref h1, .ref h2, .ref h3, .ref h4, .int wp30194])), (h4, .inr (8, [.ref h6, .int wp30195])), (h6, .inl (y 1, 3, .inr (.inl (fun _ => 0))))] sz) := by
  refine g_of (by decide) (Nat.le_of_ble_eq_true rfl) ?_
  intro p e s m below meth c ls A hx hb hr hml hown hg hlocks hin hsz hK hP hD hS hA hAe hl
  rw [← hAe]
  replace hown : s.vm.findClass RX5 = some m.cls := hown
  replace hl : lv_has ls 6 [(0, .ref h0), (1, .int 0), (2, .int 0)] := hl
  refine lv_aload_n hx hb dX5_find_0 rfl (lv_at hl 0 rfl) ?_
  refine gm_get (D := D) (ci := 5) (v := .ref h4) (C := RX5) (T := TX5) (N := 5) hx hb hg inlX5 hown hK.1 hP 0 rfl rfl 3 (by decide) tX5_3 (hg _ gw_141) rfl dX5_find_1 ?_
  refine lv_iload_n hx hb dX5_find_4 rfl (lv_at hl 1 rfl) ?_
  refine g_ai (wr := [(h0, .inr (5, [.ref h1, .ref h2, .ref h3, .ref h4, .int wp30194]))]) (va_runV (As := [.int 0]) (rest := []) ⟨hx, hb, hml, hown, hg⟩ (k_X8_whole_27 l D y aS s.heap.size h4 h6 wp30195) (cwV 1 hg ggV_RX5_50_X8_whole rfl rfl rfl (by decide +kernel) ⟨Nat.le_of_ble_eq_true rfl, Nat.le_of_ble_eq_true rfl⟩) (g_preV (q := (RX8, TX8, 2)) hK hP hD [1, 2] rfl (by decide) (ci := 8) (q0 := 1) rfl rfl) rfl rfl hl.1 rfl (lv_room (Nat.le_of_ble_eq_true rfl)) dX5_find_5 ⟨Nat.le_of_ble_eq_true rfl, Nat.le_of_ble_eq_true rfl⟩) hP hD hS hA [1, 2] [0] rfl rfl (by decide) (by decide) ?_
  clear hP hD hS
  refine fun r30196 u H locs hq hP hD hS => ?_
  subst hq
  replace hP : va_P D vwCl [(h0, .inr (5, [.ref h1, .ref h2, .ref h3, .ref h4, .int wp30194])), (h4, .inr (8, [.ref h6, .int wp30195])), (h6, .inl (y 1, 3, .inr (.inl (fun _ => 0))))] H := hP
  replace hD : va_D A [(h0, .inr (5, [.ref h1, .ref h2, .ref h3, .ref h4, .int wp30194])), (h4, .inr (8, [.ref h6, .int wp30195])), (h6, .inl (y 1, 3, .inr (.inl (fun _ => 0))))] := hD
  refine lv_istore_n (lv' := [(3, .int 0), (0, .ref h0), (1, .int 0), (2, .int 0)]) hx hb dX5_find_8 rfl hl (by decide) rfl ?_
  clear hl
  clear ls
  intro ls hl
  refine lv_iconst (v := 0) hx hb dX5_find_9 (by decide) ?_
  refine lv_istore (lv' := [(4, .int 0), (3, .int 0), (0, .ref h0), (1, .int 0), (2, .int 0)]) hx hb dX5_find_10 hl (by decide) rfl ?_
  clear hl
  clear ls
  intro ls hl
  refine lv_iload hx hb dX5_find_12 (lv_at hl 0 rfl) ?_
  refine lv_iload_n hx hb dX5_find_14 rfl (lv_at hl 1 rfl) ?_
  refine lv_icmp_ge (tgt := 67) hx hb dX5_find_15 (by decide) (fun _ => ?_) (fun c9 => absurd c9 (by decide +kernel))
  refine lv_iload_n hx hb dX5_find_67 rfl (lv_at hl 1 rfl) ?_
  refine lv_if_le (tgt := 107) hx hb dX5_find_68 (by decide) (fun _ => ?_) (fun c9 => absurd c9 (by decide +kernel))
  refine lv_iload hx hb dX5_find_107 (lv_at hl 0 rfl) ?_
  refine lv_if_le (tgt := 139) hx hb dX5_find_109 (by decide) (fun _ => ?_) (fun c9 => absurd c9 (by decide +kernel))
  exact g_vret hx hb hr hlocks () hP hD hS trivial (Nat.le_of_ble_eq_true rfl) (Nat.le_of_ble_eq_true rfl) dX5_find_139
theorem ggV_RX5_54_X5_find : GoodIn wsL_law (wsV RX5 54 RX5 yX5_find (Cond.code yX5_find cX5_find 6 none :: wsL_law)) := g_gi (fun _ h => h) gW_good (List.forall_mem_cons.mpr ⟨⟨gw_1443, rfl⟩, List.forall_mem_cons.mpr ⟨⟨gw_1444, rfl⟩, List.forall_mem_cons.mpr ⟨⟨gw_1445, rfl⟩, List.forall_mem_cons.mpr ⟨⟨gw_39, rfl⟩, fun _ h => nomatch h⟩⟩⟩⟩) ⟨gw_1446, rfl⟩
set_option maxRecDepth 100000 in
set_option maxHeartbeats 4000000 in
theorem k_X8_whole_28 (l : Launch) (D : va_G) (y : Nat → ClassId) (aS : Nat → Nat) (sz : Nat) (h0 : Nat) (h1 : Nat) (wp30198 : Int32) : Met l yX8_whole (Cond.code yX8_whole cX8_whole 2 (some .int) :: wsL_law) ({ frames := 0, cells := 0, slots := 0, locals := 0 } : Room) (va_Pc [.ref h0, .int 1] (gI D y aS [(h0, .inr (8, [.ref h1, .int wp30198])), (h1, .inl (y 1, 3, .inr (.inl (fun _ => 0))))] sz)) (va_Qi (fun (r : Int32) (u : Unit) => 0 = r) (fun u => gO D (va_A [(h0, .inr (8, [.ref h1, .int wp30198])), (h1, .inl (y 1, 3, .inr (.inl (fun _ => 0))))] sz) [(h0, .inr (8, [.ref h1, .int wp30198])), (h1, .inl (y 1, 3, .inr (.inl (fun _ => 0))))]) (va_A [(h0, .inr (8, [.ref h1, .int wp30198])), (h1, .inl (y 1, 3, .inr (.inl (fun _ => 0))))] sz)) 0 0 (va_A [(h0, .inr (8, [.ref h1, .int wp30198])), (h1, .inl (y 1, 3, .inr (.inl (fun _ => 0))))] sz) := by
  refine g_of (by decide) (Nat.le_of_ble_eq_true rfl) ?_
  intro p e s m below meth c ls A hx hb hr hml hown hg hlocks hin hsz hK hP hD hS hA hAe hl
  rw [← hAe]
  replace hown : s.vm.findClass RX8 = some m.cls := hown
  replace hl : lv_has ls 2 [(0, .ref h0), (1, .int 1)] := hl
  refine lv_iload_n hx hb dX8_whole_0 rfl (lv_at hl 1 rfl) ?_
  refine lv_if_lt (tgt := 23) hx hb dX8_whole_1 (by decide) (fun c9 => absurd c9 (by decide +kernel)) (fun _ => ?_)
  refine lv_iload_n hx hb dX8_whole_4 rfl (lv_at hl 1 rfl) ?_
  refine lv_aload_n hx hb dX8_whole_5 rfl (lv_at hl 0 rfl) ?_
  refine gm_get (D := D) (ci := 8) (v := .ref h1) (C := RX8) (T := TX8) (N := 2) hx hb hg inlX8 hown hK.1 hP 0 rfl rfl 0 (by decide) tX8_0 (hg _ gw_98) rfl dX8_whole_6 ?_
  refine va_alen hx hb hK.1 hP 1 1 rfl rfl (v := 3) rfl dX8_whole_9 ?_
  refine lv_icmp_ge (tgt := 23) hx hb dX8_whole_10 (by decide) (fun c9 => absurd c9 (by decide +kernel)) (fun _ => ?_)
  refine lv_aload_n hx hb dX8_whole_13 rfl (lv_at hl 0 rfl) ?_
  refine gm_get (D := D) (ci := 8) (v := .ref h1) (C := RX8) (T := TX8) (N := 2) hx hb hg inlX8 hown hK.1 hP 0 rfl rfl 0 (by decide) tX8_0 (hg _ gw_98) rfl dX8_whole_14 ?_
  refine lv_iload_n hx hb dX8_whole_17 rfl (lv_at hl 1 rfl) ?_
  refine va_lald hx hb hK.1 hP 1 1 rfl rfl (by unfold vp_in; decide +kernel) dX8_whole_18 ?_
  refine g_fj (v := 0) (by rfl) ?_
  refine lv_l2i (v := 0) hx hb dX8_whole_19 (by decide +kernel) ?_
  refine lv_goto (tgt := 24) hx hb dX8_whole_20 (by decide) ?_
  exact g_iret hx hb hr hlocks () hP hD hS rfl rfl (Nat.le_of_ble_eq_true rfl) (Nat.le_of_ble_eq_true rfl) dX8_whole_24
set_option maxRecDepth 100000 in
set_option maxHeartbeats 4000000 in
theorem k_X5_find_1 (l : Launch) (D : va_G) (y : Nat → ClassId) (aS : Nat → Nat) (sz : Nat) (h0 : Nat) (h1 : Nat) (h2 : Nat) (h3 : Nat) (h4 : Nat) (wp30200 : Int32) (h6 : Nat) (wp30201 : Int32) : Met l yX5_find (Cond.code yX5_find cX5_find 6 none :: wsL_law) ({ frames := 1, cells := 0, slots := 0, locals := 21 } : Room) (va_Pc [.ref h0, .int 1, .int 0] (gI D y aS [(h0, .inr (5, [.ref h1, .ref h2, .ref h3, .ref h4, .int wp30200])), (h4, .inr (8, [.ref h6, .int wp30201])), (h6, .inl (y 1, 3, .inr (.inl (fun _ => 0))))] sz)) (va_Qv (fun (u : Unit) => True) (fun u => gO D (va_A [(h0, .inr (5, [.ref h1, .ref h2, .ref h3, .ref h4, .int wp30200])), (h4, .inr (8, [.ref h6, .int wp30201])), (h6, .inl (y 1, 3, .inr (.inl (fun _ => 0))))] sz) [(h0, .inr (5, [.ref h1, .ref h2, .ref h3, .ref h4, .int wp30200])), (h4, .inr (8, [.ref h6, .int wp30201])), (h6, .inl (y 1, 3, .inr (.inl (fun _ => 0))))]) (va_A [(h0, .inr (5, [.ref h1, .ref h2, .ref h3, .ref h4, .int wp30200])), (h4, .inr (8, [.ref h6, .int wp30201])), (h6, .inl (y 1, 3, .inr (.inl (fun _ => 0))))] sz)) 0 0 (va_A [(h0, .inr (5, [.ref h1, .ref h2, .ref h3, .ref h4, .int wp30200])), (h4, .inr (8, [.ref h6, .int wp30201])), (h6, .inl (y 1, 3, .inr (.inl (fun _ => 0))))] sz) := by
  refine g_of (by decide) (Nat.le_of_ble_eq_true rfl) ?_
  intro p e s m below meth c ls A hx hb hr hml hown hg hlocks hin hsz hK hP hD hS hA hAe hl
  rw [← hAe]
  replace hown : s.vm.findClass RX5 = some m.cls := hown
  replace hl : lv_has ls 6 [(0, .ref h0), (1, .int 1), (2, .int 0)] := hl
  refine lv_aload_n hx hb dX5_find_0 rfl (lv_at hl 0 rfl) ?_
  refine gm_get (D := D) (ci := 5) (v := .ref h4) (C := RX5) (T := TX5) (N := 5) hx hb hg inlX5 hown hK.1 hP 0 rfl rfl 3 (by decide) tX5_3 (hg _ gw_141) rfl dX5_find_1 ?_
  refine lv_iload_n hx hb dX5_find_4 rfl (lv_at hl 1 rfl) ?_
  refine g_ai (wr := [(h0, .inr (5, [.ref h1, .ref h2, .ref h3, .ref h4, .int wp30200]))]) (va_runV (As := [.int 1]) (rest := []) ⟨hx, hb, hml, hown, hg⟩ (k_X8_whole_28 l D y aS s.heap.size h4 h6 wp30201) (cwV 1 hg ggV_RX5_50_X8_whole rfl rfl rfl (by decide +kernel) ⟨Nat.le_of_ble_eq_true rfl, Nat.le_of_ble_eq_true rfl⟩) (g_preV (q := (RX8, TX8, 2)) hK hP hD [1, 2] rfl (by decide) (ci := 8) (q0 := 1) rfl rfl) rfl rfl hl.1 rfl (lv_room (Nat.le_of_ble_eq_true rfl)) dX5_find_5 ⟨Nat.le_of_ble_eq_true rfl, Nat.le_of_ble_eq_true rfl⟩) hP hD hS hA [1, 2] [0] rfl rfl (by decide) (by decide) ?_
  clear hP hD hS
  refine fun r30202 u H locs hq hP hD hS => ?_
  subst hq
  replace hP : va_P D vwCl [(h0, .inr (5, [.ref h1, .ref h2, .ref h3, .ref h4, .int wp30200])), (h4, .inr (8, [.ref h6, .int wp30201])), (h6, .inl (y 1, 3, .inr (.inl (fun _ => 0))))] H := hP
  replace hD : va_D A [(h0, .inr (5, [.ref h1, .ref h2, .ref h3, .ref h4, .int wp30200])), (h4, .inr (8, [.ref h6, .int wp30201])), (h6, .inl (y 1, 3, .inr (.inl (fun _ => 0))))] := hD
  refine lv_istore_n (lv' := [(3, .int 0), (0, .ref h0), (1, .int 1), (2, .int 0)]) hx hb dX5_find_8 rfl hl (by decide) rfl ?_
  clear hl
  clear ls
  intro ls hl
  refine lv_iconst (v := 0) hx hb dX5_find_9 (by decide) ?_
  refine lv_istore (lv' := [(4, .int 0), (3, .int 0), (0, .ref h0), (1, .int 1), (2, .int 0)]) hx hb dX5_find_10 hl (by decide) rfl ?_
  clear hl
  clear ls
  intro ls hl
  refine lv_iload hx hb dX5_find_12 (lv_at hl 0 rfl) ?_
  refine lv_iload_n hx hb dX5_find_14 rfl (lv_at hl 1 rfl) ?_
  refine lv_icmp_ge (tgt := 67) hx hb dX5_find_15 (by decide) (fun _ => ?_) (fun c9 => absurd c9 (by decide +kernel))
  refine lv_iload_n hx hb dX5_find_67 rfl (lv_at hl 1 rfl) ?_
  refine lv_if_le (tgt := 107) hx hb dX5_find_68 (by decide) (fun _ => ?_) (fun c9 => absurd c9 (by decide +kernel))
  refine lv_iload hx hb dX5_find_107 (lv_at hl 0 rfl) ?_
  refine lv_if_le (tgt := 139) hx hb dX5_find_109 (by decide) (fun _ => ?_) (fun c9 => absurd c9 (by decide +kernel))
  exact g_vret hx hb hr hlocks () hP hD hS trivial (Nat.le_of_ble_eq_true rfl) (Nat.le_of_ble_eq_true rfl) dX5_find_139
set_option maxRecDepth 100000 in
set_option maxHeartbeats 4000000 in
theorem k_X8_whole_29 (l : Launch) (D : va_G) (y : Nat → ClassId) (aS : Nat → Nat) (sz : Nat) (h0 : Nat) (h1 : Nat) (wp30204 : Int32) : Met l yX8_whole (Cond.code yX8_whole cX8_whole 2 (some .int) :: wsL_law) ({ frames := 0, cells := 0, slots := 0, locals := 0 } : Room) (va_Pc [.ref h0, .int 2] (gI D y aS [(h0, .inr (8, [.ref h1, .int wp30204])), (h1, .inl (y 1, 3, .inr (.inl (fun _ => 0))))] sz)) (va_Qi (fun (r : Int32) (u : Unit) => 0 = r) (fun u => gO D (va_A [(h0, .inr (8, [.ref h1, .int wp30204])), (h1, .inl (y 1, 3, .inr (.inl (fun _ => 0))))] sz) [(h0, .inr (8, [.ref h1, .int wp30204])), (h1, .inl (y 1, 3, .inr (.inl (fun _ => 0))))]) (va_A [(h0, .inr (8, [.ref h1, .int wp30204])), (h1, .inl (y 1, 3, .inr (.inl (fun _ => 0))))] sz)) 0 0 (va_A [(h0, .inr (8, [.ref h1, .int wp30204])), (h1, .inl (y 1, 3, .inr (.inl (fun _ => 0))))] sz) := by
  refine g_of (by decide) (Nat.le_of_ble_eq_true rfl) ?_
  intro p e s m below meth c ls A hx hb hr hml hown hg hlocks hin hsz hK hP hD hS hA hAe hl
  rw [← hAe]
  replace hown : s.vm.findClass RX8 = some m.cls := hown
  replace hl : lv_has ls 2 [(0, .ref h0), (1, .int 2)] := hl
  refine lv_iload_n hx hb dX8_whole_0 rfl (lv_at hl 1 rfl) ?_
  refine lv_if_lt (tgt := 23) hx hb dX8_whole_1 (by decide) (fun c9 => absurd c9 (by decide +kernel)) (fun _ => ?_)
  refine lv_iload_n hx hb dX8_whole_4 rfl (lv_at hl 1 rfl) ?_
  refine lv_aload_n hx hb dX8_whole_5 rfl (lv_at hl 0 rfl) ?_
  refine gm_get (D := D) (ci := 8) (v := .ref h1) (C := RX8) (T := TX8) (N := 2) hx hb hg inlX8 hown hK.1 hP 0 rfl rfl 0 (by decide) tX8_0 (hg _ gw_98) rfl dX8_whole_6 ?_
  refine va_alen hx hb hK.1 hP 1 1 rfl rfl (v := 3) rfl dX8_whole_9 ?_
  refine lv_icmp_ge (tgt := 23) hx hb dX8_whole_10 (by decide) (fun c9 => absurd c9 (by decide +kernel)) (fun _ => ?_)
  refine lv_aload_n hx hb dX8_whole_13 rfl (lv_at hl 0 rfl) ?_
  refine gm_get (D := D) (ci := 8) (v := .ref h1) (C := RX8) (T := TX8) (N := 2) hx hb hg inlX8 hown hK.1 hP 0 rfl rfl 0 (by decide) tX8_0 (hg _ gw_98) rfl dX8_whole_14 ?_
  refine lv_iload_n hx hb dX8_whole_17 rfl (lv_at hl 1 rfl) ?_
  refine va_lald hx hb hK.1 hP 1 1 rfl rfl (by unfold vp_in; decide +kernel) dX8_whole_18 ?_
  refine g_fj (v := 0) (by rfl) ?_
  refine lv_l2i (v := 0) hx hb dX8_whole_19 (by decide +kernel) ?_
  refine lv_goto (tgt := 24) hx hb dX8_whole_20 (by decide) ?_
  exact g_iret hx hb hr hlocks () hP hD hS rfl rfl (Nat.le_of_ble_eq_true rfl) (Nat.le_of_ble_eq_true rfl) dX8_whole_24
set_option maxRecDepth 100000 in
set_option maxHeartbeats 4000000 in
theorem k_X5_find_2 (l : Launch) (D : va_G) (y : Nat → ClassId) (aS : Nat → Nat) (sz : Nat) (h0 : Nat) (h1 : Nat) (h2 : Nat) (h3 : Nat) (h4 : Nat) (wp30206 : Int32) (h6 : Nat) (wp30207 : Int32) : Met l yX5_find (Cond.code yX5_find cX5_find 6 none :: wsL_law) ({ frames := 1, cells := 0, slots := 0, locals := 21 } : Room) (va_Pc [.ref h0, .int 2, .int 0] (gI D y aS [(h0, .inr (5, [.ref h1, .ref h2, .ref h3, .ref h4, .int wp30206])), (h4, .inr (8, [.ref h6, .int wp30207])), (h6, .inl (y 1, 3, .inr (.inl (fun _ => 0))))] sz)) (va_Qv (fun (u : Unit) => True) (fun u => gO D (va_A [(h0, .inr (5, [.ref h1, .ref h2, .ref h3, .ref h4, .int wp30206])), (h4, .inr (8, [.ref h6, .int wp30207])), (h6, .inl (y 1, 3, .inr (.inl (fun _ => 0))))] sz) [(h0, .inr (5, [.ref h1, .ref h2, .ref h3, .ref h4, .int wp30206])), (h4, .inr (8, [.ref h6, .int wp30207])), (h6, .inl (y 1, 3, .inr (.inl (fun _ => 0))))]) (va_A [(h0, .inr (5, [.ref h1, .ref h2, .ref h3, .ref h4, .int wp30206])), (h4, .inr (8, [.ref h6, .int wp30207])), (h6, .inl (y 1, 3, .inr (.inl (fun _ => 0))))] sz)) 0 0 (va_A [(h0, .inr (5, [.ref h1, .ref h2, .ref h3, .ref h4, .int wp30206])), (h4, .inr (8, [.ref h6, .int wp30207])), (h6, .inl (y 1, 3, .inr (.inl (fun _ => 0))))] sz) := by
  refine g_of (by decide) (Nat.le_of_ble_eq_true rfl) ?_
  intro p e s m below meth c ls A hx hb hr hml hown hg hlocks hin hsz hK hP hD hS hA hAe hl
  rw [← hAe]
  replace hown : s.vm.findClass RX5 = some m.cls := hown
  replace hl : lv_has ls 6 [(0, .ref h0), (1, .int 2), (2, .int 0)] := hl
  refine lv_aload_n hx hb dX5_find_0 rfl (lv_at hl 0 rfl) ?_
  refine gm_get (D := D) (ci := 5) (v := .ref h4) (C := RX5) (T := TX5) (N := 5) hx hb hg inlX5 hown hK.1 hP 0 rfl rfl 3 (by decide) tX5_3 (hg _ gw_141) rfl dX5_find_1 ?_
  refine lv_iload_n hx hb dX5_find_4 rfl (lv_at hl 1 rfl) ?_
  refine g_ai (wr := [(h0, .inr (5, [.ref h1, .ref h2, .ref h3, .ref h4, .int wp30206]))]) (va_runV (As := [.int 2]) (rest := []) ⟨hx, hb, hml, hown, hg⟩ (k_X8_whole_29 l D y aS s.heap.size h4 h6 wp30207) (cwV 1 hg ggV_RX5_50_X8_whole rfl rfl rfl (by decide +kernel) ⟨Nat.le_of_ble_eq_true rfl, Nat.le_of_ble_eq_true rfl⟩) (g_preV (q := (RX8, TX8, 2)) hK hP hD [1, 2] rfl (by decide) (ci := 8) (q0 := 1) rfl rfl) rfl rfl hl.1 rfl (lv_room (Nat.le_of_ble_eq_true rfl)) dX5_find_5 ⟨Nat.le_of_ble_eq_true rfl, Nat.le_of_ble_eq_true rfl⟩) hP hD hS hA [1, 2] [0] rfl rfl (by decide) (by decide) ?_
  clear hP hD hS
  refine fun r30208 u H locs hq hP hD hS => ?_
  subst hq
  replace hP : va_P D vwCl [(h0, .inr (5, [.ref h1, .ref h2, .ref h3, .ref h4, .int wp30206])), (h4, .inr (8, [.ref h6, .int wp30207])), (h6, .inl (y 1, 3, .inr (.inl (fun _ => 0))))] H := hP
  replace hD : va_D A [(h0, .inr (5, [.ref h1, .ref h2, .ref h3, .ref h4, .int wp30206])), (h4, .inr (8, [.ref h6, .int wp30207])), (h6, .inl (y 1, 3, .inr (.inl (fun _ => 0))))] := hD
  refine lv_istore_n (lv' := [(3, .int 0), (0, .ref h0), (1, .int 2), (2, .int 0)]) hx hb dX5_find_8 rfl hl (by decide) rfl ?_
  clear hl
  clear ls
  intro ls hl
  refine lv_iconst (v := 0) hx hb dX5_find_9 (by decide) ?_
  refine lv_istore (lv' := [(4, .int 0), (3, .int 0), (0, .ref h0), (1, .int 2), (2, .int 0)]) hx hb dX5_find_10 hl (by decide) rfl ?_
  clear hl
  clear ls
  intro ls hl
  refine lv_iload hx hb dX5_find_12 (lv_at hl 0 rfl) ?_
  refine lv_iload_n hx hb dX5_find_14 rfl (lv_at hl 1 rfl) ?_
  refine lv_icmp_ge (tgt := 67) hx hb dX5_find_15 (by decide) (fun _ => ?_) (fun c9 => absurd c9 (by decide +kernel))
  refine lv_iload_n hx hb dX5_find_67 rfl (lv_at hl 1 rfl) ?_
  refine lv_if_le (tgt := 107) hx hb dX5_find_68 (by decide) (fun _ => ?_) (fun c9 => absurd c9 (by decide +kernel))
  refine lv_iload hx hb dX5_find_107 (lv_at hl 0 rfl) ?_
  refine lv_if_le (tgt := 139) hx hb dX5_find_109 (by decide) (fun _ => ?_) (fun c9 => absurd c9 (by decide +kernel))
  exact g_vret hx hb hr hlocks () hP hD hS trivial (Nat.le_of_ble_eq_true rfl) (Nat.le_of_ble_eq_true rfl) dX5_find_139
set_option maxRecDepth 100000 in
set_option maxHeartbeats 4000000 in
theorem k_X5_findOut_1 (l : Launch) (D : va_G) (y : Nat → ClassId) (aS : Nat → Nat) (sz : Nat) (h0 : Nat) (h1 : Nat) (h2 : Nat) (h3 : Nat) (h4 : Nat) (wp30210 : Int32) (h6 : Nat) (h7 : Nat) (wp30211 : Int32) (wf30212 : Nat → Int64) (h10 : Nat) (wp30213 : Int32) : Met l yX5_findOut (Cond.code yX5_findOut cX5_findOut 3 none :: wsL_law) ({ frames := 2, cells := 0, slots := 0, locals := 46 } : Room) (va_Pc [.ref h0] (gI D y aS [(h0, .inr (5, [.ref h1, .ref h2, .ref h3, .ref h4, .int wp30210])), (h1, .inr (8, [.ref h6, .int 1])), (h2, .inr (8, [.ref h7, .int wp30211])), (h7, .inl (y 1, 200, .inr (.inl wf30212))), (h4, .inr (8, [.ref h10, .int wp30213])), (h10, .inl (y 1, 3, .inr (.inl (fun _ => 0))))] sz)) (va_Qv (fun (u : Unit) => True) (fun u => gO D (va_A [(h0, .inr (5, [.ref h1, .ref h2, .ref h3, .ref h4, .int wp30210])), (h1, .inr (8, [.ref h6, .int 1])), (h2, .inr (8, [.ref h7, .int wp30211])), (h7, .inl (y 1, 200, .inr (.inl wf30212))), (h4, .inr (8, [.ref h10, .int wp30213])), (h10, .inl (y 1, 3, .inr (.inl (fun _ => 0))))] sz) [(h0, .inr (5, [.ref h1, .ref h2, .ref h3, .ref h4, .int 1])), (h1, .inr (8, [.ref h6, .int 1])), (h2, .inr (8, [.ref h7, .int wp30211])), (h7, .inl (y 1, 200, .inr (.inl (vp_updL wf30212 ((0 : Int32).toNatClampNeg) 0)))), (h4, .inr (8, [.ref h10, .int wp30213])), (h10, .inl (y 1, 3, .inr (.inl (fun _ => 0))))]) (va_A [(h0, .inr (5, [.ref h1, .ref h2, .ref h3, .ref h4, .int wp30210])), (h1, .inr (8, [.ref h6, .int 1])), (h2, .inr (8, [.ref h7, .int wp30211])), (h7, .inl (y 1, 200, .inr (.inl wf30212))), (h4, .inr (8, [.ref h10, .int wp30213])), (h10, .inl (y 1, 3, .inr (.inl (fun _ => 0))))] sz)) 0 0 (va_A [(h0, .inr (5, [.ref h1, .ref h2, .ref h3, .ref h4, .int wp30210])), (h1, .inr (8, [.ref h6, .int 1])), (h2, .inr (8, [.ref h7, .int wp30211])), (h7, .inl (y 1, 200, .inr (.inl wf30212))), (h4, .inr (8, [.ref h10, .int wp30213])), (h10, .inl (y 1, 3, .inr (.inl (fun _ => 0))))] sz) := by
  refine g_of (by decide) (Nat.le_of_ble_eq_true rfl) ?_
  intro p e s m below meth c ls A hx hb hr hml hown hg hlocks hin hsz hK hP hD hS hA hAe hl
  rw [← hAe]
  replace hown : s.vm.findClass RX5 = some m.cls := hown
  replace hl : lv_has ls 3 [(0, .ref h0)] := hl
  refine lv_aload_n hx hb dX5_findOut_0 rfl (lv_at hl 0 rfl) ?_
  refine lv_aload_n hx hb dX5_findOut_1 rfl (lv_at hl 0 rfl) ?_
  refine gm_get (D := D) (ci := 5) (v := .ref h1) (C := RX5) (T := TX5) (N := 5) hx hb hg inlX5 hown hK.1 hP 0 rfl rfl 0 (by decide) tX5_0 (hg _ gw_138) rfl dX5_findOut_2 ?_
  refine gm_get (D := D) (ci := 8) (v := .int 1) (C := RX8) (T := TX8) (N := 2) hx hb hg inlX8 hown hK.1 hP 1 rfl rfl 1 (by decide) tX8_1 (hg _ gw_1441) rfl dX5_findOut_5 ?_
  refine gm_put (D := D) (ci := 5) (v := .int 1) (ty := .int) (C := RX5) (T := TX5) (N := 5) hx hb hg inlX5 tyX5 tyX5_ok nmX5 hown hK.1 hP hD hS 0 rfl rfl 4 (by decide) tX5_4 (hg _ gw_1442) (by decide +kernel) rfl rfl (Nat.le_of_ble_eq_true rfl) dX5_findOut_8 ?_
  clear hP hD hS
  refine fun H locs (hP : va_P D vwCl [(h0, .inr (5, [.ref h1, .ref h2, .ref h3, .ref h4, .int 1])), (h1, .inr (8, [.ref h6, .int 1])), (h2, .inr (8, [.ref h7, .int wp30211])), (h7, .inl (y 1, 200, .inr (.inl wf30212))), (h4, .inr (8, [.ref h10, .int wp30213])), (h10, .inl (y 1, 3, .inr (.inl (fun _ => 0))))] H) (hD : va_D A [(h0, .inr (5, [.ref h1, .ref h2, .ref h3, .ref h4, .int 1])), (h1, .inr (8, [.ref h6, .int 1])), (h2, .inr (8, [.ref h7, .int wp30211])), (h7, .inl (y 1, 200, .inr (.inl wf30212))), (h4, .inr (8, [.ref h10, .int wp30213])), (h10, .inl (y 1, 3, .inr (.inl (fun _ => 0))))]) hS => ?_
  refine lv_iconst (v := 0) hx hb dX5_findOut_11 (by decide) ?_
  refine lv_istore_n (lv' := [(1, .int 0), (0, .ref h0)]) hx hb dX5_findOut_12 rfl hl (by decide) rfl ?_
  clear hl
  clear ls
  intro ls hl
  refine lv_iload_n hx hb dX5_findOut_13 rfl (lv_at hl 0 rfl) ?_
  refine lv_aload_n hx hb dX5_findOut_14 rfl (lv_at hl 1 rfl) ?_
  refine gm_get (D := D) (ci := 5) (v := .ref h1) (C := RX5) (T := TX5) (N := 5) hx hb hg inlX5 hown hK.1 hP 0 rfl rfl 0 (by decide) tX5_0 (hg _ gw_138) rfl dX5_findOut_15 ?_
  refine gm_get (D := D) (ci := 8) (v := .int 1) (C := RX8) (T := TX8) (N := 2) hx hb hg inlX8 hown hK.1 hP 1 rfl rfl 1 (by decide) tX8_1 (hg _ gw_1441) rfl dX5_findOut_18 ?_
  refine lv_icmp_ge (tgt := 39) hx hb dX5_findOut_21 (by decide) (fun c9 => absurd c9 (by decide +kernel)) (fun _ => ?_)
  refine lv_aload_n hx hb dX5_findOut_24 rfl (lv_at hl 1 rfl) ?_
  refine gm_get (D := D) (ci := 5) (v := .ref h2) (C := RX5) (T := TX5) (N := 5) hx hb hg inlX5 hown hK.1 hP 0 rfl rfl 1 (by decide) tX5_1 (hg _ gw_139) rfl dX5_findOut_25 ?_
  refine lv_iload_n hx hb dX5_findOut_28 rfl (lv_at hl 0 rfl) ?_
  refine lv_lconst (v := 0) hx hb dX5_findOut_29 (by decide) ?_
  refine g_av (wr := [(h0, .inr (5, [.ref h1, .ref h2, .ref h3, .ref h4, .int 1])), (h1, .inr (8, [.ref h6, .int 1])), (h4, .inr (8, [.ref h10, .int wp30213])), (h10, .inl (y 1, 3, .inr (.inl (fun _ => 0))))]) (va_runV (As := [.int 0, .long 0]) (rest := []) ⟨hx, hb, hml, hown, hg⟩ (k_X8_set_45 l D y aS H.size h2 0 h7 wp30211 wf30212) (cwV 2 hg ggV_RX5_29_X8_set rfl rfl rfl (by decide +kernel) ⟨Nat.le_of_ble_eq_true rfl, Nat.le_of_ble_eq_true rfl⟩) (g_preV (q := (RX8, TX8, 2)) hK hP hD [2, 3] rfl (by decide) (ci := 8) (q0 := 2) rfl rfl) rfl rfl hl.1 rfl (lv_room (Nat.le_of_ble_eq_true rfl)) dX5_findOut_30 ⟨Nat.le_of_ble_eq_true rfl, Nat.le_of_ble_eq_true rfl⟩) hP hD hS hA [2, 3] [0, 1, 4, 5] rfl rfl (by decide) (by decide) ?_
  clear hP hD hS H locs
  refine fun u H locs hq hP hD hS => ?_
  replace hP : va_P D vwCl [(h0, .inr (5, [.ref h1, .ref h2, .ref h3, .ref h4, .int 1])), (h1, .inr (8, [.ref h6, .int 1])), (h4, .inr (8, [.ref h10, .int wp30213])), (h10, .inl (y 1, 3, .inr (.inl (fun _ => 0)))), (h2, .inr (8, [.ref h7, .int wp30211])), (h7, .inl (y 1, 200, .inr (.inl (vp_updL wf30212 ((0 : Int32).toNatClampNeg) 0))))] H := hP
  replace hD : va_D A [(h0, .inr (5, [.ref h1, .ref h2, .ref h3, .ref h4, .int 1])), (h1, .inr (8, [.ref h6, .int 1])), (h4, .inr (8, [.ref h10, .int wp30213])), (h10, .inl (y 1, 3, .inr (.inl (fun _ => 0)))), (h2, .inr (8, [.ref h7, .int wp30211])), (h7, .inl (y 1, 200, .inr (.inl (vp_updL wf30212 ((0 : Int32).toNatClampNeg) 0))))] := hD
  refine lv_iinc (v := 1) (lv' := [(1, .int 1), (0, .ref h0)]) hx hb dX5_findOut_33 hl (k := 0) rfl (by decide +kernel) (by decide) rfl ?_
  clear hl
  clear ls
  intro ls hl
  refine lv_goto (tgt := 13) hx hb dX5_findOut_36 (by decide) ?_
  refine lv_iload_n hx hb dX5_findOut_13 rfl (lv_at hl 0 rfl) ?_
  refine lv_aload_n hx hb dX5_findOut_14 rfl (lv_at hl 1 rfl) ?_
  refine gm_get (D := D) (ci := 5) (v := .ref h1) (C := RX5) (T := TX5) (N := 5) hx hb hg inlX5 hown hK.1 hP 0 rfl rfl 0 (by decide) tX5_0 (hg _ gw_138) rfl dX5_findOut_15 ?_
  refine gm_get (D := D) (ci := 8) (v := .int 1) (C := RX8) (T := TX8) (N := 2) hx hb hg inlX8 hown hK.1 hP 1 rfl rfl 1 (by decide) tX8_1 (hg _ gw_1441) rfl dX5_findOut_18 ?_
  refine lv_icmp_ge (tgt := 39) hx hb dX5_findOut_21 (by decide) (fun _ => ?_) (fun c9 => absurd c9 (by decide +kernel))
  refine lv_iconst (v := 0) hx hb dX5_findOut_39 (by decide) ?_
  refine lv_istore_n (lv' := [(1, .int 0), (0, .ref h0)]) hx hb dX5_findOut_40 rfl hl (by decide) rfl ?_
  clear hl
  clear ls
  intro ls hl
  refine lv_iload_n hx hb dX5_findOut_41 rfl (lv_at hl 0 rfl) ?_
  refine lv_aload_n hx hb dX5_findOut_42 rfl (lv_at hl 1 rfl) ?_
  refine gm_get (D := D) (ci := 5) (v := .ref h1) (C := RX5) (T := TX5) (N := 5) hx hb hg inlX5 hown hK.1 hP 0 rfl rfl 0 (by decide) tX5_0 (hg _ gw_138) rfl dX5_findOut_43 ?_
  refine gm_get (D := D) (ci := 8) (v := .int 1) (C := RX8) (T := TX8) (N := 2) hx hb hg inlX8 hown hK.1 hP 1 rfl rfl 1 (by decide) tX8_1 (hg _ gw_1441) rfl dX5_findOut_46 ?_
  refine lv_icmp_ge (tgt := 77) hx hb dX5_findOut_49 (by decide) (fun c9 => absurd c9 (by decide +kernel)) (fun _ => ?_)
  refine lv_iconst (v := 0) hx hb dX5_findOut_52 (by decide) ?_
  refine lv_istore_n (lv' := [(2, .int 0), (1, .int 0), (0, .ref h0)]) hx hb dX5_findOut_53 rfl hl (by decide) rfl ?_
  clear hl
  clear ls
  intro ls hl
  refine lv_iload_n hx hb dX5_findOut_54 rfl (lv_at hl 0 rfl) ?_
  refine lv_iconst (v := 3) hx hb dX5_findOut_55 (by decide) ?_
  refine lv_icmp_ge (tgt := 71) hx hb dX5_findOut_56 (by decide) (fun c9 => absurd c9 (by decide +kernel)) (fun _ => ?_)
  refine lv_aload_n hx hb dX5_findOut_59 rfl (lv_at hl 2 rfl) ?_
  refine lv_iload_n hx hb dX5_findOut_60 rfl (lv_at hl 0 rfl) ?_
  refine lv_iload_n hx hb dX5_findOut_61 rfl (lv_at hl 1 rfl) ?_
  refine g_av (wr := [(h1, .inr (8, [.ref h6, .int 1])), (h2, .inr (8, [.ref h7, .int wp30211])), (h7, .inl (y 1, 200, .inr (.inl (vp_updL wf30212 ((0 : Int32).toNatClampNeg) 0))))]) (va_runV (As := [.int 0, .int 0]) (rest := []) ⟨hx, hb, hml, hown, hg⟩ (k_X5_find_0 l D y aS H.size h0 h1 h2 h3 h4 1 h10 wp30213) (cwV 2 hg ggV_RX5_54_X5_find rfl rfl rfl (by decide +kernel) ⟨Nat.le_of_ble_eq_true rfl, Nat.le_of_ble_eq_true rfl⟩) (g_preV (q := (RX5, TX5, 5)) hK hP hD [0, 2, 3] rfl (by decide) (ci := 5) (q0 := 0) rfl rfl) rfl rfl hl.1 rfl (lv_room (Nat.le_of_ble_eq_true rfl)) dX5_findOut_62 ⟨Nat.le_of_ble_eq_true rfl, Nat.le_of_ble_eq_true rfl⟩) hP hD hS hA [0, 2, 3] [1, 4, 5] rfl rfl (by decide) (by decide) ?_
  clear hP hD hS H locs
  refine fun u H locs hq hP hD hS => ?_
  replace hP : va_P D vwCl [(h1, .inr (8, [.ref h6, .int 1])), (h2, .inr (8, [.ref h7, .int wp30211])), (h7, .inl (y 1, 200, .inr (.inl (vp_updL wf30212 ((0 : Int32).toNatClampNeg) 0)))), (h0, .inr (5, [.ref h1, .ref h2, .ref h3, .ref h4, .int 1])), (h4, .inr (8, [.ref h10, .int wp30213])), (h10, .inl (y 1, 3, .inr (.inl (fun _ => 0))))] H := hP
  replace hD : va_D A [(h1, .inr (8, [.ref h6, .int 1])), (h2, .inr (8, [.ref h7, .int wp30211])), (h7, .inl (y 1, 200, .inr (.inl (vp_updL wf30212 ((0 : Int32).toNatClampNeg) 0)))), (h0, .inr (5, [.ref h1, .ref h2, .ref h3, .ref h4, .int 1])), (h4, .inr (8, [.ref h10, .int wp30213])), (h10, .inl (y 1, 3, .inr (.inl (fun _ => 0))))] := hD
  refine lv_iinc (v := 1) (lv' := [(2, .int 1), (1, .int 0), (0, .ref h0)]) hx hb dX5_findOut_65 hl (k := 0) rfl (by decide +kernel) (by decide) rfl ?_
  clear hl
  clear ls
  intro ls hl
  refine lv_goto (tgt := 54) hx hb dX5_findOut_68 (by decide) ?_
  refine lv_iload_n hx hb dX5_findOut_54 rfl (lv_at hl 0 rfl) ?_
  refine lv_iconst (v := 3) hx hb dX5_findOut_55 (by decide) ?_
  refine lv_icmp_ge (tgt := 71) hx hb dX5_findOut_56 (by decide) (fun c9 => absurd c9 (by decide +kernel)) (fun _ => ?_)
  refine lv_aload_n hx hb dX5_findOut_59 rfl (lv_at hl 2 rfl) ?_
  refine lv_iload_n hx hb dX5_findOut_60 rfl (lv_at hl 0 rfl) ?_
  refine lv_iload_n hx hb dX5_findOut_61 rfl (lv_at hl 1 rfl) ?_
  refine g_av (wr := [(h1, .inr (8, [.ref h6, .int 1])), (h2, .inr (8, [.ref h7, .int wp30211])), (h7, .inl (y 1, 200, .inr (.inl (vp_updL wf30212 ((0 : Int32).toNatClampNeg) 0))))]) (va_runV (As := [.int 1, .int 0]) (rest := []) ⟨hx, hb, hml, hown, hg⟩ (k_X5_find_1 l D y aS H.size h0 h1 h2 h3 h4 1 h10 wp30213) (cwV 2 hg ggV_RX5_54_X5_find rfl rfl rfl (by decide +kernel) ⟨Nat.le_of_ble_eq_true rfl, Nat.le_of_ble_eq_true rfl⟩) (g_preV (q := (RX5, TX5, 5)) hK hP hD [3, 4, 5] rfl (by decide) (ci := 5) (q0 := 3) rfl rfl) rfl rfl hl.1 rfl (lv_room (Nat.le_of_ble_eq_true rfl)) dX5_findOut_62 ⟨Nat.le_of_ble_eq_true rfl, Nat.le_of_ble_eq_true rfl⟩) hP hD hS hA [3, 4, 5] [0, 1, 2] rfl rfl (by decide) (by decide) ?_
  clear hP hD hS H locs
  refine fun u H locs hq hP hD hS => ?_
  replace hP : va_P D vwCl [(h1, .inr (8, [.ref h6, .int 1])), (h2, .inr (8, [.ref h7, .int wp30211])), (h7, .inl (y 1, 200, .inr (.inl (vp_updL wf30212 ((0 : Int32).toNatClampNeg) 0)))), (h0, .inr (5, [.ref h1, .ref h2, .ref h3, .ref h4, .int 1])), (h4, .inr (8, [.ref h10, .int wp30213])), (h10, .inl (y 1, 3, .inr (.inl (fun _ => 0))))] H := hP
  replace hD : va_D A [(h1, .inr (8, [.ref h6, .int 1])), (h2, .inr (8, [.ref h7, .int wp30211])), (h7, .inl (y 1, 200, .inr (.inl (vp_updL wf30212 ((0 : Int32).toNatClampNeg) 0)))), (h0, .inr (5, [.ref h1, .ref h2, .ref h3, .ref h4, .int 1])), (h4, .inr (8, [.ref h10, .int wp30213])), (h10, .inl (y 1, 3, .inr (.inl (fun _ => 0))))] := hD
  refine lv_iinc (v := 2) (lv' := [(2, .int 2), (1, .int 0), (0, .ref h0)]) hx hb dX5_findOut_65 hl (k := 0) rfl (by decide +kernel) (by decide) rfl ?_
  clear hl
  clear ls
  intro ls hl
  refine lv_goto (tgt := 54) hx hb dX5_findOut_68 (by decide) ?_
  refine lv_iload_n hx hb dX5_findOut_54 rfl (lv_at hl 0 rfl) ?_
  refine lv_iconst (v := 3) hx hb dX5_findOut_55 (by decide) ?_
  refine lv_icmp_ge (tgt := 71) hx hb dX5_findOut_56 (by decide) (fun c9 => absurd c9 (by decide +kernel)) (fun _ => ?_)
  refine lv_aload_n hx hb dX5_findOut_59 rfl (lv_at hl 2 rfl) ?_
  refine lv_iload_n hx hb dX5_findOut_60 rfl (lv_at hl 0 rfl) ?_
  refine lv_iload_n hx hb dX5_findOut_61 rfl (lv_at hl 1 rfl) ?_
  refine g_av (wr := [(h1, .inr (8, [.ref h6, .int 1])), (h2, .inr (8, [.ref h7, .int wp30211])), (h7, .inl (y 1, 200, .inr (.inl (vp_updL wf30212 ((0 : Int32).toNatClampNeg) 0))))]) (va_runV (As := [.int 2, .int 0]) (rest := []) ⟨hx, hb, hml, hown, hg⟩ (k_X5_find_2 l D y aS H.size h0 h1 h2 h3 h4 1 h10 wp30213) (cwV 2 hg ggV_RX5_54_X5_find rfl rfl rfl (by decide +kernel) ⟨Nat.le_of_ble_eq_true rfl, Nat.le_of_ble_eq_true rfl⟩) (g_preV (q := (RX5, TX5, 5)) hK hP hD [3, 4, 5] rfl (by decide) (ci := 5) (q0 := 3) rfl rfl) rfl rfl hl.1 rfl (lv_room (Nat.le_of_ble_eq_true rfl)) dX5_findOut_62 ⟨Nat.le_of_ble_eq_true rfl, Nat.le_of_ble_eq_true rfl⟩) hP hD hS hA [3, 4, 5] [0, 1, 2] rfl rfl (by decide) (by decide) ?_
  clear hP hD hS H locs
  refine fun u H locs hq hP hD hS => ?_
  replace hP : va_P D vwCl [(h1, .inr (8, [.ref h6, .int 1])), (h2, .inr (8, [.ref h7, .int wp30211])), (h7, .inl (y 1, 200, .inr (.inl (vp_updL wf30212 ((0 : Int32).toNatClampNeg) 0)))), (h0, .inr (5, [.ref h1, .ref h2, .ref h3, .ref h4, .int 1])), (h4, .inr (8, [.ref h10, .int wp30213])), (h10, .inl (y 1, 3, .inr (.inl (fun _ => 0))))] H := hP
  replace hD : va_D A [(h1, .inr (8, [.ref h6, .int 1])), (h2, .inr (8, [.ref h7, .int wp30211])), (h7, .inl (y 1, 200, .inr (.inl (vp_updL wf30212 ((0 : Int32).toNatClampNeg) 0)))), (h0, .inr (5, [.ref h1, .ref h2, .ref h3, .ref h4, .int 1])), (h4, .inr (8, [.ref h10, .int wp30213])), (h10, .inl (y 1, 3, .inr (.inl (fun _ => 0))))] := hD
  refine lv_iinc (v := 3) (lv' := [(2, .int 3), (1, .int 0), (0, .ref h0)]) hx hb dX5_findOut_65 hl (k := 0) rfl (by decide +kernel) (by decide) rfl ?_
  clear hl
  clear ls
  intro ls hl
  refine lv_goto (tgt := 54) hx hb dX5_findOut_68 (by decide) ?_
  refine lv_iload_n hx hb dX5_findOut_54 rfl (lv_at hl 0 rfl) ?_
  refine lv_iconst (v := 3) hx hb dX5_findOut_55 (by decide) ?_
  refine lv_icmp_ge (tgt := 71) hx hb dX5_findOut_56 (by decide) (fun _ => ?_) (fun c9 => absurd c9 (by decide +kernel))
  refine lv_iinc (v := 1) (lv' := [(1, .int 1), (2, .int 3), (0, .ref h0)]) hx hb dX5_findOut_71 hl (k := 1) rfl (by decide +kernel) (by decide) rfl ?_
  clear hl
  clear ls
  intro ls hl
  refine lv_goto (tgt := 41) hx hb dX5_findOut_74 (by decide) ?_
  refine lv_iload_n hx hb dX5_findOut_41 rfl (lv_at hl 0 rfl) ?_
  refine lv_aload_n hx hb dX5_findOut_42 rfl (lv_at hl 2 rfl) ?_
  refine gm_get (D := D) (ci := 5) (v := .ref h1) (C := RX5) (T := TX5) (N := 5) hx hb hg inlX5 hown hK.1 hP 3 rfl rfl 0 (by decide) tX5_0 (hg _ gw_138) rfl dX5_findOut_43 ?_
  refine gm_get (D := D) (ci := 8) (v := .int 1) (C := RX8) (T := TX8) (N := 2) hx hb hg inlX8 hown hK.1 hP 0 rfl rfl 1 (by decide) tX8_1 (hg _ gw_1441) rfl dX5_findOut_46 ?_
  refine lv_icmp_ge (tgt := 77) hx hb dX5_findOut_49 (by decide) (fun _ => ?_) (fun c9 => absurd c9 (by decide +kernel))
  exact g_vret hx hb hr hlocks () (hP.sub [3, 0, 1, 2, 4, 5] rfl) (hD.sub [3, 0, 1, 2, 4, 5] (by decide +kernel) rfl) hS trivial (Nat.le_of_ble_eq_true rfl) (Nat.le_of_ble_eq_true rfl) dX5_findOut_77
set_option maxRecDepth 100000 in
set_option maxHeartbeats 4000000 in
theorem k_X5_append_0 (l : Launch) (D : va_G) (y : Nat → ClassId) (aS : Nat → Nat) (sz : Nat) (h0 : Nat) (p1 : Int32) (h2 : Nat) (h3 : Nat) (h4 : Nat) (h5 : Nat) (h6 : Nat) (wf30219 : Nat → Int64) (h8 : Nat) (wp30220 : Int32) (wf30221 : Nat → Int64) (h11 : Nat) (wp30222 : Int32) : Met l yX5_append (Cond.code yX5_append cX5_append 6 (some .int) :: wsL_law) ({ frames := 3, cells := 0, slots := 0, locals := 68 } : Room) (va_Pc [.ref h0, .int p1, .int 1] (gI D y aS [(h0, .inr (5, [.ref h2, .ref h3, .ref h4, .ref h5, .int 0])), (h2, .inr (8, [.ref h6, .int 0])), (h6, .inl (y 1, 200, .inr (.inl wf30219))), (h3, .inr (8, [.ref h8, .int wp30220])), (h8, .inl (y 1, 200, .inr (.inl wf30221))), (h5, .inr (8, [.ref h11, .int wp30222])), (h11, .inl (y 1, 3, .inr (.inl (fun _ => 0))))] sz)) (va_Qi (fun (r : Int32) (u : Unit) => 1 = r) (fun u => gO D (va_A [(h0, .inr (5, [.ref h2, .ref h3, .ref h4, .ref h5, .int 0])), (h2, .inr (8, [.ref h6, .int 0])), (h6, .inl (y 1, 200, .inr (.inl wf30219))), (h3, .inr (8, [.ref h8, .int wp30220])), (h8, .inl (y 1, 200, .inr (.inl wf30221))), (h5, .inr (8, [.ref h11, .int wp30222])), (h11, .inl (y 1, 3, .inr (.inl (fun _ => 0))))] sz) [(h0, .inr (5, [.ref h2, .ref h3, .ref h4, .ref h5, .int 1])), (h2, .inr (8, [.ref h6, .int 1])), (h6, .inl (y 1, 200, .inr (.inl (vp_updL (vp_updL wf30219 ((0 : Int32).toNatClampNeg) 0) ((0 : Int32).toNatClampNeg) ((p1 - p1 / 10 * 10).toInt64))))), (h3, .inr (8, [.ref h8, .int wp30220])), (h8, .inl (y 1, 200, .inr (.inl (vp_updL wf30221 ((0 : Int32).toNatClampNeg) 0)))), (h5, .inr (8, [.ref h11, .int wp30222])), (h11, .inl (y 1, 3, .inr (.inl (fun _ => 0))))]) (va_A [(h0, .inr (5, [.ref h2, .ref h3, .ref h4, .ref h5, .int 0])), (h2, .inr (8, [.ref h6, .int 0])), (h6, .inl (y 1, 200, .inr (.inl wf30219))), (h3, .inr (8, [.ref h8, .int wp30220])), (h8, .inl (y 1, 200, .inr (.inl wf30221))), (h5, .inr (8, [.ref h11, .int wp30222])), (h11, .inl (y 1, 3, .inr (.inl (fun _ => 0))))] sz)) 0 0 (va_A [(h0, .inr (5, [.ref h2, .ref h3, .ref h4, .ref h5, .int 0])), (h2, .inr (8, [.ref h6, .int 0])), (h6, .inl (y 1, 200, .inr (.inl wf30219))), (h3, .inr (8, [.ref h8, .int wp30220])), (h8, .inl (y 1, 200, .inr (.inl wf30221))), (h5, .inr (8, [.ref h11, .int wp30222])), (h11, .inl (y 1, 3, .inr (.inl (fun _ => 0))))] sz) := by
  refine g_of (by decide) (Nat.le_of_ble_eq_true rfl) ?_
  intro p e s m below meth c ls A hx hb hr hml hown hg hlocks hin hsz hK hP hD hS hA hAe hl
  rw [← hAe]
  replace hown : s.vm.findClass RX5 = some m.cls := hown
  replace hl : lv_has ls 6 [(0, .ref h0), (1, .int p1), (2, .int 1)] := hl
  refine lv_aload_n hx hb dX5_append_0 rfl (lv_at hl 0 rfl) ?_
  refine gm_get (D := D) (ci := 5) (v := .ref h2) (C := RX5) (T := TX5) (N := 5) hx hb hg inlX5 hown hK.1 hP 0 rfl rfl 0 (by decide) tX5_0 (hg _ gw_138) rfl dX5_append_1 ?_
  refine gm_get (D := D) (ci := 8) (v := .int 0) (C := RX8) (T := TX8) (N := 2) hx hb hg inlX8 hown hK.1 hP 1 rfl rfl 1 (by decide) tX8_1 (hg _ gw_1441) rfl dX5_append_4 ?_
  refine lv_istore_n (lv' := [(3, .int 0), (0, .ref h0), (1, .int p1), (2, .int 1)]) hx hb dX5_append_7 rfl hl (by decide) rfl ?_
  clear hl
  clear ls
  intro ls hl
  refine lv_aload_n hx hb dX5_append_8 rfl (lv_at hl 1 rfl) ?_
  refine gm_get (D := D) (ci := 5) (v := .ref h2) (C := RX5) (T := TX5) (N := 5) hx hb hg inlX5 hown hK.1 hP 0 rfl rfl 0 (by decide) tX5_0 (hg _ gw_138) rfl dX5_append_9 ?_
  refine lv_iload_n hx hb dX5_append_12 rfl (lv_at hl 3 rfl) ?_
  refine lv_lconst (v := 0) hx hb dX5_append_13 (by decide) ?_
  refine g_av (wr := [(h0, .inr (5, [.ref h2, .ref h3, .ref h4, .ref h5, .int 0])), (h3, .inr (8, [.ref h8, .int wp30220])), (h8, .inl (y 1, 200, .inr (.inl wf30221))), (h5, .inr (8, [.ref h11, .int wp30222])), (h11, .inl (y 1, 3, .inr (.inl (fun _ => 0))))]) (va_runV (As := [.int 1, .long 0]) (rest := []) ⟨hx, hb, hml, hown, hg⟩ (k_X8_addMany_4 l D y aS s.heap.size h2 h6 wf30219) (cwV 2 hg ggV_RX5_44_X8_addMany rfl rfl rfl (by decide +kernel) ⟨Nat.le_of_ble_eq_true rfl, Nat.le_of_ble_eq_true rfl⟩) (g_preV (q := (RX8, TX8, 2)) hK hP hD [1, 2] rfl (by decide) (ci := 8) (q0 := 1) rfl rfl) rfl rfl hl.1 rfl (lv_room (Nat.le_of_ble_eq_true rfl)) dX5_append_14 ⟨Nat.le_of_ble_eq_true rfl, Nat.le_of_ble_eq_true rfl⟩) hP hD hS hA [1, 2] [0, 3, 4, 5, 6] rfl rfl (by decide) (by decide) ?_
  clear hP hD hS
  refine fun u H locs hq hP hD hS => ?_
  replace hP : va_P D vwCl [(h0, .inr (5, [.ref h2, .ref h3, .ref h4, .ref h5, .int 0])), (h3, .inr (8, [.ref h8, .int wp30220])), (h8, .inl (y 1, 200, .inr (.inl wf30221))), (h5, .inr (8, [.ref h11, .int wp30222])), (h11, .inl (y 1, 3, .inr (.inl (fun _ => 0)))), (h2, .inr (8, [.ref h6, .int 1])), (h6, .inl (y 1, 200, .inr (.inl (vp_updL wf30219 ((0 : Int32).toNatClampNeg) 0))))] H := hP
  replace hD : va_D A [(h0, .inr (5, [.ref h2, .ref h3, .ref h4, .ref h5, .int 0])), (h3, .inr (8, [.ref h8, .int wp30220])), (h8, .inl (y 1, 200, .inr (.inl wf30221))), (h5, .inr (8, [.ref h11, .int wp30222])), (h11, .inl (y 1, 3, .inr (.inl (fun _ => 0)))), (h2, .inr (8, [.ref h6, .int 1])), (h6, .inl (y 1, 200, .inr (.inl (vp_updL wf30219 ((0 : Int32).toNatClampNeg) 0))))] := hD
  refine lv_iload_n hx hb dX5_append_17 rfl (lv_at hl 2 rfl) ?_
  refine lv_istore (lv' := [(4, .int p1), (3, .int 0), (0, .ref h0), (1, .int p1), (2, .int 1)]) hx hb dX5_append_18 hl (by decide) rfl ?_
  clear hl
  clear ls
  intro ls hl
  refine lv_iload_n hx hb dX5_append_20 rfl (lv_at hl 1 rfl) ?_
  refine lv_iload_n hx hb dX5_append_21 rfl (lv_at hl 4 rfl) ?_
  refine lv_iadd hx hb dX5_append_22 ?_
  refine g_fi (v := 1) (by decide +kernel) ?_
  refine lv_iconst (v := 1) hx hb dX5_append_23 (by decide) ?_
  refine lv_isub hx hb dX5_append_24 ?_
  refine g_fi (v := 0) (by decide +kernel) ?_
  refine lv_istore (lv' := [(5, .int 0), (4, .int p1), (3, .int 0), (0, .ref h0), (1, .int p1), (2, .int 1)]) hx hb dX5_append_25 hl (by decide) rfl ?_
  clear hl
  clear ls
  intro ls hl
  refine lv_iload hx hb dX5_append_27 (lv_at hl 0 rfl) ?_
  refine lv_iload_n hx hb dX5_append_29 rfl (lv_at hl 2 rfl) ?_
  refine lv_icmp_lt (tgt := 61) hx hb dX5_append_30 (by decide) (fun c9 => absurd c9 (by decide +kernel)) (fun _ => ?_)
  refine lv_aload_n hx hb dX5_append_33 rfl (lv_at hl 3 rfl) ?_
  refine gm_get (D := D) (ci := 5) (v := .ref h2) (C := RX5) (T := TX5) (N := 5) hx hb hg inlX5 hown hK.1 hP 0 rfl rfl 0 (by decide) tX5_0 (hg _ gw_138) rfl dX5_append_34 ?_
  refine lv_iload hx hb dX5_append_37 (lv_at hl 0 rfl) ?_
  refine lv_iload hx hb dX5_append_39 (lv_at hl 1 rfl) ?_
  refine lv_bipush (v := 10) hx hb dX5_append_41 (by decide +kernel) ?_
  refine lv_irem hx hb dX5_append_43 (by decide +kernel) ?_
  refine lv_i2l (v := ((p1 - p1 / 10 * 10).toInt64)) hx hb dX5_append_44 rfl ?_
  refine g_av (wr := [(h0, .inr (5, [.ref h2, .ref h3, .ref h4, .ref h5, .int 0])), (h3, .inr (8, [.ref h8, .int wp30220])), (h8, .inl (y 1, 200, .inr (.inl wf30221))), (h5, .inr (8, [.ref h11, .int wp30222])), (h11, .inl (y 1, 3, .inr (.inl (fun _ => 0))))]) (va_runV (As := [.int 0, .long ((p1 - p1 / 10 * 10).toInt64)]) (rest := []) ⟨hx, hb, hml, hown, hg⟩ (k_X8_set_45 l D y aS H.size h2 ((p1 - p1 / 10 * 10).toInt64) h6 1 (vp_updL wf30219 ((0 : Int32).toNatClampNeg) 0)) (cwV 2 hg ggV_RX5_29_X8_set rfl rfl rfl (by decide +kernel) ⟨Nat.le_of_ble_eq_true rfl, Nat.le_of_ble_eq_true rfl⟩) (g_preV (q := (RX8, TX8, 2)) hK hP hD [5, 6] rfl (by decide) (ci := 8) (q0 := 5) rfl rfl) rfl rfl hl.1 rfl (lv_room (Nat.le_of_ble_eq_true rfl)) dX5_append_45 ⟨Nat.le_of_ble_eq_true rfl, Nat.le_of_ble_eq_true rfl⟩) hP hD hS hA [5, 6] [0, 1, 2, 3, 4] rfl rfl (by decide) (by decide) ?_
  clear hP hD hS H locs
  refine fun u H locs hq hP hD hS => ?_
  replace hP : va_P D vwCl [(h0, .inr (5, [.ref h2, .ref h3, .ref h4, .ref h5, .int 0])), (h3, .inr (8, [.ref h8, .int wp30220])), (h8, .inl (y 1, 200, .inr (.inl wf30221))), (h5, .inr (8, [.ref h11, .int wp30222])), (h11, .inl (y 1, 3, .inr (.inl (fun _ => 0)))), (h2, .inr (8, [.ref h6, .int 1])), (h6, .inl (y 1, 200, .inr (.inl (vp_updL (vp_updL wf30219 ((0 : Int32).toNatClampNeg) 0) ((0 : Int32).toNatClampNeg) ((p1 - p1 / 10 * 10).toInt64)))))] H := hP
  replace hD : va_D A [(h0, .inr (5, [.ref h2, .ref h3, .ref h4, .ref h5, .int 0])), (h3, .inr (8, [.ref h8, .int wp30220])), (h8, .inl (y 1, 200, .inr (.inl wf30221))), (h5, .inr (8, [.ref h11, .int wp30222])), (h11, .inl (y 1, 3, .inr (.inl (fun _ => 0)))), (h2, .inr (8, [.ref h6, .int 1])), (h6, .inl (y 1, 200, .inr (.inl (vp_updL (vp_updL wf30219 ((0 : Int32).toNatClampNeg) 0) ((0 : Int32).toNatClampNeg) ((p1 - p1 / 10 * 10).toInt64)))))] := hD
  refine lv_iload hx hb dX5_append_48 (lv_at hl 1 rfl) ?_
  refine lv_bipush (v := 10) hx hb dX5_append_50 (by decide +kernel) ?_
  refine lv_idiv hx hb dX5_append_52 (by decide +kernel) ?_
  refine lv_istore (lv' := [(4, .int (p1 / 10)), (5, .int 0), (3, .int 0), (0, .ref h0), (1, .int p1), (2, .int 1)]) hx hb dX5_append_53 hl (by decide) rfl ?_
  clear hl
  clear ls
  intro ls hl
  refine lv_iinc (v := (-1)) (lv' := [(5, .int (-1)), (4, .int (p1 / 10)), (3, .int 0), (0, .ref h0), (1, .int p1), (2, .int 1)]) hx hb dX5_append_55 hl (k := 1) rfl (by decide +kernel) (by decide) rfl ?_
  clear hl
  clear ls
  intro ls hl
  refine lv_goto (tgt := 27) hx hb dX5_append_58 (by decide) ?_
  refine lv_iload hx hb dX5_append_27 (lv_at hl 0 rfl) ?_
  refine lv_iload_n hx hb dX5_append_29 rfl (lv_at hl 2 rfl) ?_
  refine lv_icmp_lt (tgt := 61) hx hb dX5_append_30 (by decide) (fun _ => ?_) (fun c9 => absurd c9 (by decide +kernel))
  refine lv_aload_n hx hb dX5_append_61 rfl (lv_at hl 3 rfl) ?_
  refine g_av (wr := [(h6, .inl (y 1, 200, .inr (.inl (vp_updL (vp_updL wf30219 ((0 : Int32).toNatClampNeg) 0) ((0 : Int32).toNatClampNeg) ((p1 - p1 / 10 * 10).toInt64)))))]) (va_runV (As := []) (rest := []) ⟨hx, hb, hml, hown, hg⟩ (k_X5_findOut_1 l D y aS H.size h0 h2 h3 h4 h5 0 h6 h8 wp30220 wf30221 h11 wp30222) (cwV 0 hg ggV_RX5_33_X5_findOut rfl rfl rfl (by decide +kernel) ⟨Nat.le_of_ble_eq_true rfl, Nat.le_of_ble_eq_true rfl⟩) (g_preV (q := (RX5, TX5, 5)) hK hP hD [0, 5, 1, 2, 3, 4] rfl (by decide) (ci := 5) (q0 := 0) rfl rfl) rfl rfl hl.1 rfl (lv_room (Nat.le_of_ble_eq_true rfl)) dX5_append_62 ⟨Nat.le_of_ble_eq_true rfl, Nat.le_of_ble_eq_true rfl⟩) hP hD hS hA [0, 5, 1, 2, 3, 4] [6] rfl rfl (by decide) (by decide) ?_
  clear hP hD hS H locs
  refine fun u H locs hq hP hD hS => ?_
  replace hP : va_P D vwCl [(h6, .inl (y 1, 200, .inr (.inl (vp_updL (vp_updL wf30219 ((0 : Int32).toNatClampNeg) 0) ((0 : Int32).toNatClampNeg) ((p1 - p1 / 10 * 10).toInt64))))), (h0, .inr (5, [.ref h2, .ref h3, .ref h4, .ref h5, .int 1])), (h2, .inr (8, [.ref h6, .int 1])), (h3, .inr (8, [.ref h8, .int wp30220])), (h8, .inl (y 1, 200, .inr (.inl (vp_updL wf30221 ((0 : Int32).toNatClampNeg) 0)))), (h5, .inr (8, [.ref h11, .int wp30222])), (h11, .inl (y 1, 3, .inr (.inl (fun _ => 0))))] H := hP
  replace hD : va_D A [(h6, .inl (y 1, 200, .inr (.inl (vp_updL (vp_updL wf30219 ((0 : Int32).toNatClampNeg) 0) ((0 : Int32).toNatClampNeg) ((p1 - p1 / 10 * 10).toInt64))))), (h0, .inr (5, [.ref h2, .ref h3, .ref h4, .ref h5, .int 1])), (h2, .inr (8, [.ref h6, .int 1])), (h3, .inr (8, [.ref h8, .int wp30220])), (h8, .inl (y 1, 200, .inr (.inl (vp_updL wf30221 ((0 : Int32).toNatClampNeg) 0)))), (h5, .inr (8, [.ref h11, .int wp30222])), (h11, .inl (y 1, 3, .inr (.inl (fun _ => 0))))] := hD
  refine lv_aload_n hx hb dX5_append_65 rfl (lv_at hl 3 rfl) ?_
  refine gm_get (D := D) (ci := 5) (v := .int 1) (C := RX5) (T := TX5) (N := 5) hx hb hg inlX5 hown hK.1 hP 1 rfl rfl 4 (by decide) tX5_4 (hg _ gw_1442) rfl dX5_append_66 ?_
  exact g_iret hx hb hr hlocks () (hP.sub [1, 2, 0, 3, 4, 5, 6] rfl) (hD.sub [1, 2, 0, 3, 4, 5, 6] (by decide +kernel) rfl) hS rfl rfl (Nat.le_of_ble_eq_true rfl) (Nat.le_of_ble_eq_true rfl) dX5_append_69
theorem ggV_RX11_354_X5_append : GoodIn wsL_law (wsV RX11 354 RX5 yX5_append (Cond.code yX5_append cX5_append 6 (some .int) :: wsL_law)) := g_gi (fun _ h => h) gW_good (List.forall_mem_cons.mpr ⟨⟨gw_1467, rfl⟩, List.forall_mem_cons.mpr ⟨⟨gw_1468, rfl⟩, List.forall_mem_cons.mpr ⟨⟨gw_1469, rfl⟩, List.forall_mem_cons.mpr ⟨⟨gw_39, rfl⟩, fun _ h => nomatch h⟩⟩⟩⟩) ⟨gw_1470, rfl⟩
set_option maxRecDepth 100000 in
set_option maxHeartbeats 4000000 in
theorem k_X8_add_29 (l : Launch) (D : va_G) (y : Nat → ClassId) (aS : Nat → Nat) (sz : Nat) (h0 : Nat) (h1 : Nat) (wf30232 : Nat → Int64) : Met l yX8_add (Cond.code yX8_add cX8_add 3 none :: wsL_law) ({ frames := 0, cells := 0, slots := 0, locals := 0 } : Room) (va_Pc [.ref h0, .long 0] (gI D y aS [(h0, .inr (8, [.ref h1, .int 1])), (h1, .inl (y 1, 200, .inr (.inl wf30232)))] sz)) (va_Qv (fun (u : Unit) => True) (fun u => gO D (va_A [(h0, .inr (8, [.ref h1, .int 1])), (h1, .inl (y 1, 200, .inr (.inl wf30232)))] sz) [(h0, .inr (8, [.ref h1, .int 2])), (h1, .inl (y 1, 200, .inr (.inl (vp_updL wf30232 ((1 : Int32).toNatClampNeg) 0))))]) (va_A [(h0, .inr (8, [.ref h1, .int 1])), (h1, .inl (y 1, 200, .inr (.inl wf30232)))] sz)) 0 0 (va_A [(h0, .inr (8, [.ref h1, .int 1])), (h1, .inl (y 1, 200, .inr (.inl wf30232)))] sz) := by
  refine g_of (by decide) (Nat.le_of_ble_eq_true rfl) ?_
  intro p e s m below meth c ls A hx hb hr hml hown hg hlocks hin hsz hK hP hD hS hA hAe hl
  rw [← hAe]
  replace hown : s.vm.findClass RX8 = some m.cls := hown
  replace hl : lv_has ls 3 [(0, .ref h0), (1, .long 0)] := hl
  refine lv_aload_n hx hb dX8_add_0 rfl (lv_at hl 0 rfl) ?_
  refine gm_get (D := D) (ci := 8) (v := .int 1) (C := RX8) (T := TX8) (N := 2) hx hb hg inlX8 hown hK.1 hP 0 rfl rfl 1 (by decide) tX8_1 (hg _ gw_155) rfl dX8_add_1 ?_
  refine lv_if_lt (tgt := 39) hx hb dX8_add_4 (by decide) (fun c9 => absurd c9 (by decide +kernel)) (fun _ => ?_)
  refine lv_aload_n hx hb dX8_add_7 rfl (lv_at hl 0 rfl) ?_
  refine gm_get (D := D) (ci := 8) (v := .int 1) (C := RX8) (T := TX8) (N := 2) hx hb hg inlX8 hown hK.1 hP 0 rfl rfl 1 (by decide) tX8_1 (hg _ gw_155) rfl dX8_add_8 ?_
  refine lv_aload_n hx hb dX8_add_11 rfl (lv_at hl 0 rfl) ?_
  refine gm_get (D := D) (ci := 8) (v := .ref h1) (C := RX8) (T := TX8) (N := 2) hx hb hg inlX8 hown hK.1 hP 0 rfl rfl 0 (by decide) tX8_0 (hg _ gw_98) rfl dX8_add_12 ?_
  refine va_alen hx hb hK.1 hP 1 1 rfl rfl (v := 200) rfl dX8_add_15 ?_
  refine lv_icmp_ge (tgt := 39) hx hb dX8_add_16 (by decide) (fun c9 => absurd c9 (by decide +kernel)) (fun _ => ?_)
  refine lv_aload_n hx hb dX8_add_19 rfl (lv_at hl 0 rfl) ?_
  refine gm_get (D := D) (ci := 8) (v := .ref h1) (C := RX8) (T := TX8) (N := 2) hx hb hg inlX8 hown hK.1 hP 0 rfl rfl 0 (by decide) tX8_0 (hg _ gw_98) rfl dX8_add_20 ?_
  refine lv_aload_n hx hb dX8_add_23 rfl (lv_at hl 0 rfl) ?_
  refine gm_get (D := D) (ci := 8) (v := .int 1) (C := RX8) (T := TX8) (N := 2) hx hb hg inlX8 hown hK.1 hP 0 rfl rfl 1 (by decide) tX8_1 (hg _ gw_155) rfl dX8_add_24 ?_
  refine lv_lload_n hx hb dX8_add_27 rfl (lv_at hl 1 rfl) ?_
  refine va_last hx hb hK.1 hP hD hS 1 1 rfl rfl (by unfold vp_in; decide +kernel) dX8_add_28 ?_
  clear hP hD hS
  refine fun H locs (hP : va_P D vwCl [(h0, .inr (8, [.ref h1, .int 1])), (h1, .inl (y 1, 200, .inr (.inl (vp_updL wf30232 ((1 : Int32).toNatClampNeg) 0))))] H) (hD : va_D A [(h0, .inr (8, [.ref h1, .int 1])), (h1, .inl (y 1, 200, .inr (.inl (vp_updL wf30232 ((1 : Int32).toNatClampNeg) 0))))]) hS => ?_
  refine lv_aload_n hx hb dX8_add_29 rfl (lv_at hl 0 rfl) ?_
  refine lv_dup hx hb dX8_add_30 rfl ?_
  refine gm_get (D := D) (ci := 8) (v := .int 1) (C := RX8) (T := TX8) (N := 2) hx hb hg inlX8 hown hK.1 hP 0 rfl rfl 1 (by decide) tX8_1 (hg _ gw_155) rfl dX8_add_31 ?_
  refine lv_iconst (v := 1) hx hb dX8_add_34 (by decide) ?_
  refine lv_iadd hx hb dX8_add_35 ?_
  refine g_fi (v := 2) (by decide +kernel) ?_
  refine gm_put (D := D) (ci := 8) (v := .int 2) (ty := .int) (C := RX8) (T := TX8) (N := 2) hx hb hg inlX8 tyX8 tyX8_ok nmX8 hown hK.1 hP hD hS 0 rfl rfl 1 (by decide) tX8_1 (hg _ gw_155) (by decide +kernel) rfl rfl (Nat.le_of_ble_eq_true rfl) dX8_add_36 ?_
  clear hP hD hS H locs
  refine fun H locs (hP : va_P D vwCl [(h0, .inr (8, [.ref h1, .int 2])), (h1, .inl (y 1, 200, .inr (.inl (vp_updL wf30232 ((1 : Int32).toNatClampNeg) 0))))] H) (hD : va_D A [(h0, .inr (8, [.ref h1, .int 2])), (h1, .inl (y 1, 200, .inr (.inl (vp_updL wf30232 ((1 : Int32).toNatClampNeg) 0))))]) hS => ?_
  exact g_vret hx hb hr hlocks () hP hD hS trivial (Nat.le_of_ble_eq_true rfl) (Nat.le_of_ble_eq_true rfl) dX8_add_39
set_option maxRecDepth 100000 in
set_option maxHeartbeats 4000000 in
theorem k_X8_addMany_5 (l : Launch) (D : va_G) (y : Nat → ClassId) (aS : Nat → Nat) (sz : Nat) (h0 : Nat) (h1 : Nat) (wf30234 : Nat → Int64) : Met l yX8_addMany (Cond.code yX8_addMany cX8_addMany 5 none :: wsL_law) ({ frames := 1, cells := 0, slots := 0, locals := 22 } : Room) (va_Pc [.ref h0, .int 2, .long 0] (gI D y aS [(h0, .inr (8, [.ref h1, .int 0])), (h1, .inl (y 1, 200, .inr (.inl wf30234)))] sz)) (va_Qv (fun (u : Unit) => True) (fun u => gO D (va_A [(h0, .inr (8, [.ref h1, .int 0])), (h1, .inl (y 1, 200, .inr (.inl wf30234)))] sz) [(h0, .inr (8, [.ref h1, .int 2])), (h1, .inl (y 1, 200, .inr (.inl (vp_updL (vp_updL wf30234 ((0 : Int32).toNatClampNeg) 0) ((1 : Int32).toNatClampNeg) 0))))]) (va_A [(h0, .inr (8, [.ref h1, .int 0])), (h1, .inl (y 1, 200, .inr (.inl wf30234)))] sz)) 0 0 (va_A [(h0, .inr (8, [.ref h1, .int 0])), (h1, .inl (y 1, 200, .inr (.inl wf30234)))] sz) := by
  refine g_of (by decide) (Nat.le_of_ble_eq_true rfl) ?_
  intro p e s m below meth c ls A hx hb hr hml hown hg hlocks hin hsz hK hP hD hS hA hAe hl
  rw [← hAe]
  replace hown : s.vm.findClass RX8 = some m.cls := hown
  replace hl : lv_has ls 5 [(0, .ref h0), (1, .int 2), (2, .long 0)] := hl
  refine lv_iconst (v := 0) hx hb dX8_addMany_0 (by decide) ?_
  refine lv_istore (lv' := [(4, .int 0), (0, .ref h0), (1, .int 2), (2, .long 0)]) hx hb dX8_addMany_1 hl (by decide) rfl ?_
  clear hl
  clear ls
  intro ls hl
  refine lv_iload hx hb dX8_addMany_3 (lv_at hl 0 rfl) ?_
  refine lv_iload_n hx hb dX8_addMany_5 rfl (lv_at hl 2 rfl) ?_
  refine lv_icmp_ge (tgt := 30) hx hb dX8_addMany_6 (by decide) (fun c9 => absurd c9 (by decide +kernel)) (fun _ => ?_)
  refine lv_iload hx hb dX8_addMany_9 (lv_at hl 0 rfl) ?_
  refine lv_aload_n hx hb dX8_addMany_11 rfl (lv_at hl 1 rfl) ?_
  refine gm_get (D := D) (ci := 8) (v := .ref h1) (C := RX8) (T := TX8) (N := 2) hx hb hg inlX8 hown hK.1 hP 0 rfl rfl 0 (by decide) tX8_0 (hg _ gw_98) rfl dX8_addMany_12 ?_
  refine va_alen hx hb hK.1 hP 1 1 rfl rfl (v := 200) rfl dX8_addMany_15 ?_
  refine lv_icmp_ge (tgt := 30) hx hb dX8_addMany_16 (by decide) (fun c9 => absurd c9 (by decide +kernel)) (fun _ => ?_)
  refine lv_aload_n hx hb dX8_addMany_19 rfl (lv_at hl 1 rfl) ?_
  refine lv_lload_n hx hb dX8_addMany_20 rfl (lv_at hl 3 rfl) ?_
  refine g_av (wr := []) (va_runV (As := [.long 0]) (rest := []) ⟨hx, hb, hml, hown, hg⟩ (k_X8_add_28 l D y aS s.heap.size h0 h1 wf30234) (cwV 1 hg ggV_RX8_19_X8_add rfl rfl rfl (by decide +kernel) ⟨Nat.le_of_ble_eq_true rfl, Nat.le_of_ble_eq_true rfl⟩) (g_preV (q := (RX8, TX8, 2)) hK hP hD [0, 1] rfl (by decide) (ci := 8) (q0 := 0) rfl rfl) rfl rfl hl.1 rfl (lv_room (Nat.le_of_ble_eq_true rfl)) dX8_addMany_21 ⟨Nat.le_of_ble_eq_true rfl, Nat.le_of_ble_eq_true rfl⟩) hP hD hS hA [0, 1] [] rfl rfl (by decide) (by decide) ?_
  clear hP hD hS
  refine fun u H locs hq hP hD hS => ?_
  replace hP : va_P D vwCl [(h0, .inr (8, [.ref h1, .int 1])), (h1, .inl (y 1, 200, .inr (.inl (vp_updL wf30234 ((0 : Int32).toNatClampNeg) 0))))] H := hP
  replace hD : va_D A [(h0, .inr (8, [.ref h1, .int 1])), (h1, .inl (y 1, 200, .inr (.inl (vp_updL wf30234 ((0 : Int32).toNatClampNeg) 0))))] := hD
  refine lv_iinc (v := 1) (lv' := [(4, .int 1), (0, .ref h0), (1, .int 2), (2, .long 0)]) hx hb dX8_addMany_24 hl (k := 0) rfl (by decide +kernel) (by decide) rfl ?_
  clear hl
  clear ls
  intro ls hl
  refine lv_goto (tgt := 3) hx hb dX8_addMany_27 (by decide) ?_
  refine lv_iload hx hb dX8_addMany_3 (lv_at hl 0 rfl) ?_
  refine lv_iload_n hx hb dX8_addMany_5 rfl (lv_at hl 2 rfl) ?_
  refine lv_icmp_ge (tgt := 30) hx hb dX8_addMany_6 (by decide) (fun c9 => absurd c9 (by decide +kernel)) (fun _ => ?_)
  refine lv_iload hx hb dX8_addMany_9 (lv_at hl 0 rfl) ?_
  refine lv_aload_n hx hb dX8_addMany_11 rfl (lv_at hl 1 rfl) ?_
  refine gm_get (D := D) (ci := 8) (v := .ref h1) (C := RX8) (T := TX8) (N := 2) hx hb hg inlX8 hown hK.1 hP 0 rfl rfl 0 (by decide) tX8_0 (hg _ gw_98) rfl dX8_addMany_12 ?_
  refine va_alen hx hb hK.1 hP 1 1 rfl rfl (v := 200) rfl dX8_addMany_15 ?_
  refine lv_icmp_ge (tgt := 30) hx hb dX8_addMany_16 (by decide) (fun c9 => absurd c9 (by decide +kernel)) (fun _ => ?_)
  refine lv_aload_n hx hb dX8_addMany_19 rfl (lv_at hl 1 rfl) ?_
  refine lv_lload_n hx hb dX8_addMany_20 rfl (lv_at hl 3 rfl) ?_
  refine g_av (wr := []) (va_runV (As := [.long 0]) (rest := []) ⟨hx, hb, hml, hown, hg⟩ (k_X8_add_29 l D y aS H.size h0 h1 (vp_updL wf30234 ((0 : Int32).toNatClampNeg) 0)) (cwV 1 hg ggV_RX8_19_X8_add rfl rfl rfl (by decide +kernel) ⟨Nat.le_of_ble_eq_true rfl, Nat.le_of_ble_eq_true rfl⟩) (g_preV (q := (RX8, TX8, 2)) hK hP hD [0, 1] rfl (by decide) (ci := 8) (q0 := 0) rfl rfl) rfl rfl hl.1 rfl (lv_room (Nat.le_of_ble_eq_true rfl)) dX8_addMany_21 ⟨Nat.le_of_ble_eq_true rfl, Nat.le_of_ble_eq_true rfl⟩) hP hD hS hA [0, 1] [] rfl rfl (by decide) (by decide) ?_
  clear hP hD hS H locs
  refine fun u H locs hq hP hD hS => ?_
  replace hP : va_P D vwCl [(h0, .inr (8, [.ref h1, .int 2])), (h1, .inl (y 1, 200, .inr (.inl (vp_updL (vp_updL wf30234 ((0 : Int32).toNatClampNeg) 0) ((1 : Int32).toNatClampNeg) 0))))] H := hP
  replace hD : va_D A [(h0, .inr (8, [.ref h1, .int 2])), (h1, .inl (y 1, 200, .inr (.inl (vp_updL (vp_updL wf30234 ((0 : Int32).toNatClampNeg) 0) ((1 : Int32).toNatClampNeg) 0))))] := hD
  refine lv_iinc (v := 2) (lv' := [(4, .int 2), (0, .ref h0), (1, .int 2), (2, .long 0)]) hx hb dX8_addMany_24 hl (k := 0) rfl (by decide +kernel) (by decide) rfl ?_
  clear hl
  clear ls
  intro ls hl
  refine lv_goto (tgt := 3) hx hb dX8_addMany_27 (by decide) ?_
  refine lv_iload hx hb dX8_addMany_3 (lv_at hl 0 rfl) ?_
  refine lv_iload_n hx hb dX8_addMany_5 rfl (lv_at hl 2 rfl) ?_
  refine lv_icmp_ge (tgt := 30) hx hb dX8_addMany_6 (by decide) (fun _ => ?_) (fun c9 => absurd c9 (by decide +kernel))
  exact g_vret hx hb hr hlocks () hP hD hS trivial (Nat.le_of_ble_eq_true rfl) (Nat.le_of_ble_eq_true rfl) dX8_addMany_30
set_option maxRecDepth 100000 in
set_option maxHeartbeats 4000000 in
theorem k_X8_set_46 (l : Launch) (D : va_G) (y : Nat → ClassId) (aS : Nat → Nat) (sz : Nat) (h0 : Nat) (p1 : Int64) (h2 : Nat) (wp30239 : Int32) (wf30240 : Nat → Int64) : Met l yX8_set (Cond.code yX8_set cX8_set 4 none :: wsL_law) ({ frames := 0, cells := 0, slots := 0, locals := 0 } : Room) (va_Pc [.ref h0, .int 1, .long p1] (gI D y aS [(h0, .inr (8, [.ref h2, .int wp30239])), (h2, .inl (y 1, 200, .inr (.inl wf30240)))] sz)) (va_Qv (fun (u : Unit) => True) (fun u => gO D (va_A [(h0, .inr (8, [.ref h2, .int wp30239])), (h2, .inl (y 1, 200, .inr (.inl wf30240)))] sz) [(h0, .inr (8, [.ref h2, .int wp30239])), (h2, .inl (y 1, 200, .inr (.inl (vp_updL wf30240 ((1 : Int32).toNatClampNeg) p1))))]) (va_A [(h0, .inr (8, [.ref h2, .int wp30239])), (h2, .inl (y 1, 200, .inr (.inl wf30240)))] sz)) 0 0 (va_A [(h0, .inr (8, [.ref h2, .int wp30239])), (h2, .inl (y 1, 200, .inr (.inl wf30240)))] sz) := by
  refine g_of (by decide) (Nat.le_of_ble_eq_true rfl) ?_
  intro p e s m below meth c ls A hx hb hr hml hown hg hlocks hin hsz hK hP hD hS hA hAe hl
  rw [← hAe]
  replace hown : s.vm.findClass RX8 = some m.cls := hown
  replace hl : lv_has ls 4 [(0, .ref h0), (1, .int 1), (2, .long p1)] := hl
  refine lv_iload_n hx hb dX8_set_0 rfl (lv_at hl 1 rfl) ?_
  refine lv_if_lt (tgt := 20) hx hb dX8_set_1 (by decide) (fun c9 => absurd c9 (by decide +kernel)) (fun _ => ?_)
  refine lv_iload_n hx hb dX8_set_4 rfl (lv_at hl 1 rfl) ?_
  refine lv_aload_n hx hb dX8_set_5 rfl (lv_at hl 0 rfl) ?_
  refine gm_get (D := D) (ci := 8) (v := .ref h2) (C := RX8) (T := TX8) (N := 2) hx hb hg inlX8 hown hK.1 hP 0 rfl rfl 0 (by decide) tX8_0 (hg _ gw_98) rfl dX8_set_6 ?_
  refine va_alen hx hb hK.1 hP 1 1 rfl rfl (v := 200) rfl dX8_set_9 ?_
  refine lv_icmp_ge (tgt := 20) hx hb dX8_set_10 (by decide) (fun c9 => absurd c9 (by decide +kernel)) (fun _ => ?_)
  refine lv_aload_n hx hb dX8_set_13 rfl (lv_at hl 0 rfl) ?_
  refine gm_get (D := D) (ci := 8) (v := .ref h2) (C := RX8) (T := TX8) (N := 2) hx hb hg inlX8 hown hK.1 hP 0 rfl rfl 0 (by decide) tX8_0 (hg _ gw_98) rfl dX8_set_14 ?_
  refine lv_iload_n hx hb dX8_set_17 rfl (lv_at hl 1 rfl) ?_
  refine lv_lload_n hx hb dX8_set_18 rfl (lv_at hl 2 rfl) ?_
  refine va_last hx hb hK.1 hP hD hS 1 1 rfl rfl (by unfold vp_in; decide +kernel) dX8_set_19 ?_
  clear hP hD hS
  refine fun H locs (hP : va_P D vwCl [(h0, .inr (8, [.ref h2, .int wp30239])), (h2, .inl (y 1, 200, .inr (.inl (vp_updL wf30240 ((1 : Int32).toNatClampNeg) p1))))] H) (hD : va_D A [(h0, .inr (8, [.ref h2, .int wp30239])), (h2, .inl (y 1, 200, .inr (.inl (vp_updL wf30240 ((1 : Int32).toNatClampNeg) p1))))]) hS => ?_
  exact g_vret hx hb hr hlocks () hP hD hS trivial (Nat.le_of_ble_eq_true rfl) (Nat.le_of_ble_eq_true rfl) dX8_set_20
set_option maxRecDepth 100000 in
set_option maxHeartbeats 4000000 in
theorem k_X5_find_3 (l : Launch) (D : va_G) (y : Nat → ClassId) (aS : Nat → Nat) (sz : Nat) (h0 : Nat) (h1 : Nat) (h2 : Nat) (h3 : Nat) (h4 : Nat) (wp30249 : Int32) (h6 : Nat) (wp30250 : Int32) : Met l yX5_find (Cond.code yX5_find cX5_find 6 none :: wsL_law) ({ frames := 1, cells := 0, slots := 0, locals := 21 } : Room) (va_Pc [.ref h0, .int 0, .int 1] (gI D y aS [(h0, .inr (5, [.ref h1, .ref h2, .ref h3, .ref h4, .int wp30249])), (h4, .inr (8, [.ref h6, .int wp30250])), (h6, .inl (y 1, 3, .inr (.inl (fun _ => 0))))] sz)) (va_Qv (fun (u : Unit) => True) (fun u => gO D (va_A [(h0, .inr (5, [.ref h1, .ref h2, .ref h3, .ref h4, .int wp30249])), (h4, .inr (8, [.ref h6, .int wp30250])), (h6, .inl (y 1, 3, .inr (.inl (fun _ => 0))))] sz) [(h0, .inr (5, [.ref h1, .ref h2, .ref h3, .ref h4, .int wp30249])), (h4, .inr (8, [.ref h6, .int wp30250])), (h6, .inl (y 1, 3, .inr (.inl (fun _ => 0))))]) (va_A [(h0, .inr (5, [.ref h1, .ref h2, .ref h3, .ref h4, .int wp30249])), (h4, .inr (8, [.ref h6, .int wp30250])), (h6, .inl (y 1, 3, .inr (.inl (fun _ => 0))))] sz)) 0 0 (va_A [(h0, .inr (5, [.ref h1, .ref h2, .ref h3, .ref h4, .int wp30249])), (h4, .inr (8, [.ref h6, .int wp30250])), (h6, .inl (y 1, 3, .inr (.inl (fun _ => 0))))] sz) := by
  refine g_of (by decide) (Nat.le_of_ble_eq_true rfl) ?_
  intro p e s m below meth c ls A hx hb hr hml hown hg hlocks hin hsz hK hP hD hS hA hAe hl
  rw [← hAe]
  replace hown : s.vm.findClass RX5 = some m.cls := hown
  replace hl : lv_has ls 6 [(0, .ref h0), (1, .int 0), (2, .int 1)] := hl
  refine lv_aload_n hx hb dX5_find_0 rfl (lv_at hl 0 rfl) ?_
  refine gm_get (D := D) (ci := 5) (v := .ref h4) (C := RX5) (T := TX5) (N := 5) hx hb hg inlX5 hown hK.1 hP 0 rfl rfl 3 (by decide) tX5_3 (hg _ gw_141) rfl dX5_find_1 ?_
  refine lv_iload_n hx hb dX5_find_4 rfl (lv_at hl 1 rfl) ?_
  refine g_ai (wr := [(h0, .inr (5, [.ref h1, .ref h2, .ref h3, .ref h4, .int wp30249]))]) (va_runV (As := [.int 0]) (rest := []) ⟨hx, hb, hml, hown, hg⟩ (k_X8_whole_27 l D y aS s.heap.size h4 h6 wp30250) (cwV 1 hg ggV_RX5_50_X8_whole rfl rfl rfl (by decide +kernel) ⟨Nat.le_of_ble_eq_true rfl, Nat.le_of_ble_eq_true rfl⟩) (g_preV (q := (RX8, TX8, 2)) hK hP hD [1, 2] rfl (by decide) (ci := 8) (q0 := 1) rfl rfl) rfl rfl hl.1 rfl (lv_room (Nat.le_of_ble_eq_true rfl)) dX5_find_5 ⟨Nat.le_of_ble_eq_true rfl, Nat.le_of_ble_eq_true rfl⟩) hP hD hS hA [1, 2] [0] rfl rfl (by decide) (by decide) ?_
  clear hP hD hS
  refine fun r30251 u H locs hq hP hD hS => ?_
  subst hq
  replace hP : va_P D vwCl [(h0, .inr (5, [.ref h1, .ref h2, .ref h3, .ref h4, .int wp30249])), (h4, .inr (8, [.ref h6, .int wp30250])), (h6, .inl (y 1, 3, .inr (.inl (fun _ => 0))))] H := hP
  replace hD : va_D A [(h0, .inr (5, [.ref h1, .ref h2, .ref h3, .ref h4, .int wp30249])), (h4, .inr (8, [.ref h6, .int wp30250])), (h6, .inl (y 1, 3, .inr (.inl (fun _ => 0))))] := hD
  refine lv_istore_n (lv' := [(3, .int 0), (0, .ref h0), (1, .int 0), (2, .int 1)]) hx hb dX5_find_8 rfl hl (by decide) rfl ?_
  clear hl
  clear ls
  intro ls hl
  refine lv_iconst (v := 0) hx hb dX5_find_9 (by decide) ?_
  refine lv_istore (lv' := [(4, .int 0), (3, .int 0), (0, .ref h0), (1, .int 0), (2, .int 1)]) hx hb dX5_find_10 hl (by decide) rfl ?_
  clear hl
  clear ls
  intro ls hl
  refine lv_iload hx hb dX5_find_12 (lv_at hl 0 rfl) ?_
  refine lv_iload_n hx hb dX5_find_14 rfl (lv_at hl 1 rfl) ?_
  refine lv_icmp_ge (tgt := 67) hx hb dX5_find_15 (by decide) (fun _ => ?_) (fun c9 => absurd c9 (by decide +kernel))
  refine lv_iload_n hx hb dX5_find_67 rfl (lv_at hl 1 rfl) ?_
  refine lv_if_le (tgt := 107) hx hb dX5_find_68 (by decide) (fun _ => ?_) (fun c9 => absurd c9 (by decide +kernel))
  refine lv_iload hx hb dX5_find_107 (lv_at hl 0 rfl) ?_
  refine lv_if_le (tgt := 139) hx hb dX5_find_109 (by decide) (fun _ => ?_) (fun c9 => absurd c9 (by decide +kernel))
  exact g_vret hx hb hr hlocks () hP hD hS trivial (Nat.le_of_ble_eq_true rfl) (Nat.le_of_ble_eq_true rfl) dX5_find_139
set_option maxRecDepth 100000 in
set_option maxHeartbeats 4000000 in
theorem k_X5_find_4 (l : Launch) (D : va_G) (y : Nat → ClassId) (aS : Nat → Nat) (sz : Nat) (h0 : Nat) (h1 : Nat) (h2 : Nat) (h3 : Nat) (h4 : Nat) (wp30254 : Int32) (h6 : Nat) (wp30255 : Int32) : Met l yX5_find (Cond.code yX5_find cX5_find 6 none :: wsL_law) ({ frames := 1, cells := 0, slots := 0, locals := 21 } : Room) (va_Pc [.ref h0, .int 1, .int 1] (gI D y aS [(h0, .inr (5, [.ref h1, .ref h2, .ref h3, .ref h4, .int wp30254])), (h4, .inr (8, [.ref h6, .int wp30255])), (h6, .inl (y 1, 3, .inr (.inl (fun _ => 0))))] sz)) (va_Qv (fun (u : Unit) => True) (fun u => gO D (va_A [(h0, .inr (5, [.ref h1, .ref h2, .ref h3, .ref h4, .int wp30254])), (h4, .inr (8, [.ref h6, .int wp30255])), (h6, .inl (y 1, 3, .inr (.inl (fun _ => 0))))] sz) [(h0, .inr (5, [.ref h1, .ref h2, .ref h3, .ref h4, .int wp30254])), (h4, .inr (8, [.ref h6, .int wp30255])), (h6, .inl (y 1, 3, .inr (.inl (fun _ => 0))))]) (va_A [(h0, .inr (5, [.ref h1, .ref h2, .ref h3, .ref h4, .int wp30254])), (h4, .inr (8, [.ref h6, .int wp30255])), (h6, .inl (y 1, 3, .inr (.inl (fun _ => 0))))] sz)) 0 0 (va_A [(h0, .inr (5, [.ref h1, .ref h2, .ref h3, .ref h4, .int wp30254])), (h4, .inr (8, [.ref h6, .int wp30255])), (h6, .inl (y 1, 3, .inr (.inl (fun _ => 0))))] sz) := by
  refine g_of (by decide) (Nat.le_of_ble_eq_true rfl) ?_
  intro p e s m below meth c ls A hx hb hr hml hown hg hlocks hin hsz hK hP hD hS hA hAe hl
  rw [← hAe]
  replace hown : s.vm.findClass RX5 = some m.cls := hown
  replace hl : lv_has ls 6 [(0, .ref h0), (1, .int 1), (2, .int 1)] := hl
  refine lv_aload_n hx hb dX5_find_0 rfl (lv_at hl 0 rfl) ?_
  refine gm_get (D := D) (ci := 5) (v := .ref h4) (C := RX5) (T := TX5) (N := 5) hx hb hg inlX5 hown hK.1 hP 0 rfl rfl 3 (by decide) tX5_3 (hg _ gw_141) rfl dX5_find_1 ?_
  refine lv_iload_n hx hb dX5_find_4 rfl (lv_at hl 1 rfl) ?_
  refine g_ai (wr := [(h0, .inr (5, [.ref h1, .ref h2, .ref h3, .ref h4, .int wp30254]))]) (va_runV (As := [.int 1]) (rest := []) ⟨hx, hb, hml, hown, hg⟩ (k_X8_whole_28 l D y aS s.heap.size h4 h6 wp30255) (cwV 1 hg ggV_RX5_50_X8_whole rfl rfl rfl (by decide +kernel) ⟨Nat.le_of_ble_eq_true rfl, Nat.le_of_ble_eq_true rfl⟩) (g_preV (q := (RX8, TX8, 2)) hK hP hD [1, 2] rfl (by decide) (ci := 8) (q0 := 1) rfl rfl) rfl rfl hl.1 rfl (lv_room (Nat.le_of_ble_eq_true rfl)) dX5_find_5 ⟨Nat.le_of_ble_eq_true rfl, Nat.le_of_ble_eq_true rfl⟩) hP hD hS hA [1, 2] [0] rfl rfl (by decide) (by decide) ?_
  clear hP hD hS
  refine fun r30256 u H locs hq hP hD hS => ?_
  subst hq
  replace hP : va_P D vwCl [(h0, .inr (5, [.ref h1, .ref h2, .ref h3, .ref h4, .int wp30254])), (h4, .inr (8, [.ref h6, .int wp30255])), (h6, .inl (y 1, 3, .inr (.inl (fun _ => 0))))] H := hP
  replace hD : va_D A [(h0, .inr (5, [.ref h1, .ref h2, .ref h3, .ref h4, .int wp30254])), (h4, .inr (8, [.ref h6, .int wp30255])), (h6, .inl (y 1, 3, .inr (.inl (fun _ => 0))))] := hD
  refine lv_istore_n (lv' := [(3, .int 0), (0, .ref h0), (1, .int 1), (2, .int 1)]) hx hb dX5_find_8 rfl hl (by decide) rfl ?_
  clear hl
  clear ls
  intro ls hl
  refine lv_iconst (v := 0) hx hb dX5_find_9 (by decide) ?_
  refine lv_istore (lv' := [(4, .int 0), (3, .int 0), (0, .ref h0), (1, .int 1), (2, .int 1)]) hx hb dX5_find_10 hl (by decide) rfl ?_
  clear hl
  clear ls
  intro ls hl
  refine lv_iload hx hb dX5_find_12 (lv_at hl 0 rfl) ?_
  refine lv_iload_n hx hb dX5_find_14 rfl (lv_at hl 1 rfl) ?_
  refine lv_icmp_ge (tgt := 67) hx hb dX5_find_15 (by decide) (fun _ => ?_) (fun c9 => absurd c9 (by decide +kernel))
  refine lv_iload_n hx hb dX5_find_67 rfl (lv_at hl 1 rfl) ?_
  refine lv_if_le (tgt := 107) hx hb dX5_find_68 (by decide) (fun _ => ?_) (fun c9 => absurd c9 (by decide +kernel))
  refine lv_iload hx hb dX5_find_107 (lv_at hl 0 rfl) ?_
  refine lv_if_le (tgt := 139) hx hb dX5_find_109 (by decide) (fun _ => ?_) (fun c9 => absurd c9 (by decide +kernel))
  exact g_vret hx hb hr hlocks () hP hD hS trivial (Nat.le_of_ble_eq_true rfl) (Nat.le_of_ble_eq_true rfl) dX5_find_139
set_option maxRecDepth 100000 in
set_option maxHeartbeats 4000000 in
theorem k_X5_find_5 (l : Launch) (D : va_G) (y : Nat → ClassId) (aS : Nat → Nat) (sz : Nat) (h0 : Nat) (h1 : Nat) (h2 : Nat) (h3 : Nat) (h4 : Nat) (wp30259 : Int32) (h6 : Nat) (wp30260 : Int32) : Met l yX5_find (Cond.code yX5_find cX5_find 6 none :: wsL_law) ({ frames := 1, cells := 0, slots := 0, locals := 21 } : Room) (va_Pc [.ref h0, .int 2, .int 1] (gI D y aS [(h0, .inr (5, [.ref h1, .ref h2, .ref h3, .ref h4, .int wp30259])), (h4, .inr (8, [.ref h6, .int wp30260])), (h6, .inl (y 1, 3, .inr (.inl (fun _ => 0))))] sz)) (va_Qv (fun (u : Unit) => True) (fun u => gO D (va_A [(h0, .inr (5, [.ref h1, .ref h2, .ref h3, .ref h4, .int wp30259])), (h4, .inr (8, [.ref h6, .int wp30260])), (h6, .inl (y 1, 3, .inr (.inl (fun _ => 0))))] sz) [(h0, .inr (5, [.ref h1, .ref h2, .ref h3, .ref h4, .int wp30259])), (h4, .inr (8, [.ref h6, .int wp30260])), (h6, .inl (y 1, 3, .inr (.inl (fun _ => 0))))]) (va_A [(h0, .inr (5, [.ref h1, .ref h2, .ref h3, .ref h4, .int wp30259])), (h4, .inr (8, [.ref h6, .int wp30260])), (h6, .inl (y 1, 3, .inr (.inl (fun _ => 0))))] sz)) 0 0 (va_A [(h0, .inr (5, [.ref h1, .ref h2, .ref h3, .ref h4, .int wp30259])), (h4, .inr (8, [.ref h6, .int wp30260])), (h6, .inl (y 1, 3, .inr (.inl (fun _ => 0))))] sz) := by
  refine g_of (by decide) (Nat.le_of_ble_eq_true rfl) ?_
  intro p e s m below meth c ls A hx hb hr hml hown hg hlocks hin hsz hK hP hD hS hA hAe hl
  rw [← hAe]
  replace hown : s.vm.findClass RX5 = some m.cls := hown
  replace hl : lv_has ls 6 [(0, .ref h0), (1, .int 2), (2, .int 1)] := hl
  refine lv_aload_n hx hb dX5_find_0 rfl (lv_at hl 0 rfl) ?_
  refine gm_get (D := D) (ci := 5) (v := .ref h4) (C := RX5) (T := TX5) (N := 5) hx hb hg inlX5 hown hK.1 hP 0 rfl rfl 3 (by decide) tX5_3 (hg _ gw_141) rfl dX5_find_1 ?_
  refine lv_iload_n hx hb dX5_find_4 rfl (lv_at hl 1 rfl) ?_
  refine g_ai (wr := [(h0, .inr (5, [.ref h1, .ref h2, .ref h3, .ref h4, .int wp30259]))]) (va_runV (As := [.int 2]) (rest := []) ⟨hx, hb, hml, hown, hg⟩ (k_X8_whole_29 l D y aS s.heap.size h4 h6 wp30260) (cwV 1 hg ggV_RX5_50_X8_whole rfl rfl rfl (by decide +kernel) ⟨Nat.le_of_ble_eq_true rfl, Nat.le_of_ble_eq_true rfl⟩) (g_preV (q := (RX8, TX8, 2)) hK hP hD [1, 2] rfl (by decide) (ci := 8) (q0 := 1) rfl rfl) rfl rfl hl.1 rfl (lv_room (Nat.le_of_ble_eq_true rfl)) dX5_find_5 ⟨Nat.le_of_ble_eq_true rfl, Nat.le_of_ble_eq_true rfl⟩) hP hD hS hA [1, 2] [0] rfl rfl (by decide) (by decide) ?_
  clear hP hD hS
  refine fun r30261 u H locs hq hP hD hS => ?_
  subst hq
  replace hP : va_P D vwCl [(h0, .inr (5, [.ref h1, .ref h2, .ref h3, .ref h4, .int wp30259])), (h4, .inr (8, [.ref h6, .int wp30260])), (h6, .inl (y 1, 3, .inr (.inl (fun _ => 0))))] H := hP
  replace hD : va_D A [(h0, .inr (5, [.ref h1, .ref h2, .ref h3, .ref h4, .int wp30259])), (h4, .inr (8, [.ref h6, .int wp30260])), (h6, .inl (y 1, 3, .inr (.inl (fun _ => 0))))] := hD
  refine lv_istore_n (lv' := [(3, .int 0), (0, .ref h0), (1, .int 2), (2, .int 1)]) hx hb dX5_find_8 rfl hl (by decide) rfl ?_
  clear hl
  clear ls
  intro ls hl
  refine lv_iconst (v := 0) hx hb dX5_find_9 (by decide) ?_
  refine lv_istore (lv' := [(4, .int 0), (3, .int 0), (0, .ref h0), (1, .int 2), (2, .int 1)]) hx hb dX5_find_10 hl (by decide) rfl ?_
  clear hl
  clear ls
  intro ls hl
  refine lv_iload hx hb dX5_find_12 (lv_at hl 0 rfl) ?_
  refine lv_iload_n hx hb dX5_find_14 rfl (lv_at hl 1 rfl) ?_
  refine lv_icmp_ge (tgt := 67) hx hb dX5_find_15 (by decide) (fun _ => ?_) (fun c9 => absurd c9 (by decide +kernel))
  refine lv_iload_n hx hb dX5_find_67 rfl (lv_at hl 1 rfl) ?_
  refine lv_if_le (tgt := 107) hx hb dX5_find_68 (by decide) (fun _ => ?_) (fun c9 => absurd c9 (by decide +kernel))
  refine lv_iload hx hb dX5_find_107 (lv_at hl 0 rfl) ?_
  refine lv_if_le (tgt := 139) hx hb dX5_find_109 (by decide) (fun _ => ?_) (fun c9 => absurd c9 (by decide +kernel))
  exact g_vret hx hb hr hlocks () hP hD hS trivial (Nat.le_of_ble_eq_true rfl) (Nat.le_of_ble_eq_true rfl) dX5_find_139
set_option maxRecDepth 100000 in
set_option maxHeartbeats 4000000 in
theorem k_X5_findOut_2 (l : Launch) (D : va_G) (y : Nat → ClassId) (aS : Nat → Nat) (sz : Nat) (h0 : Nat) (h1 : Nat) (h2 : Nat) (h3 : Nat) (h4 : Nat) (wp30263 : Int32) (h6 : Nat) (h7 : Nat) (wp30264 : Int32) (wf30265 : Nat → Int64) (h10 : Nat) (wp30266 : Int32) : Met l yX5_findOut (Cond.code yX5_findOut cX5_findOut 3 none :: wsL_law) ({ frames := 2, cells := 0, slots := 0, locals := 46 } : Room) (va_Pc [.ref h0] (gI D y aS [(h0, .inr (5, [.ref h1, .ref h2, .ref h3, .ref h4, .int wp30263])), (h1, .inr (8, [.ref h6, .int 2])), (h2, .inr (8, [.ref h7, .int wp30264])), (h7, .inl (y 1, 200, .inr (.inl wf30265))), (h4, .inr (8, [.ref h10, .int wp30266])), (h10, .inl (y 1, 3, .inr (.inl (fun _ => 0))))] sz)) (va_Qv (fun (u : Unit) => True) (fun u => gO D (va_A [(h0, .inr (5, [.ref h1, .ref h2, .ref h3, .ref h4, .int wp30263])), (h1, .inr (8, [.ref h6, .int 2])), (h2, .inr (8, [.ref h7, .int wp30264])), (h7, .inl (y 1, 200, .inr (.inl wf30265))), (h4, .inr (8, [.ref h10, .int wp30266])), (h10, .inl (y 1, 3, .inr (.inl (fun _ => 0))))] sz) [(h0, .inr (5, [.ref h1, .ref h2, .ref h3, .ref h4, .int 2])), (h1, .inr (8, [.ref h6, .int 2])), (h2, .inr (8, [.ref h7, .int wp30264])), (h7, .inl (y 1, 200, .inr (.inl (vp_updL (vp_updL wf30265 ((0 : Int32).toNatClampNeg) 0) ((1 : Int32).toNatClampNeg) 0)))), (h4, .inr (8, [.ref h10, .int wp30266])), (h10, .inl (y 1, 3, .inr (.inl (fun _ => 0))))]) (va_A [(h0, .inr (5, [.ref h1, .ref h2, .ref h3, .ref h4, .int wp30263])), (h1, .inr (8, [.ref h6, .int 2])), (h2, .inr (8, [.ref h7, .int wp30264])), (h7, .inl (y 1, 200, .inr (.inl wf30265))), (h4, .inr (8, [.ref h10, .int wp30266])), (h10, .inl (y 1, 3, .inr (.inl (fun _ => 0))))] sz)) 0 0 (va_A [(h0, .inr (5, [.ref h1, .ref h2, .ref h3, .ref h4, .int wp30263])), (h1, .inr (8, [.ref h6, .int 2])), (h2, .inr (8, [.ref h7, .int wp30264])), (h7, .inl (y 1, 200, .inr (.inl wf30265))), (h4, .inr (8, [.ref h10, .int wp30266])), (h10, .inl (y 1, 3, .inr (.inl (fun _ => 0))))] sz) := by
  refine g_of (by decide) (Nat.le_of_ble_eq_true rfl) ?_
  intro p e s m below meth c ls A hx hb hr hml hown hg hlocks hin hsz hK hP hD hS hA hAe hl
  rw [← hAe]
  replace hown : s.vm.findClass RX5 = some m.cls := hown
  replace hl : lv_has ls 3 [(0, .ref h0)] := hl
  refine lv_aload_n hx hb dX5_findOut_0 rfl (lv_at hl 0 rfl) ?_
  refine lv_aload_n hx hb dX5_findOut_1 rfl (lv_at hl 0 rfl) ?_
  refine gm_get (D := D) (ci := 5) (v := .ref h1) (C := RX5) (T := TX5) (N := 5) hx hb hg inlX5 hown hK.1 hP 0 rfl rfl 0 (by decide) tX5_0 (hg _ gw_138) rfl dX5_findOut_2 ?_
  refine gm_get (D := D) (ci := 8) (v := .int 2) (C := RX8) (T := TX8) (N := 2) hx hb hg inlX8 hown hK.1 hP 1 rfl rfl 1 (by decide) tX8_1 (hg _ gw_1441) rfl dX5_findOut_5 ?_
  refine gm_put (D := D) (ci := 5) (v := .int 2) (ty := .int) (C := RX5) (T := TX5) (N := 5) hx hb hg inlX5 tyX5 tyX5_ok nmX5 hown hK.1 hP hD hS 0 rfl rfl 4 (by decide) tX5_4 (hg _ gw_1442) (by decide +kernel) rfl rfl (Nat.le_of_ble_eq_true rfl) dX5_findOut_8 ?_
  clear hP hD hS
  refine fun H locs (hP : va_P D vwCl [(h0, .inr (5, [.ref h1, .ref h2, .ref h3, .ref h4, .int 2])), (h1, .inr (8, [.ref h6, .int 2])), (h2, .inr (8, [.ref h7, .int wp30264])), (h7, .inl (y 1, 200, .inr (.inl wf30265))), (h4, .inr (8, [.ref h10, .int wp30266])), (h10, .inl (y 1, 3, .inr (.inl (fun _ => 0))))] H) (hD : va_D A [(h0, .inr (5, [.ref h1, .ref h2, .ref h3, .ref h4, .int 2])), (h1, .inr (8, [.ref h6, .int 2])), (h2, .inr (8, [.ref h7, .int wp30264])), (h7, .inl (y 1, 200, .inr (.inl wf30265))), (h4, .inr (8, [.ref h10, .int wp30266])), (h10, .inl (y 1, 3, .inr (.inl (fun _ => 0))))]) hS => ?_
  refine lv_iconst (v := 0) hx hb dX5_findOut_11 (by decide) ?_
  refine lv_istore_n (lv' := [(1, .int 0), (0, .ref h0)]) hx hb dX5_findOut_12 rfl hl (by decide) rfl ?_
  clear hl
  clear ls
  intro ls hl
  refine lv_iload_n hx hb dX5_findOut_13 rfl (lv_at hl 0 rfl) ?_
  refine lv_aload_n hx hb dX5_findOut_14 rfl (lv_at hl 1 rfl) ?_
  refine gm_get (D := D) (ci := 5) (v := .ref h1) (C := RX5) (T := TX5) (N := 5) hx hb hg inlX5 hown hK.1 hP 0 rfl rfl 0 (by decide) tX5_0 (hg _ gw_138) rfl dX5_findOut_15 ?_
  refine gm_get (D := D) (ci := 8) (v := .int 2) (C := RX8) (T := TX8) (N := 2) hx hb hg inlX8 hown hK.1 hP 1 rfl rfl 1 (by decide) tX8_1 (hg _ gw_1441) rfl dX5_findOut_18 ?_
  refine lv_icmp_ge (tgt := 39) hx hb dX5_findOut_21 (by decide) (fun c9 => absurd c9 (by decide +kernel)) (fun _ => ?_)
  refine lv_aload_n hx hb dX5_findOut_24 rfl (lv_at hl 1 rfl) ?_
  refine gm_get (D := D) (ci := 5) (v := .ref h2) (C := RX5) (T := TX5) (N := 5) hx hb hg inlX5 hown hK.1 hP 0 rfl rfl 1 (by decide) tX5_1 (hg _ gw_139) rfl dX5_findOut_25 ?_
  refine lv_iload_n hx hb dX5_findOut_28 rfl (lv_at hl 0 rfl) ?_
  refine lv_lconst (v := 0) hx hb dX5_findOut_29 (by decide) ?_
  refine g_av (wr := [(h0, .inr (5, [.ref h1, .ref h2, .ref h3, .ref h4, .int 2])), (h1, .inr (8, [.ref h6, .int 2])), (h4, .inr (8, [.ref h10, .int wp30266])), (h10, .inl (y 1, 3, .inr (.inl (fun _ => 0))))]) (va_runV (As := [.int 0, .long 0]) (rest := []) ⟨hx, hb, hml, hown, hg⟩ (k_X8_set_45 l D y aS H.size h2 0 h7 wp30264 wf30265) (cwV 2 hg ggV_RX5_29_X8_set rfl rfl rfl (by decide +kernel) ⟨Nat.le_of_ble_eq_true rfl, Nat.le_of_ble_eq_true rfl⟩) (g_preV (q := (RX8, TX8, 2)) hK hP hD [2, 3] rfl (by decide) (ci := 8) (q0 := 2) rfl rfl) rfl rfl hl.1 rfl (lv_room (Nat.le_of_ble_eq_true rfl)) dX5_findOut_30 ⟨Nat.le_of_ble_eq_true rfl, Nat.le_of_ble_eq_true rfl⟩) hP hD hS hA [2, 3] [0, 1, 4, 5] rfl rfl (by decide) (by decide) ?_
  clear hP hD hS H locs
  refine fun u H locs hq hP hD hS => ?_
  replace hP : va_P D vwCl [(h0, .inr (5, [.ref h1, .ref h2, .ref h3, .ref h4, .int 2])), (h1, .inr (8, [.ref h6, .int 2])), (h4, .inr (8, [.ref h10, .int wp30266])), (h10, .inl (y 1, 3, .inr (.inl (fun _ => 0)))), (h2, .inr (8, [.ref h7, .int wp30264])), (h7, .inl (y 1, 200, .inr (.inl (vp_updL wf30265 ((0 : Int32).toNatClampNeg) 0))))] H := hP
  replace hD : va_D A [(h0, .inr (5, [.ref h1, .ref h2, .ref h3, .ref h4, .int 2])), (h1, .inr (8, [.ref h6, .int 2])), (h4, .inr (8, [.ref h10, .int wp30266])), (h10, .inl (y 1, 3, .inr (.inl (fun _ => 0)))), (h2, .inr (8, [.ref h7, .int wp30264])), (h7, .inl (y 1, 200, .inr (.inl (vp_updL wf30265 ((0 : Int32).toNatClampNeg) 0))))] := hD
  refine lv_iinc (v := 1) (lv' := [(1, .int 1), (0, .ref h0)]) hx hb dX5_findOut_33 hl (k := 0) rfl (by decide +kernel) (by decide) rfl ?_
  clear hl
  clear ls
  intro ls hl
  refine lv_goto (tgt := 13) hx hb dX5_findOut_36 (by decide) ?_
  refine lv_iload_n hx hb dX5_findOut_13 rfl (lv_at hl 0 rfl) ?_
  refine lv_aload_n hx hb dX5_findOut_14 rfl (lv_at hl 1 rfl) ?_
  refine gm_get (D := D) (ci := 5) (v := .ref h1) (C := RX5) (T := TX5) (N := 5) hx hb hg inlX5 hown hK.1 hP 0 rfl rfl 0 (by decide) tX5_0 (hg _ gw_138) rfl dX5_findOut_15 ?_
  refine gm_get (D := D) (ci := 8) (v := .int 2) (C := RX8) (T := TX8) (N := 2) hx hb hg inlX8 hown hK.1 hP 1 rfl rfl 1 (by decide) tX8_1 (hg _ gw_1441) rfl dX5_findOut_18 ?_
  refine lv_icmp_ge (tgt := 39) hx hb dX5_findOut_21 (by decide) (fun c9 => absurd c9 (by decide +kernel)) (fun _ => ?_)
  refine lv_aload_n hx hb dX5_findOut_24 rfl (lv_at hl 1 rfl) ?_
  refine gm_get (D := D) (ci := 5) (v := .ref h2) (C := RX5) (T := TX5) (N := 5) hx hb hg inlX5 hown hK.1 hP 0 rfl rfl 1 (by decide) tX5_1 (hg _ gw_139) rfl dX5_findOut_25 ?_
  refine lv_iload_n hx hb dX5_findOut_28 rfl (lv_at hl 0 rfl) ?_
  refine lv_lconst (v := 0) hx hb dX5_findOut_29 (by decide) ?_
  refine g_av (wr := [(h0, .inr (5, [.ref h1, .ref h2, .ref h3, .ref h4, .int 2])), (h1, .inr (8, [.ref h6, .int 2])), (h4, .inr (8, [.ref h10, .int wp30266])), (h10, .inl (y 1, 3, .inr (.inl (fun _ => 0))))]) (va_runV (As := [.int 1, .long 0]) (rest := []) ⟨hx, hb, hml, hown, hg⟩ (k_X8_set_46 l D y aS H.size h2 0 h7 wp30264 (vp_updL wf30265 ((0 : Int32).toNatClampNeg) 0)) (cwV 2 hg ggV_RX5_29_X8_set rfl rfl rfl (by decide +kernel) ⟨Nat.le_of_ble_eq_true rfl, Nat.le_of_ble_eq_true rfl⟩) (g_preV (q := (RX8, TX8, 2)) hK hP hD [4, 5] rfl (by decide) (ci := 8) (q0 := 4) rfl rfl) rfl rfl hl.1 rfl (lv_room (Nat.le_of_ble_eq_true rfl)) dX5_findOut_30 ⟨Nat.le_of_ble_eq_true rfl, Nat.le_of_ble_eq_true rfl⟩) hP hD hS hA [4, 5] [0, 1, 2, 3] rfl rfl (by decide) (by decide) ?_
  clear hP hD hS H locs
  refine fun u H locs hq hP hD hS => ?_
  replace hP : va_P D vwCl [(h0, .inr (5, [.ref h1, .ref h2, .ref h3, .ref h4, .int 2])), (h1, .inr (8, [.ref h6, .int 2])), (h4, .inr (8, [.ref h10, .int wp30266])), (h10, .inl (y 1, 3, .inr (.inl (fun _ => 0)))), (h2, .inr (8, [.ref h7, .int wp30264])), (h7, .inl (y 1, 200, .inr (.inl (vp_updL (vp_updL wf30265 ((0 : Int32).toNatClampNeg) 0) ((1 : Int32).toNatClampNeg) 0))))] H := hP
  replace hD : va_D A [(h0, .inr (5, [.ref h1, .ref h2, .ref h3, .ref h4, .int 2])), (h1, .inr (8, [.ref h6, .int 2])), (h4, .inr (8, [.ref h10, .int wp30266])), (h10, .inl (y 1, 3, .inr (.inl (fun _ => 0)))), (h2, .inr (8, [.ref h7, .int wp30264])), (h7, .inl (y 1, 200, .inr (.inl (vp_updL (vp_updL wf30265 ((0 : Int32).toNatClampNeg) 0) ((1 : Int32).toNatClampNeg) 0))))] := hD
  refine lv_iinc (v := 2) (lv' := [(1, .int 2), (0, .ref h0)]) hx hb dX5_findOut_33 hl (k := 0) rfl (by decide +kernel) (by decide) rfl ?_
  clear hl
  clear ls
  intro ls hl
  refine lv_goto (tgt := 13) hx hb dX5_findOut_36 (by decide) ?_
  refine lv_iload_n hx hb dX5_findOut_13 rfl (lv_at hl 0 rfl) ?_
  refine lv_aload_n hx hb dX5_findOut_14 rfl (lv_at hl 1 rfl) ?_
  refine gm_get (D := D) (ci := 5) (v := .ref h1) (C := RX5) (T := TX5) (N := 5) hx hb hg inlX5 hown hK.1 hP 0 rfl rfl 0 (by decide) tX5_0 (hg _ gw_138) rfl dX5_findOut_15 ?_
  refine gm_get (D := D) (ci := 8) (v := .int 2) (C := RX8) (T := TX8) (N := 2) hx hb hg inlX8 hown hK.1 hP 1 rfl rfl 1 (by decide) tX8_1 (hg _ gw_1441) rfl dX5_findOut_18 ?_
  refine lv_icmp_ge (tgt := 39) hx hb dX5_findOut_21 (by decide) (fun _ => ?_) (fun c9 => absurd c9 (by decide +kernel))
  refine lv_iconst (v := 0) hx hb dX5_findOut_39 (by decide) ?_
  refine lv_istore_n (lv' := [(1, .int 0), (0, .ref h0)]) hx hb dX5_findOut_40 rfl hl (by decide) rfl ?_
  clear hl
  clear ls
  intro ls hl
  refine lv_iload_n hx hb dX5_findOut_41 rfl (lv_at hl 0 rfl) ?_
  refine lv_aload_n hx hb dX5_findOut_42 rfl (lv_at hl 1 rfl) ?_
  refine gm_get (D := D) (ci := 5) (v := .ref h1) (C := RX5) (T := TX5) (N := 5) hx hb hg inlX5 hown hK.1 hP 0 rfl rfl 0 (by decide) tX5_0 (hg _ gw_138) rfl dX5_findOut_43 ?_
  refine gm_get (D := D) (ci := 8) (v := .int 2) (C := RX8) (T := TX8) (N := 2) hx hb hg inlX8 hown hK.1 hP 1 rfl rfl 1 (by decide) tX8_1 (hg _ gw_1441) rfl dX5_findOut_46 ?_
  refine lv_icmp_ge (tgt := 77) hx hb dX5_findOut_49 (by decide) (fun c9 => absurd c9 (by decide +kernel)) (fun _ => ?_)
  refine lv_iconst (v := 0) hx hb dX5_findOut_52 (by decide) ?_
  refine lv_istore_n (lv' := [(2, .int 0), (1, .int 0), (0, .ref h0)]) hx hb dX5_findOut_53 rfl hl (by decide) rfl ?_
  clear hl
  clear ls
  intro ls hl
  refine lv_iload_n hx hb dX5_findOut_54 rfl (lv_at hl 0 rfl) ?_
  refine lv_iconst (v := 3) hx hb dX5_findOut_55 (by decide) ?_
  refine lv_icmp_ge (tgt := 71) hx hb dX5_findOut_56 (by decide) (fun c9 => absurd c9 (by decide +kernel)) (fun _ => ?_)
  refine lv_aload_n hx hb dX5_findOut_59 rfl (lv_at hl 2 rfl) ?_
  refine lv_iload_n hx hb dX5_findOut_60 rfl (lv_at hl 0 rfl) ?_
  refine lv_iload_n hx hb dX5_findOut_61 rfl (lv_at hl 1 rfl) ?_
  refine g_av (wr := [(h1, .inr (8, [.ref h6, .int 2])), (h2, .inr (8, [.ref h7, .int wp30264])), (h7, .inl (y 1, 200, .inr (.inl (vp_updL (vp_updL wf30265 ((0 : Int32).toNatClampNeg) 0) ((1 : Int32).toNatClampNeg) 0))))]) (va_runV (As := [.int 0, .int 0]) (rest := []) ⟨hx, hb, hml, hown, hg⟩ (k_X5_find_0 l D y aS H.size h0 h1 h2 h3 h4 2 h10 wp30266) (cwV 2 hg ggV_RX5_54_X5_find rfl rfl rfl (by decide +kernel) ⟨Nat.le_of_ble_eq_true rfl, Nat.le_of_ble_eq_true rfl⟩) (g_preV (q := (RX5, TX5, 5)) hK hP hD [0, 2, 3] rfl (by decide) (ci := 5) (q0 := 0) rfl rfl) rfl rfl hl.1 rfl (lv_room (Nat.le_of_ble_eq_true rfl)) dX5_findOut_62 ⟨Nat.le_of_ble_eq_true rfl, Nat.le_of_ble_eq_true rfl⟩) hP hD hS hA [0, 2, 3] [1, 4, 5] rfl rfl (by decide) (by decide) ?_
  clear hP hD hS H locs
  refine fun u H locs hq hP hD hS => ?_
  replace hP : va_P D vwCl [(h1, .inr (8, [.ref h6, .int 2])), (h2, .inr (8, [.ref h7, .int wp30264])), (h7, .inl (y 1, 200, .inr (.inl (vp_updL (vp_updL wf30265 ((0 : Int32).toNatClampNeg) 0) ((1 : Int32).toNatClampNeg) 0)))), (h0, .inr (5, [.ref h1, .ref h2, .ref h3, .ref h4, .int 2])), (h4, .inr (8, [.ref h10, .int wp30266])), (h10, .inl (y 1, 3, .inr (.inl (fun _ => 0))))] H := hP
  replace hD : va_D A [(h1, .inr (8, [.ref h6, .int 2])), (h2, .inr (8, [.ref h7, .int wp30264])), (h7, .inl (y 1, 200, .inr (.inl (vp_updL (vp_updL wf30265 ((0 : Int32).toNatClampNeg) 0) ((1 : Int32).toNatClampNeg) 0)))), (h0, .inr (5, [.ref h1, .ref h2, .ref h3, .ref h4, .int 2])), (h4, .inr (8, [.ref h10, .int wp30266])), (h10, .inl (y 1, 3, .inr (.inl (fun _ => 0))))] := hD
  refine lv_iinc (v := 1) (lv' := [(2, .int 1), (1, .int 0), (0, .ref h0)]) hx hb dX5_findOut_65 hl (k := 0) rfl (by decide +kernel) (by decide) rfl ?_
  clear hl
  clear ls
  intro ls hl
  refine lv_goto (tgt := 54) hx hb dX5_findOut_68 (by decide) ?_
  refine lv_iload_n hx hb dX5_findOut_54 rfl (lv_at hl 0 rfl) ?_
  refine lv_iconst (v := 3) hx hb dX5_findOut_55 (by decide) ?_
  refine lv_icmp_ge (tgt := 71) hx hb dX5_findOut_56 (by decide) (fun c9 => absurd c9 (by decide +kernel)) (fun _ => ?_)
  refine lv_aload_n hx hb dX5_findOut_59 rfl (lv_at hl 2 rfl) ?_
  refine lv_iload_n hx hb dX5_findOut_60 rfl (lv_at hl 0 rfl) ?_
  refine lv_iload_n hx hb dX5_findOut_61 rfl (lv_at hl 1 rfl) ?_
  refine g_av (wr := [(h1, .inr (8, [.ref h6, .int 2])), (h2, .inr (8, [.ref h7, .int wp30264])), (h7, .inl (y 1, 200, .inr (.inl (vp_updL (vp_updL wf30265 ((0 : Int32).toNatClampNeg) 0) ((1 : Int32).toNatClampNeg) 0))))]) (va_runV (As := [.int 1, .int 0]) (rest := []) ⟨hx, hb, hml, hown, hg⟩ (k_X5_find_1 l D y aS H.size h0 h1 h2 h3 h4 2 h10 wp30266) (cwV 2 hg ggV_RX5_54_X5_find rfl rfl rfl (by decide +kernel) ⟨Nat.le_of_ble_eq_true rfl, Nat.le_of_ble_eq_true rfl⟩) (g_preV (q := (RX5, TX5, 5)) hK hP hD [3, 4, 5] rfl (by decide) (ci := 5) (q0 := 3) rfl rfl) rfl rfl hl.1 rfl (lv_room (Nat.le_of_ble_eq_true rfl)) dX5_findOut_62 ⟨Nat.le_of_ble_eq_true rfl, Nat.le_of_ble_eq_true rfl⟩) hP hD hS hA [3, 4, 5] [0, 1, 2] rfl rfl (by decide) (by decide) ?_
  clear hP hD hS H locs
  refine fun u H locs hq hP hD hS => ?_
  replace hP : va_P D vwCl [(h1, .inr (8, [.ref h6, .int 2])), (h2, .inr (8, [.ref h7, .int wp30264])), (h7, .inl (y 1, 200, .inr (.inl (vp_updL (vp_updL wf30265 ((0 : Int32).toNatClampNeg) 0) ((1 : Int32).toNatClampNeg) 0)))), (h0, .inr (5, [.ref h1, .ref h2, .ref h3, .ref h4, .int 2])), (h4, .inr (8, [.ref h10, .int wp30266])), (h10, .inl (y 1, 3, .inr (.inl (fun _ => 0))))] H := hP
  replace hD : va_D A [(h1, .inr (8, [.ref h6, .int 2])), (h2, .inr (8, [.ref h7, .int wp30264])), (h7, .inl (y 1, 200, .inr (.inl (vp_updL (vp_updL wf30265 ((0 : Int32).toNatClampNeg) 0) ((1 : Int32).toNatClampNeg) 0)))), (h0, .inr (5, [.ref h1, .ref h2, .ref h3, .ref h4, .int 2])), (h4, .inr (8, [.ref h10, .int wp30266])), (h10, .inl (y 1, 3, .inr (.inl (fun _ => 0))))] := hD
  refine lv_iinc (v := 2) (lv' := [(2, .int 2), (1, .int 0), (0, .ref h0)]) hx hb dX5_findOut_65 hl (k := 0) rfl (by decide +kernel) (by decide) rfl ?_
  clear hl
  clear ls
  intro ls hl
  refine lv_goto (tgt := 54) hx hb dX5_findOut_68 (by decide) ?_
  refine lv_iload_n hx hb dX5_findOut_54 rfl (lv_at hl 0 rfl) ?_
  refine lv_iconst (v := 3) hx hb dX5_findOut_55 (by decide) ?_
  refine lv_icmp_ge (tgt := 71) hx hb dX5_findOut_56 (by decide) (fun c9 => absurd c9 (by decide +kernel)) (fun _ => ?_)
  refine lv_aload_n hx hb dX5_findOut_59 rfl (lv_at hl 2 rfl) ?_
  refine lv_iload_n hx hb dX5_findOut_60 rfl (lv_at hl 0 rfl) ?_
  refine lv_iload_n hx hb dX5_findOut_61 rfl (lv_at hl 1 rfl) ?_
  refine g_av (wr := [(h1, .inr (8, [.ref h6, .int 2])), (h2, .inr (8, [.ref h7, .int wp30264])), (h7, .inl (y 1, 200, .inr (.inl (vp_updL (vp_updL wf30265 ((0 : Int32).toNatClampNeg) 0) ((1 : Int32).toNatClampNeg) 0))))]) (va_runV (As := [.int 2, .int 0]) (rest := []) ⟨hx, hb, hml, hown, hg⟩ (k_X5_find_2 l D y aS H.size h0 h1 h2 h3 h4 2 h10 wp30266) (cwV 2 hg ggV_RX5_54_X5_find rfl rfl rfl (by decide +kernel) ⟨Nat.le_of_ble_eq_true rfl, Nat.le_of_ble_eq_true rfl⟩) (g_preV (q := (RX5, TX5, 5)) hK hP hD [3, 4, 5] rfl (by decide) (ci := 5) (q0 := 3) rfl rfl) rfl rfl hl.1 rfl (lv_room (Nat.le_of_ble_eq_true rfl)) dX5_findOut_62 ⟨Nat.le_of_ble_eq_true rfl, Nat.le_of_ble_eq_true rfl⟩) hP hD hS hA [3, 4, 5] [0, 1, 2] rfl rfl (by decide) (by decide) ?_
  clear hP hD hS H locs
  refine fun u H locs hq hP hD hS => ?_
  replace hP : va_P D vwCl [(h1, .inr (8, [.ref h6, .int 2])), (h2, .inr (8, [.ref h7, .int wp30264])), (h7, .inl (y 1, 200, .inr (.inl (vp_updL (vp_updL wf30265 ((0 : Int32).toNatClampNeg) 0) ((1 : Int32).toNatClampNeg) 0)))), (h0, .inr (5, [.ref h1, .ref h2, .ref h3, .ref h4, .int 2])), (h4, .inr (8, [.ref h10, .int wp30266])), (h10, .inl (y 1, 3, .inr (.inl (fun _ => 0))))] H := hP
  replace hD : va_D A [(h1, .inr (8, [.ref h6, .int 2])), (h2, .inr (8, [.ref h7, .int wp30264])), (h7, .inl (y 1, 200, .inr (.inl (vp_updL (vp_updL wf30265 ((0 : Int32).toNatClampNeg) 0) ((1 : Int32).toNatClampNeg) 0)))), (h0, .inr (5, [.ref h1, .ref h2, .ref h3, .ref h4, .int 2])), (h4, .inr (8, [.ref h10, .int wp30266])), (h10, .inl (y 1, 3, .inr (.inl (fun _ => 0))))] := hD
  refine lv_iinc (v := 3) (lv' := [(2, .int 3), (1, .int 0), (0, .ref h0)]) hx hb dX5_findOut_65 hl (k := 0) rfl (by decide +kernel) (by decide) rfl ?_
  clear hl
  clear ls
  intro ls hl
  refine lv_goto (tgt := 54) hx hb dX5_findOut_68 (by decide) ?_
  refine lv_iload_n hx hb dX5_findOut_54 rfl (lv_at hl 0 rfl) ?_
  refine lv_iconst (v := 3) hx hb dX5_findOut_55 (by decide) ?_
  refine lv_icmp_ge (tgt := 71) hx hb dX5_findOut_56 (by decide) (fun _ => ?_) (fun c9 => absurd c9 (by decide +kernel))
  refine lv_iinc (v := 1) (lv' := [(1, .int 1), (2, .int 3), (0, .ref h0)]) hx hb dX5_findOut_71 hl (k := 1) rfl (by decide +kernel) (by decide) rfl ?_
  clear hl
  clear ls
  intro ls hl
  refine lv_goto (tgt := 41) hx hb dX5_findOut_74 (by decide) ?_
  refine lv_iload_n hx hb dX5_findOut_41 rfl (lv_at hl 0 rfl) ?_
  refine lv_aload_n hx hb dX5_findOut_42 rfl (lv_at hl 2 rfl) ?_
  refine gm_get (D := D) (ci := 5) (v := .ref h1) (C := RX5) (T := TX5) (N := 5) hx hb hg inlX5 hown hK.1 hP 3 rfl rfl 0 (by decide) tX5_0 (hg _ gw_138) rfl dX5_findOut_43 ?_
  refine gm_get (D := D) (ci := 8) (v := .int 2) (C := RX8) (T := TX8) (N := 2) hx hb hg inlX8 hown hK.1 hP 0 rfl rfl 1 (by decide) tX8_1 (hg _ gw_1441) rfl dX5_findOut_46 ?_
  refine lv_icmp_ge (tgt := 77) hx hb dX5_findOut_49 (by decide) (fun c9 => absurd c9 (by decide +kernel)) (fun _ => ?_)
  refine lv_iconst (v := 0) hx hb dX5_findOut_52 (by decide) ?_
  refine lv_istore_n (lv' := [(2, .int 0), (1, .int 1), (0, .ref h0)]) hx hb dX5_findOut_53 rfl hl (by decide) rfl ?_
  clear hl
  clear ls
  intro ls hl
  refine lv_iload_n hx hb dX5_findOut_54 rfl (lv_at hl 0 rfl) ?_
  refine lv_iconst (v := 3) hx hb dX5_findOut_55 (by decide) ?_
  refine lv_icmp_ge (tgt := 71) hx hb dX5_findOut_56 (by decide) (fun c9 => absurd c9 (by decide +kernel)) (fun _ => ?_)
  refine lv_aload_n hx hb dX5_findOut_59 rfl (lv_at hl 2 rfl) ?_
  refine lv_iload_n hx hb dX5_findOut_60 rfl (lv_at hl 0 rfl) ?_
  refine lv_iload_n hx hb dX5_findOut_61 rfl (lv_at hl 1 rfl) ?_
  refine g_av (wr := [(h1, .inr (8, [.ref h6, .int 2])), (h2, .inr (8, [.ref h7, .int wp30264])), (h7, .inl (y 1, 200, .inr (.inl (vp_updL (vp_updL wf30265 ((0 : Int32).toNatClampNeg) 0) ((1 : Int32).toNatClampNeg) 0))))]) (va_runV (As := [.int 0, .int 1]) (rest := []) ⟨hx, hb, hml, hown, hg⟩ (k_X5_find_3 l D y aS H.size h0 h1 h2 h3 h4 2 h10 wp30266) (cwV 2 hg ggV_RX5_54_X5_find rfl rfl rfl (by decide +kernel) ⟨Nat.le_of_ble_eq_true rfl, Nat.le_of_ble_eq_true rfl⟩) (g_preV (q := (RX5, TX5, 5)) hK hP hD [3, 4, 5] rfl (by decide) (ci := 5) (q0 := 3) rfl rfl) rfl rfl hl.1 rfl (lv_room (Nat.le_of_ble_eq_true rfl)) dX5_findOut_62 ⟨Nat.le_of_ble_eq_true rfl, Nat.le_of_ble_eq_true rfl⟩) hP hD hS hA [3, 4, 5] [0, 1, 2] rfl rfl (by decide) (by decide) ?_
  clear hP hD hS H locs
  refine fun u H locs hq hP hD hS => ?_
  replace hP : va_P D vwCl [(h1, .inr (8, [.ref h6, .int 2])), (h2, .inr (8, [.ref h7, .int wp30264])), (h7, .inl (y 1, 200, .inr (.inl (vp_updL (vp_updL wf30265 ((0 : Int32).toNatClampNeg) 0) ((1 : Int32).toNatClampNeg) 0)))), (h0, .inr (5, [.ref h1, .ref h2, .ref h3, .ref h4, .int 2])), (h4, .inr (8, [.ref h10, .int wp30266])), (h10, .inl (y 1, 3, .inr (.inl (fun _ => 0))))] H := hP
  replace hD : va_D A [(h1, .inr (8, [.ref h6, .int 2])), (h2, .inr (8, [.ref h7, .int wp30264])), (h7, .inl (y 1, 200, .inr (.inl (vp_updL (vp_updL wf30265 ((0 : Int32).toNatClampNeg) 0) ((1 : Int32).toNatClampNeg) 0)))), (h0, .inr (5, [.ref h1, .ref h2, .ref h3, .ref h4, .int 2])), (h4, .inr (8, [.ref h10, .int wp30266])), (h10, .inl (y 1, 3, .inr (.inl (fun _ => 0))))] := hD
  refine lv_iinc (v := 1) (lv' := [(2, .int 1), (1, .int 1), (0, .ref h0)]) hx hb dX5_findOut_65 hl (k := 0) rfl (by decide +kernel) (by decide) rfl ?_
  clear hl
  clear ls
  intro ls hl
  refine lv_goto (tgt := 54) hx hb dX5_findOut_68 (by decide) ?_
  refine lv_iload_n hx hb dX5_findOut_54 rfl (lv_at hl 0 rfl) ?_
  refine lv_iconst (v := 3) hx hb dX5_findOut_55 (by decide) ?_
  refine lv_icmp_ge (tgt := 71) hx hb dX5_findOut_56 (by decide) (fun c9 => absurd c9 (by decide +kernel)) (fun _ => ?_)
  refine lv_aload_n hx hb dX5_findOut_59 rfl (lv_at hl 2 rfl) ?_
  refine lv_iload_n hx hb dX5_findOut_60 rfl (lv_at hl 0 rfl) ?_
  refine lv_iload_n hx hb dX5_findOut_61 rfl (lv_at hl 1 rfl) ?_
  refine g_av (wr := [(h1, .inr (8, [.ref h6, .int 2])), (h2, .inr (8, [.ref h7, .int wp30264])), (h7, .inl (y 1, 200, .inr (.inl (vp_updL (vp_updL wf30265 ((0 : Int32).toNatClampNeg) 0) ((1 : Int32).toNatClampNeg) 0))))]) (va_runV (As := [.int 1, .int 1]) (rest := []) ⟨hx, hb, hml, hown, hg⟩ (k_X5_find_4 l D y aS H.size h0 h1 h2 h3 h4 2 h10 wp30266) (cwV 2 hg ggV_RX5_54_X5_find rfl rfl rfl (by decide +kernel) ⟨Nat.le_of_ble_eq_true rfl, Nat.le_of_ble_eq_true rfl⟩) (g_preV (q := (RX5, TX5, 5)) hK hP hD [3, 4, 5] rfl (by decide) (ci := 5) (q0 := 3) rfl rfl) rfl rfl hl.1 rfl (lv_room (Nat.le_of_ble_eq_true rfl)) dX5_findOut_62 ⟨Nat.le_of_ble_eq_true rfl, Nat.le_of_ble_eq_true rfl⟩) hP hD hS hA [3, 4, 5] [0, 1, 2] rfl rfl (by decide) (by decide) ?_
  clear hP hD hS H locs
  refine fun u H locs hq hP hD hS => ?_
  replace hP : va_P D vwCl [(h1, .inr (8, [.ref h6, .int 2])), (h2, .inr (8, [.ref h7, .int wp30264])), (h7, .inl (y 1, 200, .inr (.inl (vp_updL (vp_updL wf30265 ((0 : Int32).toNatClampNeg) 0) ((1 : Int32).toNatClampNeg) 0)))), (h0, .inr (5, [.ref h1, .ref h2, .ref h3, .ref h4, .int 2])), (h4, .inr (8, [.ref h10, .int wp30266])), (h10, .inl (y 1, 3, .inr (.inl (fun _ => 0))))] H := hP
  replace hD : va_D A [(h1, .inr (8, [.ref h6, .int 2])), (h2, .inr (8, [.ref h7, .int wp30264])), (h7, .inl (y 1, 200, .inr (.inl (vp_updL (vp_updL wf30265 ((0 : Int32).toNatClampNeg) 0) ((1 : Int32).toNatClampNeg) 0)))), (h0, .inr (5, [.ref h1, .ref h2, .ref h3, .ref h4, .int 2])), (h4, .inr (8, [.ref h10, .int wp30266])), (h10, .inl (y 1, 3, .inr (.inl (fun _ => 0))))] := hD
  refine lv_iinc (v := 2) (lv' := [(2, .int 2), (1, .int 1), (0, .ref h0)]) hx hb dX5_findOut_65 hl (k := 0) rfl (by decide +kernel) (by decide) rfl ?_
  clear hl
  clear ls
  intro ls hl
  refine lv_goto (tgt := 54) hx hb dX5_findOut_68 (by decide) ?_
  refine lv_iload_n hx hb dX5_findOut_54 rfl (lv_at hl 0 rfl) ?_
  refine lv_iconst (v := 3) hx hb dX5_findOut_55 (by decide) ?_
  refine lv_icmp_ge (tgt := 71) hx hb dX5_findOut_56 (by decide) (fun c9 => absurd c9 (by decide +kernel)) (fun _ => ?_)
  refine lv_aload_n hx hb dX5_findOut_59 rfl (lv_at hl 2 rfl) ?_
  refine lv_iload_n hx hb dX5_findOut_60 rfl (lv_at hl 0 rfl) ?_
  refine lv_iload_n hx hb dX5_findOut_61 rfl (lv_at hl 1 rfl) ?_
  refine g_av (wr := [(h1, .inr (8, [.ref h6, .int 2])), (h2, .inr (8, [.ref h7, .int wp30264])), (h7, .inl (y 1, 200, .inr (.inl (vp_updL (vp_updL wf30265 ((0 : Int32).toNatClampNeg) 0) ((1 : Int32).toNatClampNeg) 0))))]) (va_runV (As := [.int 2, .int 1]) (rest := []) ⟨hx, hb, hml, hown, hg⟩ (k_X5_find_5 l D y aS H.size h0 h1 h2 h3 h4 2 h10 wp30266) (cwV 2 hg ggV_RX5_54_X5_find rfl rfl rfl (by decide +kernel) ⟨Nat.le_of_ble_eq_true rfl, Nat.le_of_ble_eq_true rfl⟩) (g_preV (q := (RX5, TX5, 5)) hK hP hD [3, 4, 5] rfl (by decide) (ci := 5) (q0 := 3) rfl rfl) rfl rfl hl.1 rfl (lv_room (Nat.le_of_ble_eq_true rfl)) dX5_findOut_62 ⟨Nat.le_of_ble_eq_true rfl, Nat.le_of_ble_eq_true rfl⟩) hP hD hS hA [3, 4, 5] [0, 1, 2] rfl rfl (by decide) (by decide) ?_
  clear hP hD hS H locs
  refine fun u H locs hq hP hD hS => ?_
  replace hP : va_P D vwCl [(h1, .inr (8, [.ref h6, .int 2])), (h2, .inr (8, [.ref h7, .int wp30264])), (h7, .inl (y 1, 200, .inr (.inl (vp_updL (vp_updL wf30265 ((0 : Int32).toNatClampNeg) 0) ((1 : Int32).toNatClampNeg) 0)))), (h0, .inr (5, [.ref h1, .ref h2, .ref h3, .ref h4, .int 2])), (h4, .inr (8, [.ref h10, .int wp30266])), (h10, .inl (y 1, 3, .inr (.inl (fun _ => 0))))] H := hP
  replace hD : va_D A [(h1, .inr (8, [.ref h6, .int 2])), (h2, .inr (8, [.ref h7, .int wp30264])), (h7, .inl (y 1, 200, .inr (.inl (vp_updL (vp_updL wf30265 ((0 : Int32).toNatClampNeg) 0) ((1 : Int32).toNatClampNeg) 0)))), (h0, .inr (5, [.ref h1, .ref h2, .ref h3, .ref h4, .int 2])), (h4, .inr (8, [.ref h10, .int wp30266])), (h10, .inl (y 1, 3, .inr (.inl (fun _ => 0))))] := hD
  refine lv_iinc (v := 3) (lv' := [(2, .int 3), (1, .int 1), (0, .ref h0)]) hx hb dX5_findOut_65 hl (k := 0) rfl (by decide +kernel) (by decide) rfl ?_
  clear hl
  clear ls
  intro ls hl
  refine lv_goto (tgt := 54) hx hb dX5_findOut_68 (by decide) ?_
  refine lv_iload_n hx hb dX5_findOut_54 rfl (lv_at hl 0 rfl) ?_
  refine lv_iconst (v := 3) hx hb dX5_findOut_55 (by decide) ?_
  refine lv_icmp_ge (tgt := 71) hx hb dX5_findOut_56 (by decide) (fun _ => ?_) (fun c9 => absurd c9 (by decide +kernel))
  refine lv_iinc (v := 2) (lv' := [(1, .int 2), (2, .int 3), (0, .ref h0)]) hx hb dX5_findOut_71 hl (k := 1) rfl (by decide +kernel) (by decide) rfl ?_
  clear hl
  clear ls
  intro ls hl
  refine lv_goto (tgt := 41) hx hb dX5_findOut_74 (by decide) ?_
  refine lv_iload_n hx hb dX5_findOut_41 rfl (lv_at hl 0 rfl) ?_
  refine lv_aload_n hx hb dX5_findOut_42 rfl (lv_at hl 2 rfl) ?_
  refine gm_get (D := D) (ci := 5) (v := .ref h1) (C := RX5) (T := TX5) (N := 5) hx hb hg inlX5 hown hK.1 hP 3 rfl rfl 0 (by decide) tX5_0 (hg _ gw_138) rfl dX5_findOut_43 ?_
  refine gm_get (D := D) (ci := 8) (v := .int 2) (C := RX8) (T := TX8) (N := 2) hx hb hg inlX8 hown hK.1 hP 0 rfl rfl 1 (by decide) tX8_1 (hg _ gw_1441) rfl dX5_findOut_46 ?_
  refine lv_icmp_ge (tgt := 77) hx hb dX5_findOut_49 (by decide) (fun _ => ?_) (fun c9 => absurd c9 (by decide +kernel))
  exact g_vret hx hb hr hlocks () (hP.sub [3, 0, 1, 2, 4, 5] rfl) (hD.sub [3, 0, 1, 2, 4, 5] (by decide +kernel) rfl) hS trivial (Nat.le_of_ble_eq_true rfl) (Nat.le_of_ble_eq_true rfl) dX5_findOut_77
set_option maxRecDepth 100000 in
set_option maxHeartbeats 4000000 in
theorem k_X5_append_1 (l : Launch) (D : va_G) (y : Nat → ClassId) (aS : Nat → Nat) (sz : Nat) (h0 : Nat) (p1 : Int32) (h2 : Nat) (h3 : Nat) (h4 : Nat) (h5 : Nat) (h6 : Nat) (wf30276 : Nat → Int64) (h8 : Nat) (wp30277 : Int32) (wf30278 : Nat → Int64) (h11 : Nat) (wp30279 : Int32) : Met l yX5_append (Cond.code yX5_append cX5_append 6 (some .int) :: wsL_law) ({ frames := 3, cells := 0, slots := 0, locals := 68 } : Room) (va_Pc [.ref h0, .int p1, .int 2] (gI D y aS [(h0, .inr (5, [.ref h2, .ref h3, .ref h4, .ref h5, .int 0])), (h2, .inr (8, [.ref h6, .int 0])), (h6, .inl (y 1, 200, .inr (.inl wf30276))), (h3, .inr (8, [.ref h8, .int wp30277])), (h8, .inl (y 1, 200, .inr (.inl wf30278))), (h5, .inr (8, [.ref h11, .int wp30279])), (h11, .inl (y 1, 3, .inr (.inl (fun _ => 0))))] sz)) (va_Qi (fun (r : Int32) (u : Unit) => 2 = r) (fun u => gO D (va_A [(h0, .inr (5, [.ref h2, .ref h3, .ref h4, .ref h5, .int 0])), (h2, .inr (8, [.ref h6, .int 0])), (h6, .inl (y 1, 200, .inr (.inl wf30276))), (h3, .inr (8, [.ref h8, .int wp30277])), (h8, .inl (y 1, 200, .inr (.inl wf30278))), (h5, .inr (8, [.ref h11, .int wp30279])), (h11, .inl (y 1, 3, .inr (.inl (fun _ => 0))))] sz) [(h0, .inr (5, [.ref h2, .ref h3, .ref h4, .ref h5, .int 2])), (h2, .inr (8, [.ref h6, .int 2])), (h6, .inl (y 1, 200, .inr (.inl (vp_updL (vp_updL (vp_updL (vp_updL wf30276 ((0 : Int32).toNatClampNeg) 0) ((1 : Int32).toNatClampNeg) 0) ((1 : Int32).toNatClampNeg) ((p1 - p1 / 10 * 10).toInt64)) ((0 : Int32).toNatClampNeg) (((p1 / 10) - (p1 / 10) / 10 * 10).toInt64))))), (h3, .inr (8, [.ref h8, .int wp30277])), (h8, .inl (y 1, 200, .inr (.inl (vp_updL (vp_updL wf30278 ((0 : Int32).toNatClampNeg) 0) ((1 : Int32).toNatClampNeg) 0)))), (h5, .inr (8, [.ref h11, .int wp30279])), (h11, .inl (y 1, 3, .inr (.inl (fun _ => 0))))]) (va_A [(h0, .inr (5, [.ref h2, .ref h3, .ref h4, .ref h5, .int 0])), (h2, .inr (8, [.ref h6, .int 0])), (h6, .inl (y 1, 200, .inr (.inl wf30276))), (h3, .inr (8, [.ref h8, .int wp30277])), (h8, .inl (y 1, 200, .inr (.inl wf30278))), (h5, .inr (8, [.ref h11, .int wp30279])), (h11, .inl (y 1, 3, .inr (.inl (fun _ => 0))))] sz)) 0 0 (va_A [(h0, .inr (5, [.ref h2, .ref h3, .ref h4, .ref h5, .int 0])), (h2, .inr (8, [.ref h6, .int 0])), (h6, .inl (y 1, 200, .inr (.inl wf30276))), (h3, .inr (8, [.ref h8, .int wp30277])), (h8, .inl (y 1, 200, .inr (.inl wf30278))), (h5, .inr (8, [.ref h11, .int wp30279])), (h11, .inl (y 1, 3, .inr (.inl (fun _ => 0))))] sz) := by
  refine g_of (by decide) (Nat.le_of_ble_eq_true rfl) ?_
  intro p e s m below meth c ls A hx hb hr hml hown hg hlocks hin hsz hK hP hD hS hA hAe hl
  rw [← hAe]
  replace hown : s.vm.findClass RX5 = some m.cls := hown
  replace hl : lv_has ls 6 [(0, .ref h0), (1, .int p1), (2, .int 2)] := hl
  refine lv_aload_n hx hb dX5_append_0 rfl (lv_at hl 0 rfl) ?_
  refine gm_get (D := D) (ci := 5) (v := .ref h2) (C := RX5) (T := TX5) (N := 5) hx hb hg inlX5 hown hK.1 hP 0 rfl rfl 0 (by decide) tX5_0 (hg _ gw_138) rfl dX5_append_1 ?_
  refine gm_get (D := D) (ci := 8) (v := .int 0) (C := RX8) (T := TX8) (N := 2) hx hb hg inlX8 hown hK.1 hP 1 rfl rfl 1 (by decide) tX8_1 (hg _ gw_1441) rfl dX5_append_4 ?_
  refine lv_istore_n (lv' := [(3, .int 0), (0, .ref h0), (1, .int p1), (2, .int 2)]) hx hb dX5_append_7 rfl hl (by decide) rfl ?_
  clear hl
  clear ls
  intro ls hl
  refine lv_aload_n hx hb dX5_append_8 rfl (lv_at hl 1 rfl) ?_
  refine gm_get (D := D) (ci := 5) (v := .ref h2) (C := RX5) (T := TX5) (N := 5) hx hb hg inlX5 hown hK.1 hP 0 rfl rfl 0 (by decide) tX5_0 (hg _ gw_138) rfl dX5_append_9 ?_
  refine lv_iload_n hx hb dX5_append_12 rfl (lv_at hl 3 rfl) ?_
  refine lv_lconst (v := 0) hx hb dX5_append_13 (by decide) ?_
  refine g_av (wr := [(h0, .inr (5, [.ref h2, .ref h3, .ref h4, .ref h5, .int 0])), (h3, .inr (8, [.ref h8, .int wp30277])), (h8, .inl (y 1, 200, .inr (.inl wf30278))), (h5, .inr (8, [.ref h11, .int wp30279])), (h11, .inl (y 1, 3, .inr (.inl (fun _ => 0))))]) (va_runV (As := [.int 2, .long 0]) (rest := []) ⟨hx, hb, hml, hown, hg⟩ (k_X8_addMany_5 l D y aS s.heap.size h2 h6 wf30276) (cwV 2 hg ggV_RX5_44_X8_addMany rfl rfl rfl (by decide +kernel) ⟨Nat.le_of_ble_eq_true rfl, Nat.le_of_ble_eq_true rfl⟩) (g_preV (q := (RX8, TX8, 2)) hK hP hD [1, 2] rfl (by decide) (ci := 8) (q0 := 1) rfl rfl) rfl rfl hl.1 rfl (lv_room (Nat.le_of_ble_eq_true rfl)) dX5_append_14 ⟨Nat.le_of_ble_eq_true rfl, Nat.le_of_ble_eq_true rfl⟩) hP hD hS hA [1, 2] [0, 3, 4, 5, 6] rfl rfl (by decide) (by decide) ?_
  clear hP hD hS
  refine fun u H locs hq hP hD hS => ?_
  replace hP : va_P D vwCl [(h0, .inr (5, [.ref h2, .ref h3, .ref h4, .ref h5, .int 0])), (h3, .inr (8, [.ref h8, .int wp30277])), (h8, .inl (y 1, 200, .inr (.inl wf30278))), (h5, .inr (8, [.ref h11, .int wp30279])), (h11, .inl (y 1, 3, .inr (.inl (fun _ => 0)))), (h2, .inr (8, [.ref h6, .int 2])), (h6, .inl (y 1, 200, .inr (.inl (vp_updL (vp_updL wf30276 ((0 : Int32).toNatClampNeg) 0) ((1 : Int32).toNatClampNeg) 0))))] H := hP
  replace hD : va_D A [(h0, .inr (5, [.ref h2, .ref h3, .ref h4, .ref h5, .int 0])), (h3, .inr (8, [.ref h8, .int wp30277])), (h8, .inl (y 1, 200, .inr (.inl wf30278))), (h5, .inr (8, [.ref h11, .int wp30279])), (h11, .inl (y 1, 3, .inr (.inl (fun _ => 0)))), (h2, .inr (8, [.ref h6, .int 2])), (h6, .inl (y 1, 200, .inr (.inl (vp_updL (vp_updL wf30276 ((0 : Int32).toNatClampNeg) 0) ((1 : Int32).toNatClampNeg) 0))))] := hD
  refine lv_iload_n hx hb dX5_append_17 rfl (lv_at hl 2 rfl) ?_
  refine lv_istore (lv' := [(4, .int p1), (3, .int 0), (0, .ref h0), (1, .int p1), (2, .int 2)]) hx hb dX5_append_18 hl (by decide) rfl ?_
  clear hl
  clear ls
  intro ls hl
  refine lv_iload_n hx hb dX5_append_20 rfl (lv_at hl 1 rfl) ?_
  refine lv_iload_n hx hb dX5_append_21 rfl (lv_at hl 4 rfl) ?_
  refine lv_iadd hx hb dX5_append_22 ?_
  refine g_fi (v := 2) (by decide +kernel) ?_
  refine lv_iconst (v := 1) hx hb dX5_append_23 (by decide) ?_
  refine lv_isub hx hb dX5_append_24 ?_
  refine g_fi (v := 1) (by decide +kernel) ?_
  refine lv_istore (lv' := [(5, .int 1), (4, .int p1), (3, .int 0), (0, .ref h0), (1, .int p1), (2, .int 2)]) hx hb dX5_append_25 hl (by decide) rfl ?_
  clear hl
  clear ls
  intro ls hl
  refine lv_iload hx hb dX5_append_27 (lv_at hl 0 rfl) ?_
  refine lv_iload_n hx hb dX5_append_29 rfl (lv_at hl 2 rfl) ?_
  refine lv_icmp_lt (tgt := 61) hx hb dX5_append_30 (by decide) (fun c9 => absurd c9 (by decide +kernel)) (fun _ => ?_)
  refine lv_aload_n hx hb dX5_append_33 rfl (lv_at hl 3 rfl) ?_
  refine gm_get (D := D) (ci := 5) (v := .ref h2) (C := RX5) (T := TX5) (N := 5) hx hb hg inlX5 hown hK.1 hP 0 rfl rfl 0 (by decide) tX5_0 (hg _ gw_138) rfl dX5_append_34 ?_
  refine lv_iload hx hb dX5_append_37 (lv_at hl 0 rfl) ?_
  refine lv_iload hx hb dX5_append_39 (lv_at hl 1 rfl) ?_
  refine lv_bipush (v := 10) hx hb dX5_append_41 (by decide +kernel) ?_
  refine lv_irem hx hb dX5_append_43 (by decide +kernel) ?_
  refine lv_i2l (v := ((p1 - p1 / 10 * 10).toInt64)) hx hb dX5_append_44 rfl ?_
  refine g_av (wr := [(h0, .inr (5, [.ref h2, .ref h3, .ref h4, .ref h5, .int 0])), (h3, .inr (8, [.ref h8, .int wp30277])), (h8, .inl (y 1, 200, .inr (.inl wf30278))), (h5, .inr (8, [.ref h11, .int wp30279])), (h11, .inl (y 1, 3, .inr (.inl (fun _ => 0))))]) (va_runV (As := [.int 1, .long ((p1 - p1 / 10 * 10).toInt64)]) (rest := []) ⟨hx, hb, hml, hown, hg⟩ (k_X8_set_46 l D y aS H.size h2 ((p1 - p1 / 10 * 10).toInt64) h6 2 (vp_updL (vp_updL wf30276 ((0 : Int32).toNatClampNeg) 0) ((1 : Int32).toNatClampNeg) 0)) (cwV 2 hg ggV_RX5_29_X8_set rfl rfl rfl (by decide +kernel) ⟨Nat.le_of_ble_eq_true rfl, Nat.le_of_ble_eq_true rfl⟩) (g_preV (q := (RX8, TX8, 2)) hK hP hD [5, 6] rfl (by decide) (ci := 8) (q0 := 5) rfl rfl) rfl rfl hl.1 rfl (lv_room (Nat.le_of_ble_eq_true rfl)) dX5_append_45 ⟨Nat.le_of_ble_eq_true rfl, Nat.le_of_ble_eq_true rfl⟩) hP hD hS hA [5, 6] [0, 1, 2, 3, 4] rfl rfl (by decide) (by decide) ?_
  clear hP hD hS H locs
  refine fun u H locs hq hP hD hS => ?_
  replace hP : va_P D vwCl [(h0, .inr (5, [.ref h2, .ref h3, .ref h4, .ref h5, .int 0])), (h3, .inr (8, [.ref h8, .int wp30277])), (h8, .inl (y 1, 200, .inr (.inl wf30278))), (h5, .inr (8, [.ref h11, .int wp30279])), (h11, .inl (y 1, 3, .inr (.inl (fun _ => 0)))), (h2, .inr (8, [.ref h6, .int 2])), (h6, .inl (y 1, 200, .inr (.inl (vp_updL (vp_updL (vp_updL wf30276 ((0 : Int32).toNatClampNeg) 0) ((1 : Int32).toNatClampNeg) 0) ((1 : Int32).toNatClampNeg) ((p1 - p1 / 10 * 10).toInt64)))))] H := hP
  replace hD : va_D A [(h0, .inr (5, [.ref h2, .ref h3, .ref h4, .ref h5, .int 0])), (h3, .inr (8, [.ref h8, .int wp30277])), (h8, .inl (y 1, 200, .inr (.inl wf30278))), (h5, .inr (8, [.ref h11, .int wp30279])), (h11, .inl (y 1, 3, .inr (.inl (fun _ => 0)))), (h2, .inr (8, [.ref h6, .int 2])), (h6, .inl (y 1, 200, .inr (.inl (vp_updL (vp_updL (vp_updL wf30276 ((0 : Int32).toNatClampNeg) 0) ((1 : Int32).toNatClampNeg) 0) ((1 : Int32).toNatClampNeg) ((p1 - p1 / 10 * 10).toInt64)))))] := hD
  refine lv_iload hx hb dX5_append_48 (lv_at hl 1 rfl) ?_
  refine lv_bipush (v := 10) hx hb dX5_append_50 (by decide +kernel) ?_
  refine lv_idiv hx hb dX5_append_52 (by decide +kernel) ?_
  refine lv_istore (lv' := [(4, .int (p1 / 10)), (5, .int 1), (3, .int 0), (0, .ref h0), (1, .int p1), (2, .int 2)]) hx hb dX5_append_53 hl (by decide) rfl ?_
  clear hl
  clear ls
  intro ls hl
  refine lv_iinc (v := 0) (lv' := [(5, .int 0), (4, .int (p1 / 10)), (3, .int 0), (0, .ref h0), (1, .int p1), (2, .int 2)]) hx hb dX5_append_55 hl (k := 1) rfl (by decide +kernel) (by decide) rfl ?_
  clear hl
  clear ls
  intro ls hl
  refine lv_goto (tgt := 27) hx hb dX5_append_58 (by decide) ?_
  refine lv_iload hx hb dX5_append_27 (lv_at hl 0 rfl) ?_
  refine lv_iload_n hx hb dX5_append_29 rfl (lv_at hl 2 rfl) ?_
  refine lv_icmp_lt (tgt := 61) hx hb dX5_append_30 (by decide) (fun c9 => absurd c9 (by decide +kernel)) (fun _ => ?_)
  refine lv_aload_n hx hb dX5_append_33 rfl (lv_at hl 3 rfl) ?_
  refine gm_get (D := D) (ci := 5) (v := .ref h2) (C := RX5) (T := TX5) (N := 5) hx hb hg inlX5 hown hK.1 hP 0 rfl rfl 0 (by decide) tX5_0 (hg _ gw_138) rfl dX5_append_34 ?_
  refine lv_iload hx hb dX5_append_37 (lv_at hl 0 rfl) ?_
  refine lv_iload hx hb dX5_append_39 (lv_at hl 1 rfl) ?_
  refine lv_bipush (v := 10) hx hb dX5_append_41 (by decide +kernel) ?_
  refine lv_irem hx hb dX5_append_43 (by decide +kernel) ?_
  refine lv_i2l (v := (((p1 / 10) - (p1 / 10) / 10 * 10).toInt64)) hx hb dX5_append_44 rfl ?_
  refine g_av (wr := [(h0, .inr (5, [.ref h2, .ref h3, .ref h4, .ref h5, .int 0])), (h3, .inr (8, [.ref h8, .int wp30277])), (h8, .inl (y 1, 200, .inr (.inl wf30278))), (h5, .inr (8, [.ref h11, .int wp30279])), (h11, .inl (y 1, 3, .inr (.inl (fun _ => 0))))]) (va_runV (As := [.int 0, .long (((p1 / 10) - (p1 / 10) / 10 * 10).toInt64)]) (rest := []) ⟨hx, hb, hml, hown, hg⟩ (k_X8_set_45 l D y aS H.size h2 (((p1 / 10) - (p1 / 10) / 10 * 10).toInt64) h6 2 (vp_updL (vp_updL (vp_updL wf30276 ((0 : Int32).toNatClampNeg) 0) ((1 : Int32).toNatClampNeg) 0) ((1 : Int32).toNatClampNeg) ((p1 - p1 / 10 * 10).toInt64))) (cwV 2 hg ggV_RX5_29_X8_set rfl rfl rfl (by decide +kernel) ⟨Nat.le_of_ble_eq_true rfl, Nat.le_of_ble_eq_true rfl⟩) (g_preV (q := (RX8, TX8, 2)) hK hP hD [5, 6] rfl (by decide) (ci := 8) (q0 := 5) rfl rfl) rfl rfl hl.1 rfl (lv_room (Nat.le_of_ble_eq_true rfl)) dX5_append_45 ⟨Nat.le_of_ble_eq_true rfl, Nat.le_of_ble_eq_true rfl⟩) hP hD hS hA [5, 6] [0, 1, 2, 3, 4] rfl rfl (by decide) (by decide) ?_
  clear hP hD hS H locs
  refine fun u H locs hq hP hD hS => ?_
  replace hP : va_P D vwCl [(h0, .inr (5, [.ref h2, .ref h3, .ref h4, .ref h5, .int 0])), (h3, .inr (8, [.ref h8, .int wp30277])), (h8, .inl (y 1, 200, .inr (.inl wf30278))), (h5, .inr (8, [.ref h11, .int wp30279])), (h11, .inl (y 1, 3, .inr (.inl (fun _ => 0)))), (h2, .inr (8, [.ref h6, .int 2])), (h6, .inl (y 1, 200, .inr (.inl (vp_updL (vp_updL (vp_updL (vp_updL wf30276 ((0 : Int32).toNatClampNeg) 0) ((1 : Int32).toNatClampNeg) 0) ((1 : Int32).toNatClampNeg) ((p1 - p1 / 10 * 10).toInt64)) ((0 : Int32).toNatClampNeg) (((p1 / 10) - (p1 / 10) / 10 * 10).toInt64)))))] H := hP
  replace hD : va_D A [(h0, .inr (5, [.ref h2, .ref h3, .ref h4, .ref h5, .int 0])), (h3, .inr (8, [.ref h8, .int wp30277])), (h8, .inl (y 1, 200, .inr (.inl wf30278))), (h5, .inr (8, [.ref h11, .int wp30279])), (h11, .inl (y 1, 3, .inr (.inl (fun _ => 0)))), (h2, .inr (8, [.ref h6, .int 2])), (h6, .inl (y 1, 200, .inr (.inl (vp_updL (vp_updL (vp_updL (vp_updL wf30276 ((0 : Int32).toNatClampNeg) 0) ((1 : Int32).toNatClampNeg) 0) ((1 : Int32).toNatClampNeg) ((p1 - p1 / 10 * 10).toInt64)) ((0 : Int32).toNatClampNeg) (((p1 / 10) - (p1 / 10) / 10 * 10).toInt64)))))] := hD
  refine lv_iload hx hb dX5_append_48 (lv_at hl 1 rfl) ?_
  refine lv_bipush (v := 10) hx hb dX5_append_50 (by decide +kernel) ?_
  refine lv_idiv hx hb dX5_append_52 (by decide +kernel) ?_
  refine lv_istore (lv' := [(4, .int ((p1 / 10) / 10)), (5, .int 0), (3, .int 0), (0, .ref h0), (1, .int p1), (2, .int 2)]) hx hb dX5_append_53 hl (by decide) rfl ?_
  clear hl
  clear ls
  intro ls hl
  refine lv_iinc (v := (-1)) (lv' := [(5, .int (-1)), (4, .int ((p1 / 10) / 10)), (3, .int 0), (0, .ref h0), (1, .int p1), (2, .int 2)]) hx hb dX5_append_55 hl (k := 1) rfl (by decide +kernel) (by decide) rfl ?_
  clear hl
  clear ls
  intro ls hl
  refine lv_goto (tgt := 27) hx hb dX5_append_58 (by decide) ?_
  refine lv_iload hx hb dX5_append_27 (lv_at hl 0 rfl) ?_
  refine lv_iload_n hx hb dX5_append_29 rfl (lv_at hl 2 rfl) ?_
  refine lv_icmp_lt (tgt := 61) hx hb dX5_append_30 (by decide) (fun _ => ?_) (fun c9 => absurd c9 (by decide +kernel))
  refine lv_aload_n hx hb dX5_append_61 rfl (lv_at hl 3 rfl) ?_
  refine g_av (wr := [(h6, .inl (y 1, 200, .inr (.inl (vp_updL (vp_updL (vp_updL (vp_updL wf30276 ((0 : Int32).toNatClampNeg) 0) ((1 : Int32).toNatClampNeg) 0) ((1 : Int32).toNatClampNeg) ((p1 - p1 / 10 * 10).toInt64)) ((0 : Int32).toNatClampNeg) (((p1 / 10) - (p1 / 10) / 10 * 10).toInt64)))))]) (va_runV (As := []) (rest := []) ⟨hx, hb, hml, hown, hg⟩ (k_X5_findOut_2 l D y aS H.size h0 h2 h3 h4 h5 0 h6 h8 wp30277 wf30278 h11 wp30279) (cwV 0 hg ggV_RX5_33_X5_findOut rfl rfl rfl (by decide +kernel) ⟨Nat.le_of_ble_eq_true rfl, Nat.le_of_ble_eq_true rfl⟩) (g_preV (q := (RX5, TX5, 5)) hK hP hD [0, 5, 1, 2, 3, 4] rfl (by decide) (ci := 5) (q0 := 0) rfl rfl) rfl rfl hl.1 rfl (lv_room (Nat.le_of_ble_eq_true rfl)) dX5_append_62 ⟨Nat.le_of_ble_eq_true rfl, Nat.le_of_ble_eq_true rfl⟩) hP hD hS hA [0, 5, 1, 2, 3, 4] [6] rfl rfl (by decide) (by decide) ?_
  clear hP hD hS H locs
  refine fun u H locs hq hP hD hS => ?_
  replace hP : va_P D vwCl [(h6, .inl (y 1, 200, .inr (.inl (vp_updL (vp_updL (vp_updL (vp_updL wf30276 ((0 : Int32).toNatClampNeg) 0) ((1 : Int32).toNatClampNeg) 0) ((1 : Int32).toNatClampNeg) ((p1 - p1 / 10 * 10).toInt64)) ((0 : Int32).toNatClampNeg) (((p1 / 10) - (p1 / 10) / 10 * 10).toInt64))))), (h0, .inr (5, [.ref h2, .ref h3, .ref h4, .ref h5, .int 2])), (h2, .inr (8, [.ref h6, .int 2])), (h3, .inr (8, [.ref h8, .int wp30277])), (h8, .inl (y 1, 200, .inr (.inl (vp_updL (vp_updL wf30278 ((0 : Int32).toNatClampNeg) 0) ((1 : Int32).toNatClampNeg) 0)))), (h5, .inr (8, [.ref h11, .int wp30279])), (h11, .inl (y 1, 3, .inr (.inl (fun _ => 0))))] H := hP
  replace hD : va_D A [(h6, .inl (y 1, 200, .inr (.inl (vp_updL (vp_updL (vp_updL (vp_updL wf30276 ((0 : Int32).toNatClampNeg) 0) ((1 : Int32).toNatClampNeg) 0) ((1 : Int32).toNatClampNeg) ((p1 - p1 / 10 * 10).toInt64)) ((0 : Int32).toNatClampNeg) (((p1 / 10) - (p1 / 10) / 10 * 10).toInt64))))), (h0, .inr (5, [.ref h2, .ref h3, .ref h4, .ref h5, .int 2])), (h2, .inr (8, [.ref h6, .int 2])), (h3, .inr (8, [.ref h8, .int wp30277])), (h8, .inl (y 1, 200, .inr (.inl (vp_updL (vp_updL wf30278 ((0 : Int32).toNatClampNeg) 0) ((1 : Int32).toNatClampNeg) 0)))), (h5, .inr (8, [.ref h11, .int wp30279])), (h11, .inl (y 1, 3, .inr (.inl (fun _ => 0))))] := hD
  refine lv_aload_n hx hb dX5_append_65 rfl (lv_at hl 3 rfl) ?_
  refine gm_get (D := D) (ci := 5) (v := .int 2) (C := RX5) (T := TX5) (N := 5) hx hb hg inlX5 hown hK.1 hP 1 rfl rfl 4 (by decide) tX5_4 (hg _ gw_1442) rfl dX5_append_66 ?_
  exact g_iret hx hb hr hlocks () (hP.sub [1, 2, 0, 3, 4, 5, 6] rfl) (hD.sub [1, 2, 0, 3, 4, 5, 6] (by decide +kernel) rfl) hS rfl rfl (Nat.le_of_ble_eq_true rfl) (Nat.le_of_ble_eq_true rfl) dX5_append_69
set_option maxRecDepth 100000 in
set_option maxHeartbeats 4000000 in
theorem k_X8_add_30 (l : Launch) (D : va_G) (y : Nat → ClassId) (aS : Nat → Nat) (sz : Nat) (h0 : Nat) (h1 : Nat) (wf30291 : Nat → Int64) : Met l yX8_add (Cond.code yX8_add cX8_add 3 none :: wsL_law) ({ frames := 0, cells := 0, slots := 0, locals := 0 } : Room) (va_Pc [.ref h0, .long 0] (gI D y aS [(h0, .inr (8, [.ref h1, .int 2])), (h1, .inl (y 1, 200, .inr (.inl wf30291)))] sz)) (va_Qv (fun (u : Unit) => True) (fun u => gO D (va_A [(h0, .inr (8, [.ref h1, .int 2])), (h1, .inl (y 1, 200, .inr (.inl wf30291)))] sz) [(h0, .inr (8, [.ref h1, .int 3])), (h1, .inl (y 1, 200, .inr (.inl (vp_updL wf30291 ((2 : Int32).toNatClampNeg) 0))))]) (va_A [(h0, .inr (8, [.ref h1, .int 2])), (h1, .inl (y 1, 200, .inr (.inl wf30291)))] sz)) 0 0 (va_A [(h0, .inr (8, [.ref h1, .int 2])), (h1, .inl (y 1, 200, .inr (.inl wf30291)))] sz) := by
  refine g_of (by decide) (Nat.le_of_ble_eq_true rfl) ?_
  intro p e s m below meth c ls A hx hb hr hml hown hg hlocks hin hsz hK hP hD hS hA hAe hl
  rw [← hAe]
  replace hown : s.vm.findClass RX8 = some m.cls := hown
  replace hl : lv_has ls 3 [(0, .ref h0), (1, .long 0)] := hl
  refine lv_aload_n hx hb dX8_add_0 rfl (lv_at hl 0 rfl) ?_
  refine gm_get (D := D) (ci := 8) (v := .int 2) (C := RX8) (T := TX8) (N := 2) hx hb hg inlX8 hown hK.1 hP 0 rfl rfl 1 (by decide) tX8_1 (hg _ gw_155) rfl dX8_add_1 ?_
  refine lv_if_lt (tgt := 39) hx hb dX8_add_4 (by decide) (fun c9 => absurd c9 (by decide +kernel)) (fun _ => ?_)
  refine lv_aload_n hx hb dX8_add_7 rfl (lv_at hl 0 rfl) ?_
  refine gm_get (D := D) (ci := 8) (v := .int 2) (C := RX8) (T := TX8) (N := 2) hx hb hg inlX8 hown hK.1 hP 0 rfl rfl 1 (by decide) tX8_1 (hg _ gw_155) rfl dX8_add_8 ?_
  refine lv_aload_n hx hb dX8_add_11 rfl (lv_at hl 0 rfl) ?_
  refine gm_get (D := D) (ci := 8) (v := .ref h1) (C := RX8) (T := TX8) (N := 2) hx hb hg inlX8 hown hK.1 hP 0 rfl rfl 0 (by decide) tX8_0 (hg _ gw_98) rfl dX8_add_12 ?_
  refine va_alen hx hb hK.1 hP 1 1 rfl rfl (v := 200) rfl dX8_add_15 ?_
  refine lv_icmp_ge (tgt := 39) hx hb dX8_add_16 (by decide) (fun c9 => absurd c9 (by decide +kernel)) (fun _ => ?_)
  refine lv_aload_n hx hb dX8_add_19 rfl (lv_at hl 0 rfl) ?_
  refine gm_get (D := D) (ci := 8) (v := .ref h1) (C := RX8) (T := TX8) (N := 2) hx hb hg inlX8 hown hK.1 hP 0 rfl rfl 0 (by decide) tX8_0 (hg _ gw_98) rfl dX8_add_20 ?_
  refine lv_aload_n hx hb dX8_add_23 rfl (lv_at hl 0 rfl) ?_
  refine gm_get (D := D) (ci := 8) (v := .int 2) (C := RX8) (T := TX8) (N := 2) hx hb hg inlX8 hown hK.1 hP 0 rfl rfl 1 (by decide) tX8_1 (hg _ gw_155) rfl dX8_add_24 ?_
  refine lv_lload_n hx hb dX8_add_27 rfl (lv_at hl 1 rfl) ?_
  refine va_last hx hb hK.1 hP hD hS 1 1 rfl rfl (by unfold vp_in; decide +kernel) dX8_add_28 ?_
  clear hP hD hS
  refine fun H locs (hP : va_P D vwCl [(h0, .inr (8, [.ref h1, .int 2])), (h1, .inl (y 1, 200, .inr (.inl (vp_updL wf30291 ((2 : Int32).toNatClampNeg) 0))))] H) (hD : va_D A [(h0, .inr (8, [.ref h1, .int 2])), (h1, .inl (y 1, 200, .inr (.inl (vp_updL wf30291 ((2 : Int32).toNatClampNeg) 0))))]) hS => ?_
  refine lv_aload_n hx hb dX8_add_29 rfl (lv_at hl 0 rfl) ?_
  refine lv_dup hx hb dX8_add_30 rfl ?_
  refine gm_get (D := D) (ci := 8) (v := .int 2) (C := RX8) (T := TX8) (N := 2) hx hb hg inlX8 hown hK.1 hP 0 rfl rfl 1 (by decide) tX8_1 (hg _ gw_155) rfl dX8_add_31 ?_
  refine lv_iconst (v := 1) hx hb dX8_add_34 (by decide) ?_
  refine lv_iadd hx hb dX8_add_35 ?_
  refine g_fi (v := 3) (by decide +kernel) ?_
  refine gm_put (D := D) (ci := 8) (v := .int 3) (ty := .int) (C := RX8) (T := TX8) (N := 2) hx hb hg inlX8 tyX8 tyX8_ok nmX8 hown hK.1 hP hD hS 0 rfl rfl 1 (by decide) tX8_1 (hg _ gw_155) (by decide +kernel) rfl rfl (Nat.le_of_ble_eq_true rfl) dX8_add_36 ?_
  clear hP hD hS H locs
  refine fun H locs (hP : va_P D vwCl [(h0, .inr (8, [.ref h1, .int 3])), (h1, .inl (y 1, 200, .inr (.inl (vp_updL wf30291 ((2 : Int32).toNatClampNeg) 0))))] H) (hD : va_D A [(h0, .inr (8, [.ref h1, .int 3])), (h1, .inl (y 1, 200, .inr (.inl (vp_updL wf30291 ((2 : Int32).toNatClampNeg) 0))))]) hS => ?_
  exact g_vret hx hb hr hlocks () hP hD hS trivial (Nat.le_of_ble_eq_true rfl) (Nat.le_of_ble_eq_true rfl) dX8_add_39
set_option maxRecDepth 100000 in
set_option maxHeartbeats 4000000 in
theorem k_X8_addMany_6 (l : Launch) (D : va_G) (y : Nat → ClassId) (aS : Nat → Nat) (sz : Nat) (h0 : Nat) (h1 : Nat) (wf30293 : Nat → Int64) : Met l yX8_addMany (Cond.code yX8_addMany cX8_addMany 5 none :: wsL_law) ({ frames := 1, cells := 0, slots := 0, locals := 22 } : Room) (va_Pc [.ref h0, .int 3, .long 0] (gI D y aS [(h0, .inr (8, [.ref h1, .int 0])), (h1, .inl (y 1, 200, .inr (.inl wf30293)))] sz)) (va_Qv (fun (u : Unit) => True) (fun u => gO D (va_A [(h0, .inr (8, [.ref h1, .int 0])), (h1, .inl (y 1, 200, .inr (.inl wf30293)))] sz) [(h0, .inr (8, [.ref h1, .int 3])), (h1, .inl (y 1, 200, .inr (.inl (vp_updL (vp_updL (vp_updL wf30293 ((0 : Int32).toNatClampNeg) 0) ((1 : Int32).toNatClampNeg) 0) ((2 : Int32).toNatClampNeg) 0))))]) (va_A [(h0, .inr (8, [.ref h1, .int 0])), (h1, .inl (y 1, 200, .inr (.inl wf30293)))] sz)) 0 0 (va_A [(h0, .inr (8, [.ref h1, .int 0])), (h1, .inl (y 1, 200, .inr (.inl wf30293)))] sz) := by
  refine g_of (by decide) (Nat.le_of_ble_eq_true rfl) ?_
  intro p e s m below meth c ls A hx hb hr hml hown hg hlocks hin hsz hK hP hD hS hA hAe hl
  rw [← hAe]
  replace hown : s.vm.findClass RX8 = some m.cls := hown
  replace hl : lv_has ls 5 [(0, .ref h0), (1, .int 3), (2, .long 0)] := hl
  refine lv_iconst (v := 0) hx hb dX8_addMany_0 (by decide) ?_
  refine lv_istore (lv' := [(4, .int 0), (0, .ref h0), (1, .int 3), (2, .long 0)]) hx hb dX8_addMany_1 hl (by decide) rfl ?_
  clear hl
  clear ls
  intro ls hl
  refine lv_iload hx hb dX8_addMany_3 (lv_at hl 0 rfl) ?_
  refine lv_iload_n hx hb dX8_addMany_5 rfl (lv_at hl 2 rfl) ?_
  refine lv_icmp_ge (tgt := 30) hx hb dX8_addMany_6 (by decide) (fun c9 => absurd c9 (by decide +kernel)) (fun _ => ?_)
  refine lv_iload hx hb dX8_addMany_9 (lv_at hl 0 rfl) ?_
  refine lv_aload_n hx hb dX8_addMany_11 rfl (lv_at hl 1 rfl) ?_
  refine gm_get (D := D) (ci := 8) (v := .ref h1) (C := RX8) (T := TX8) (N := 2) hx hb hg inlX8 hown hK.1 hP 0 rfl rfl 0 (by decide) tX8_0 (hg _ gw_98) rfl dX8_addMany_12 ?_
  refine va_alen hx hb hK.1 hP 1 1 rfl rfl (v := 200) rfl dX8_addMany_15 ?_
  refine lv_icmp_ge (tgt := 30) hx hb dX8_addMany_16 (by decide) (fun c9 => absurd c9 (by decide +kernel)) (fun _ => ?_)
  refine lv_aload_n hx hb dX8_addMany_19 rfl (lv_at hl 1 rfl) ?_
  refine lv_lload_n hx hb dX8_addMany_20 rfl (lv_at hl 3 rfl) ?_
  refine g_av (wr := []) (va_runV (As := [.long 0]) (rest := []) ⟨hx, hb, hml, hown, hg⟩ (k_X8_add_28 l D y aS s.heap.size h0 h1 wf30293) (cwV 1 hg ggV_RX8_19_X8_add rfl rfl rfl (by decide +kernel) ⟨Nat.le_of_ble_eq_true rfl, Nat.le_of_ble_eq_true rfl⟩) (g_preV (q := (RX8, TX8, 2)) hK hP hD [0, 1] rfl (by decide) (ci := 8) (q0 := 0) rfl rfl) rfl rfl hl.1 rfl (lv_room (Nat.le_of_ble_eq_true rfl)) dX8_addMany_21 ⟨Nat.le_of_ble_eq_true rfl, Nat.le_of_ble_eq_true rfl⟩) hP hD hS hA [0, 1] [] rfl rfl (by decide) (by decide) ?_
  clear hP hD hS
  refine fun u H locs hq hP hD hS => ?_
  replace hP : va_P D vwCl [(h0, .inr (8, [.ref h1, .int 1])), (h1, .inl (y 1, 200, .inr (.inl (vp_updL wf30293 ((0 : Int32).toNatClampNeg) 0))))] H := hP
  replace hD : va_D A [(h0, .inr (8, [.ref h1, .int 1])), (h1, .inl (y 1, 200, .inr (.inl (vp_updL wf30293 ((0 : Int32).toNatClampNeg) 0))))] := hD
  refine lv_iinc (v := 1) (lv' := [(4, .int 1), (0, .ref h0), (1, .int 3), (2, .long 0)]) hx hb dX8_addMany_24 hl (k := 0) rfl (by decide +kernel) (by decide) rfl ?_
  clear hl
  clear ls
  intro ls hl
  refine lv_goto (tgt := 3) hx hb dX8_addMany_27 (by decide) ?_
  refine lv_iload hx hb dX8_addMany_3 (lv_at hl 0 rfl) ?_
  refine lv_iload_n hx hb dX8_addMany_5 rfl (lv_at hl 2 rfl) ?_
  refine lv_icmp_ge (tgt := 30) hx hb dX8_addMany_6 (by decide) (fun c9 => absurd c9 (by decide +kernel)) (fun _ => ?_)
  refine lv_iload hx hb dX8_addMany_9 (lv_at hl 0 rfl) ?_
  refine lv_aload_n hx hb dX8_addMany_11 rfl (lv_at hl 1 rfl) ?_
  refine gm_get (D := D) (ci := 8) (v := .ref h1) (C := RX8) (T := TX8) (N := 2) hx hb hg inlX8 hown hK.1 hP 0 rfl rfl 0 (by decide) tX8_0 (hg _ gw_98) rfl dX8_addMany_12 ?_
  refine va_alen hx hb hK.1 hP 1 1 rfl rfl (v := 200) rfl dX8_addMany_15 ?_
  refine lv_icmp_ge (tgt := 30) hx hb dX8_addMany_16 (by decide) (fun c9 => absurd c9 (by decide +kernel)) (fun _ => ?_)
  refine lv_aload_n hx hb dX8_addMany_19 rfl (lv_at hl 1 rfl) ?_
  refine lv_lload_n hx hb dX8_addMany_20 rfl (lv_at hl 3 rfl) ?_
  refine g_av (wr := []) (va_runV (As := [.long 0]) (rest := []) ⟨hx, hb, hml, hown, hg⟩ (k_X8_add_29 l D y aS H.size h0 h1 (vp_updL wf30293 ((0 : Int32).toNatClampNeg) 0)) (cwV 1 hg ggV_RX8_19_X8_add rfl rfl rfl (by decide +kernel) ⟨Nat.le_of_ble_eq_true rfl, Nat.le_of_ble_eq_true rfl⟩) (g_preV (q := (RX8, TX8, 2)) hK hP hD [0, 1] rfl (by decide) (ci := 8) (q0 := 0) rfl rfl) rfl rfl hl.1 rfl (lv_room (Nat.le_of_ble_eq_true rfl)) dX8_addMany_21 ⟨Nat.le_of_ble_eq_true rfl, Nat.le_of_ble_eq_true rfl⟩) hP hD hS hA [0, 1] [] rfl rfl (by decide) (by decide) ?_
  clear hP hD hS H locs
  refine fun u H locs hq hP hD hS => ?_
  replace hP : va_P D vwCl [(h0, .inr (8, [.ref h1, .int 2])), (h1, .inl (y 1, 200, .inr (.inl (vp_updL (vp_updL wf30293 ((0 : Int32).toNatClampNeg) 0) ((1 : Int32).toNatClampNeg) 0))))] H := hP
  replace hD : va_D A [(h0, .inr (8, [.ref h1, .int 2])), (h1, .inl (y 1, 200, .inr (.inl (vp_updL (vp_updL wf30293 ((0 : Int32).toNatClampNeg) 0) ((1 : Int32).toNatClampNeg) 0))))] := hD
  refine lv_iinc (v := 2) (lv' := [(4, .int 2), (0, .ref h0), (1, .int 3), (2, .long 0)]) hx hb dX8_addMany_24 hl (k := 0) rfl (by decide +kernel) (by decide) rfl ?_
  clear hl
  clear ls
  intro ls hl
  refine lv_goto (tgt := 3) hx hb dX8_addMany_27 (by decide) ?_
  refine lv_iload hx hb dX8_addMany_3 (lv_at hl 0 rfl) ?_
  refine lv_iload_n hx hb dX8_addMany_5 rfl (lv_at hl 2 rfl) ?_
  refine lv_icmp_ge (tgt := 30) hx hb dX8_addMany_6 (by decide) (fun c9 => absurd c9 (by decide +kernel)) (fun _ => ?_)
  refine lv_iload hx hb dX8_addMany_9 (lv_at hl 0 rfl) ?_
  refine lv_aload_n hx hb dX8_addMany_11 rfl (lv_at hl 1 rfl) ?_
  refine gm_get (D := D) (ci := 8) (v := .ref h1) (C := RX8) (T := TX8) (N := 2) hx hb hg inlX8 hown hK.1 hP 0 rfl rfl 0 (by decide) tX8_0 (hg _ gw_98) rfl dX8_addMany_12 ?_
  refine va_alen hx hb hK.1 hP 1 1 rfl rfl (v := 200) rfl dX8_addMany_15 ?_
  refine lv_icmp_ge (tgt := 30) hx hb dX8_addMany_16 (by decide) (fun c9 => absurd c9 (by decide +kernel)) (fun _ => ?_)
  refine lv_aload_n hx hb dX8_addMany_19 rfl (lv_at hl 1 rfl) ?_
  refine lv_lload_n hx hb dX8_addMany_20 rfl (lv_at hl 3 rfl) ?_
  refine g_av (wr := []) (va_runV (As := [.long 0]) (rest := []) ⟨hx, hb, hml, hown, hg⟩ (k_X8_add_30 l D y aS H.size h0 h1 (vp_updL (vp_updL wf30293 ((0 : Int32).toNatClampNeg) 0) ((1 : Int32).toNatClampNeg) 0)) (cwV 1 hg ggV_RX8_19_X8_add rfl rfl rfl (by decide +kernel) ⟨Nat.le_of_ble_eq_true rfl, Nat.le_of_ble_eq_true rfl⟩) (g_preV (q := (RX8, TX8, 2)) hK hP hD [0, 1] rfl (by decide) (ci := 8) (q0 := 0) rfl rfl) rfl rfl hl.1 rfl (lv_room (Nat.le_of_ble_eq_true rfl)) dX8_addMany_21 ⟨Nat.le_of_ble_eq_true rfl, Nat.le_of_ble_eq_true rfl⟩) hP hD hS hA [0, 1] [] rfl rfl (by decide) (by decide) ?_
  clear hP hD hS H locs
  refine fun u H locs hq hP hD hS => ?_
  replace hP : va_P D vwCl [(h0, .inr (8, [.ref h1, .int 3])), (h1, .inl (y 1, 200, .inr (.inl (vp_updL (vp_updL (vp_updL wf30293 ((0 : Int32).toNatClampNeg) 0) ((1 : Int32).toNatClampNeg) 0) ((2 : Int32).toNatClampNeg) 0))))] H := hP
  replace hD : va_D A [(h0, .inr (8, [.ref h1, .int 3])), (h1, .inl (y 1, 200, .inr (.inl (vp_updL (vp_updL (vp_updL wf30293 ((0 : Int32).toNatClampNeg) 0) ((1 : Int32).toNatClampNeg) 0) ((2 : Int32).toNatClampNeg) 0))))] := hD
  refine lv_iinc (v := 3) (lv' := [(4, .int 3), (0, .ref h0), (1, .int 3), (2, .long 0)]) hx hb dX8_addMany_24 hl (k := 0) rfl (by decide +kernel) (by decide) rfl ?_
  clear hl
  clear ls
  intro ls hl
  refine lv_goto (tgt := 3) hx hb dX8_addMany_27 (by decide) ?_
  refine lv_iload hx hb dX8_addMany_3 (lv_at hl 0 rfl) ?_
  refine lv_iload_n hx hb dX8_addMany_5 rfl (lv_at hl 2 rfl) ?_
  refine lv_icmp_ge (tgt := 30) hx hb dX8_addMany_6 (by decide) (fun _ => ?_) (fun c9 => absurd c9 (by decide +kernel))
  exact g_vret hx hb hr hlocks () hP hD hS trivial (Nat.le_of_ble_eq_true rfl) (Nat.le_of_ble_eq_true rfl) dX8_addMany_30
set_option maxRecDepth 100000 in
set_option maxHeartbeats 4000000 in
theorem k_X8_set_47 (l : Launch) (D : va_G) (y : Nat → ClassId) (aS : Nat → Nat) (sz : Nat) (h0 : Nat) (p1 : Int64) (h2 : Nat) (wp30299 : Int32) (wf30300 : Nat → Int64) : Met l yX8_set (Cond.code yX8_set cX8_set 4 none :: wsL_law) ({ frames := 0, cells := 0, slots := 0, locals := 0 } : Room) (va_Pc [.ref h0, .int 2, .long p1] (gI D y aS [(h0, .inr (8, [.ref h2, .int wp30299])), (h2, .inl (y 1, 200, .inr (.inl wf30300)))] sz)) (va_Qv (fun (u : Unit) => True) (fun u => gO D (va_A [(h0, .inr (8, [.ref h2, .int wp30299])), (h2, .inl (y 1, 200, .inr (.inl wf30300)))] sz) [(h0, .inr (8, [.ref h2, .int wp30299])), (h2, .inl (y 1, 200, .inr (.inl (vp_updL wf30300 ((2 : Int32).toNatClampNeg) p1))))]) (va_A [(h0, .inr (8, [.ref h2, .int wp30299])), (h2, .inl (y 1, 200, .inr (.inl wf30300)))] sz)) 0 0 (va_A [(h0, .inr (8, [.ref h2, .int wp30299])), (h2, .inl (y 1, 200, .inr (.inl wf30300)))] sz) := by
  refine g_of (by decide) (Nat.le_of_ble_eq_true rfl) ?_
  intro p e s m below meth c ls A hx hb hr hml hown hg hlocks hin hsz hK hP hD hS hA hAe hl
  rw [← hAe]
  replace hown : s.vm.findClass RX8 = some m.cls := hown
  replace hl : lv_has ls 4 [(0, .ref h0), (1, .int 2), (2, .long p1)] := hl
  refine lv_iload_n hx hb dX8_set_0 rfl (lv_at hl 1 rfl) ?_
  refine lv_if_lt (tgt := 20) hx hb dX8_set_1 (by decide) (fun c9 => absurd c9 (by decide +kernel)) (fun _ => ?_)
  refine lv_iload_n hx hb dX8_set_4 rfl (lv_at hl 1 rfl) ?_
  refine lv_aload_n hx hb dX8_set_5 rfl (lv_at hl 0 rfl) ?_
  refine gm_get (D := D) (ci := 8) (v := .ref h2) (C := RX8) (T := TX8) (N := 2) hx hb hg inlX8 hown hK.1 hP 0 rfl rfl 0 (by decide) tX8_0 (hg _ gw_98) rfl dX8_set_6 ?_
  refine va_alen hx hb hK.1 hP 1 1 rfl rfl (v := 200) rfl dX8_set_9 ?_
  refine lv_icmp_ge (tgt := 20) hx hb dX8_set_10 (by decide) (fun c9 => absurd c9 (by decide +kernel)) (fun _ => ?_)
  refine lv_aload_n hx hb dX8_set_13 rfl (lv_at hl 0 rfl) ?_
  refine gm_get (D := D) (ci := 8) (v := .ref h2) (C := RX8) (T := TX8) (N := 2) hx hb hg inlX8 hown hK.1 hP 0 rfl rfl 0 (by decide) tX8_0 (hg _ gw_98) rfl dX8_set_14 ?_
  refine lv_iload_n hx hb dX8_set_17 rfl (lv_at hl 1 rfl) ?_
  refine lv_lload_n hx hb dX8_set_18 rfl (lv_at hl 2 rfl) ?_
  refine va_last hx hb hK.1 hP hD hS 1 1 rfl rfl (by unfold vp_in; decide +kernel) dX8_set_19 ?_
  clear hP hD hS
  refine fun H locs (hP : va_P D vwCl [(h0, .inr (8, [.ref h2, .int wp30299])), (h2, .inl (y 1, 200, .inr (.inl (vp_updL wf30300 ((2 : Int32).toNatClampNeg) p1))))] H) (hD : va_D A [(h0, .inr (8, [.ref h2, .int wp30299])), (h2, .inl (y 1, 200, .inr (.inl (vp_updL wf30300 ((2 : Int32).toNatClampNeg) p1))))]) hS => ?_
  exact g_vret hx hb hr hlocks () hP hD hS trivial (Nat.le_of_ble_eq_true rfl) (Nat.le_of_ble_eq_true rfl) dX8_set_20
set_option maxRecDepth 100000 in
set_option maxHeartbeats 4000000 in
theorem k_X5_find_6 (l : Launch) (D : va_G) (y : Nat → ClassId) (aS : Nat → Nat) (sz : Nat) (h0 : Nat) (h1 : Nat) (h2 : Nat) (h3 : Nat) (h4 : Nat) (wp30314 : Int32) (h6 : Nat) (wp30315 : Int32) : Met l yX5_find (Cond.code yX5_find cX5_find 6 none :: wsL_law) ({ frames := 1, cells := 0, slots := 0, locals := 21 } : Room) (va_Pc [.ref h0, .int 0, .int 2] (gI D y aS [(h0, .inr (5, [.ref h1, .ref h2, .ref h3, .ref h4, .int wp30314])), (h4, .inr (8, [.ref h6, .int wp30315])), (h6, .inl (y 1, 3, .inr (.inl (fun _ => 0))))] sz)) (va_Qv (fun (u : Unit) => True) (fun u => gO D (va_A [(h0, .inr (5, [.ref h1, .ref h2, .ref h3, .ref h4, .int wp30314])), (h4, .inr (8, [.ref h6, .int wp30315])), (h6, .inl (y 1, 3, .inr (.inl (fun _ => 0))))] sz) [(h0, .inr (5, [.ref h1, .ref h2, .ref h3, .ref h4, .int wp30314])), (h4, .inr (8, [.ref h6, .int wp30315])), (h6, .inl (y 1, 3, .inr (.inl (fun _ => 0))))]) (va_A [(h0, .inr (5, [.ref h1, .ref h2, .ref h3, .ref h4, .int wp30314])), (h4, .inr (8, [.ref h6, .int wp30315])), (h6, .inl (y 1, 3, .inr (.inl (fun _ => 0))))] sz)) 0 0 (va_A [(h0, .inr (5, [.ref h1, .ref h2, .ref h3, .ref h4, .int wp30314])), (h4, .inr (8, [.ref h6, .int wp30315])), (h6, .inl (y 1, 3, .inr (.inl (fun _ => 0))))] sz) := by
  refine g_of (by decide) (Nat.le_of_ble_eq_true rfl) ?_
  intro p e s m below meth c ls A hx hb hr hml hown hg hlocks hin hsz hK hP hD hS hA hAe hl
  rw [← hAe]
  replace hown : s.vm.findClass RX5 = some m.cls := hown
  replace hl : lv_has ls 6 [(0, .ref h0), (1, .int 0), (2, .int 2)] := hl
  refine lv_aload_n hx hb dX5_find_0 rfl (lv_at hl 0 rfl) ?_
  refine gm_get (D := D) (ci := 5) (v := .ref h4) (C := RX5) (T := TX5) (N := 5) hx hb hg inlX5 hown hK.1 hP 0 rfl rfl 3 (by decide) tX5_3 (hg _ gw_141) rfl dX5_find_1 ?_
  refine lv_iload_n hx hb dX5_find_4 rfl (lv_at hl 1 rfl) ?_
  refine g_ai (wr := [(h0, .inr (5, [.ref h1, .ref h2, .ref h3, .ref h4, .int wp30314]))]) (va_runV (As := [.int 0]) (rest := []) ⟨hx, hb, hml, hown, hg⟩ (k_X8_whole_27 l D y aS s.heap.size h4 h6 wp30315) (cwV 1 hg ggV_RX5_50_X8_whole rfl rfl rfl (by decide +kernel) ⟨Nat.le_of_ble_eq_true rfl, Nat.le_of_ble_eq_true rfl⟩) (g_preV (q := (RX8, TX8, 2)) hK hP hD [1, 2] rfl (by decide) (ci := 8) (q0 := 1) rfl rfl) rfl rfl hl.1 rfl (lv_room (Nat.le_of_ble_eq_true rfl)) dX5_find_5 ⟨Nat.le_of_ble_eq_true rfl, Nat.le_of_ble_eq_true rfl⟩) hP hD hS hA [1, 2] [0] rfl rfl (by decide) (by decide) ?_
  clear hP hD hS
  refine fun r30316 u H locs hq hP hD hS => ?_
  subst hq
  replace hP : va_P D vwCl [(h0, .inr (5, [.ref h1, .ref h2, .ref h3, .ref h4, .int wp30314])), (h4, .inr (8, [.ref h6, .int wp30315])), (h6, .inl (y 1, 3, .inr (.inl (fun _ => 0))))] H := hP
  replace hD : va_D A [(h0, .inr (5, [.ref h1, .ref h2, .ref h3, .ref h4, .int wp30314])), (h4, .inr (8, [.ref h6, .int wp30315])), (h6, .inl (y 1, 3, .inr (.inl (fun _ => 0))))] := hD
  refine lv_istore_n (lv' := [(3, .int 0), (0, .ref h0), (1, .int 0), (2, .int 2)]) hx hb dX5_find_8 rfl hl (by decide) rfl ?_
  clear hl
  clear ls
  intro ls hl
  refine lv_iconst (v := 0) hx hb dX5_find_9 (by decide) ?_
  refine lv_istore (lv' := [(4, .int 0), (3, .int 0), (0, .ref h0), (1, .int 0), (2, .int 2)]) hx hb dX5_find_10 hl (by decide) rfl ?_
  clear hl
  clear ls
  intro ls hl
  refine lv_iload hx hb dX5_find_12 (lv_at hl 0 rfl) ?_
  refine lv_iload_n hx hb dX5_find_14 rfl (lv_at hl 1 rfl) ?_
  refine lv_icmp_ge (tgt := 67) hx hb dX5_find_15 (by decide) (fun _ => ?_) (fun c9 => absurd c9 (by decide +kernel))
  refine lv_iload_n hx hb dX5_find_67 rfl (lv_at hl 1 rfl) ?_
  refine lv_if_le (tgt := 107) hx hb dX5_find_68 (by decide) (fun _ => ?_) (fun c9 => absurd c9 (by decide +kernel))
  refine lv_iload hx hb dX5_find_107 (lv_at hl 0 rfl) ?_
  refine lv_if_le (tgt := 139) hx hb dX5_find_109 (by decide) (fun _ => ?_) (fun c9 => absurd c9 (by decide +kernel))
  exact g_vret hx hb hr hlocks () hP hD hS trivial (Nat.le_of_ble_eq_true rfl) (Nat.le_of_ble_eq_true rfl) dX5_find_139
set_option maxRecDepth 100000 in
set_option maxHeartbeats 4000000 in
theorem k_X5_find_7 (l : Launch) (D : va_G) (y : Nat → ClassId) (aS : Nat → Nat) (sz : Nat) (h0 : Nat) (h1 : Nat) (h2 : Nat) (h3 : Nat) (h4 : Nat) (wp30319 : Int32) (h6 : Nat) (wp30320 : Int32) : Met l yX5_find (Cond.code yX5_find cX5_find 6 none :: wsL_law) ({ frames := 1, cells := 0, slots := 0, locals := 21 } : Room) (va_Pc [.ref h0, .int 1, .int 2] (gI D y aS [(h0, .inr (5, [.ref h1, .ref h2, .ref h3, .ref h4, .int wp30319])), (h4, .inr (8, [.ref h6, .int wp30320])), (h6, .inl (y 1, 3, .inr (.inl (fun _ => 0))))] sz)) (va_Qv (fun (u : Unit) => True) (fun u => gO D (va_A [(h0, .inr (5, [.ref h1, .ref h2, .ref h3, .ref h4, .int wp30319])), (h4, .inr (8, [.ref h6, .int wp30320])), (h6, .inl (y 1, 3, .inr (.inl (fun _ => 0))))] sz) [(h0, .inr (5, [.ref h1, .ref h2, .ref h3, .ref h4, .int wp30319])), (h4, .inr (8, [.ref h6, .int wp30320])), (h6, .inl (y 1, 3, .inr (.inl (fun _ => 0))))]) (va_A [(h0, .inr (5, [.ref h1, .ref h2, .ref h3, .ref h4, .int wp30319])), (h4, .inr (8, [.ref h6, .int wp30320])), (h6, .inl (y 1, 3, .inr (.inl (fun _ => 0))))] sz)) 0 0 (va_A [(h0, .inr (5, [.ref h1, .ref h2, .ref h3, .ref h4, .int wp30319])), (h4, .inr (8, [.ref h6, .int wp30320])), (h6, .inl (y 1, 3, .inr (.inl (fun _ => 0))))] sz) := by
  refine g_of (by decide) (Nat.le_of_ble_eq_true rfl) ?_
  intro p e s m below meth c ls A hx hb hr hml hown hg hlocks hin hsz hK hP hD hS hA hAe hl
  rw [← hAe]
  replace hown : s.vm.findClass RX5 = some m.cls := hown
  replace hl : lv_has ls 6 [(0, .ref h0), (1, .int 1), (2, .int 2)] := hl
  refine lv_aload_n hx hb dX5_find_0 rfl (lv_at hl 0 rfl) ?_
  refine gm_get (D := D) (ci := 5) (v := .ref h4) (C := RX5) (T := TX5) (N := 5) hx hb hg inlX5 hown hK.1 hP 0 rfl rfl 3 (by decide) tX5_3 (hg _ gw_141) rfl dX5_find_1 ?_
  refine lv_iload_n hx hb dX5_find_4 rfl (lv_at hl 1 rfl) ?_
  refine g_ai (wr := [(h0, .inr (5, [.ref h1, .ref h2, .ref h3, .ref h4, .int wp30319]))]) (va_runV (As := [.int 1]) (rest := []) ⟨hx, hb, hml, hown, hg⟩ (k_X8_whole_28 l D y aS s.heap.size h4 h6 wp30320) (cwV 1 hg ggV_RX5_50_X8_whole rfl rfl rfl (by decide +kernel) ⟨Nat.le_of_ble_eq_true rfl, Nat.le_of_ble_eq_true rfl⟩) (g_preV (q := (RX8, TX8, 2)) hK hP hD [1, 2] rfl (by decide) (ci := 8) (q0 := 1) rfl rfl) rfl rfl hl.1 rfl (lv_room (Nat.le_of_ble_eq_true rfl)) dX5_find_5 ⟨Nat.le_of_ble_eq_true rfl, Nat.le_of_ble_eq_true rfl⟩) hP hD hS hA [1, 2] [0] rfl rfl (by decide) (by decide) ?_
  clear hP hD hS
  refine fun r30321 u H locs hq hP hD hS => ?_
  subst hq
  replace hP : va_P D vwCl [(h0, .inr (5, [.ref h1, .ref h2, .ref h3, .ref h4, .int wp30319])), (h4, .inr (8, [.ref h6, .int wp30320])), (h6, .inl (y 1, 3, .inr (.inl (fun _ => 0))))] H := hP
  replace hD : va_D A [(h0, .inr (5, [.ref h1, .ref h2, .ref h3, .ref h4, .int wp30319])), (h4, .inr (8, [.ref h6, .int wp30320])), (h6, .inl (y 1, 3, .inr (.inl (fun _ => 0))))] := hD
  refine lv_istore_n (lv' := [(3, .int 0), (0, .ref h0), (1, .int 1), (2, .int 2)]) hx hb dX5_find_8 rfl hl (by decide) rfl ?_
  clear hl
  clear ls
  intro ls hl
  refine lv_iconst (v := 0) hx hb dX5_find_9 (by decide) ?_
  refine lv_istore (lv' := [(4, .int 0), (3, .int 0), (0, .ref h0), (1, .int 1), (2, .int 2)]) hx hb dX5_find_10 hl (by decide) rfl ?_
  clear hl
  clear ls
  intro ls hl
  refine lv_iload hx hb dX5_find_12 (lv_at hl 0 rfl) ?_
  refine lv_iload_n hx hb dX5_find_14 rfl (lv_at hl 1 rfl) ?_
  refine lv_icmp_ge (tgt := 67) hx hb dX5_find_15 (by decide) (fun _ => ?_) (fun c9 => absurd c9 (by decide +kernel))
  refine lv_iload_n hx hb dX5_find_67 rfl (lv_at hl 1 rfl) ?_
  refine lv_if_le (tgt := 107) hx hb dX5_find_68 (by decide) (fun _ => ?_) (fun c9 => absurd c9 (by decide +kernel))
  refine lv_iload hx hb dX5_find_107 (lv_at hl 0 rfl) ?_
  refine lv_if_le (tgt := 139) hx hb dX5_find_109 (by decide) (fun _ => ?_) (fun c9 => absurd c9 (by decide +kernel))
  exact g_vret hx hb hr hlocks () hP hD hS trivial (Nat.le_of_ble_eq_true rfl) (Nat.le_of_ble_eq_true rfl) dX5_find_139
set_option maxRecDepth 100000 in
set_option maxHeartbeats 4000000 in
theorem k_X5_find_8 (l : Launch) (D : va_G) (y : Nat → ClassId) (aS : Nat → Nat) (sz : Nat) (h0 : Nat) (h1 : Nat) (h2 : Nat) (h3 : Nat) (h4 : Nat) (wp30324 : Int32) (h6 : Nat) (wp30325 : Int32) : Met l yX5_find (Cond.code yX5_find cX5_find 6 none :: wsL_law) ({ frames := 1, cells := 0, slots := 0, locals := 21 } : Room) (va_Pc [.ref h0, .int 2, .int 2] (gI D y aS [(h0, .inr (5, [.ref h1, .ref h2, .ref h3, .ref h4, .int wp30324])), (h4, .inr (8, [.ref h6, .int wp30325])), (h6, .inl (y 1, 3, .inr (.inl (fun _ => 0))))] sz)) (va_Qv (fun (u : Unit) => True) (fun u => gO D (va_A [(h0, .inr (5, [.ref h1, .ref h2, .ref h3, .ref h4, .int wp30324])), (h4, .inr (8, [.ref h6, .int wp30325])), (h6, .inl (y 1, 3, .inr (.inl (fun _ => 0))))] sz) [(h0, .inr (5, [.ref h1, .ref h2, .ref h3, .ref h4, .int wp30324])), (h4, .inr (8, [.ref h6, .int wp30325])), (h6, .inl (y 1, 3, .inr (.inl (fun _ => 0))))]) (va_A [(h0, .inr (5, [.ref h1, .ref h2, .ref h3, .ref h4, .int wp30324])), (h4, .inr (8, [.ref h6, .int wp30325])), (h6, .inl (y 1, 3, .inr (.inl (fun _ => 0))))] sz)) 0 0 (va_A [(h0, .inr (5, [.ref h1, .ref h2, .ref h3, .ref h4, .int wp30324])), (h4, .inr (8, [.ref h6, .int wp30325])), (h6, .inl (y 1, 3, .inr (.inl (fun _ => 0))))] sz) := by
  refine g_of (by decide) (Nat.le_of_ble_eq_true rfl) ?_
  intro p e s m below meth c ls A hx hb hr hml hown hg hlocks hin hsz hK hP hD hS hA hAe hl
  rw [← hAe]
  replace hown : s.vm.findClass RX5 = some m.cls := hown
  replace hl : lv_has ls 6 [(0, .ref h0), (1, .int 2), (2, .int 2)] := hl
  refine lv_aload_n hx hb dX5_find_0 rfl (lv_at hl 0 rfl) ?_
  refine gm_get (D := D) (ci := 5) (v := .ref h4) (C := RX5) (T := TX5) (N := 5) hx hb hg inlX5 hown hK.1 hP 0 rfl rfl 3 (by decide) tX5_3 (hg _ gw_141) rfl dX5_find_1 ?_
  refine lv_iload_n hx hb dX5_find_4 rfl (lv_at hl 1 rfl) ?_
  refine g_ai (wr := [(h0, .inr (5, [.ref h1, .ref h2, .ref h3, .ref h4, .int wp30324]))]) (va_runV (As := [.int 2]) (rest := []) ⟨hx, hb, hml, hown, hg⟩ (k_X8_whole_29 l D y aS s.heap.size h4 h6 wp30325) (cwV 1 hg ggV_RX5_50_X8_whole rfl rfl rfl (by decide +kernel) ⟨Nat.le_of_ble_eq_true rfl, Nat.le_of_ble_eq_true rfl⟩) (g_preV (q := (RX8, TX8, 2)) hK hP hD [1, 2] rfl (by decide) (ci := 8) (q0 := 1) rfl rfl) rfl rfl hl.1 rfl (lv_room (Nat.le_of_ble_eq_true rfl)) dX5_find_5 ⟨Nat.le_of_ble_eq_true rfl, Nat.le_of_ble_eq_true rfl⟩) hP hD hS hA [1, 2] [0] rfl rfl (by decide) (by decide) ?_
  clear hP hD hS
  refine fun r30326 u H locs hq hP hD hS => ?_
  subst hq
  replace hP : va_P D vwCl [(h0, .inr (5, [.ref h1, .ref h2, .ref h3, .ref h4, .int wp30324])), (h4, .inr (8, [.ref h6, .int wp30325])), (h6, .inl (y 1, 3, .inr (.inl (fun _ => 0))))] H := hP
  replace hD : va_D A [(h0, .inr (5, [.ref h1, .ref h2, .ref h3, .ref h4, .int wp30324])), (h4, .inr (8, [.ref h6, .int wp30325])), (h6, .inl (y 1, 3, .inr (.inl (fun _ => 0))))] := hD
  refine lv_istore_n (lv' := [(3, .int 0), (0, .ref h0), (1, .int 2), (2, .int 2)]) hx hb dX5_find_8 rfl hl (by decide) rfl ?_
  clear hl
  clear ls
  intro ls hl
  refine lv_iconst (v := 0) hx hb dX5_find_9 (by decide) ?_
  refine lv_istore (lv' := [(4, .int 0), (3, .int 0), (0, .ref h0), (1, .int 2), (2, .int 2)]) hx hb dX5_find_10 hl (by decide) rfl ?_
  clear hl
  clear ls
  intro ls hl
  refine lv_iload hx hb dX5_find_12 (lv_at hl 0 rfl) ?_
  refine lv_iload_n hx hb dX5_find_14 rfl (lv_at hl 1 rfl) ?_
  refine lv_icmp_ge (tgt := 67) hx hb dX5_find_15 (by decide) (fun _ => ?_) (fun c9 => absurd c9 (by decide +kernel))
  refine lv_iload_n hx hb dX5_find_67 rfl (lv_at hl 1 rfl) ?_
  refine lv_if_le (tgt := 107) hx hb dX5_find_68 (by decide) (fun _ => ?_) (fun c9 => absurd c9 (by decide +kernel))
  refine lv_iload hx hb dX5_find_107 (lv_at hl 0 rfl) ?_
  refine lv_if_le (tgt := 139) hx hb dX5_find_109 (by decide) (fun _ => ?_) (fun c9 => absurd c9 (by decide +kernel))
  exact g_vret hx hb hr hlocks () hP hD hS trivial (Nat.le_of_ble_eq_true rfl) (Nat.le_of_ble_eq_true rfl) dX5_find_139
set_option maxRecDepth 100000 in
set_option maxHeartbeats 4000000 in
theorem k_X5_findOut_3 (l : Launch) (D : va_G) (y : Nat → ClassId) (aS : Nat → Nat) (sz : Nat) (h0 : Nat) (h1 : Nat) (h2 : Nat) (h3 : Nat) (h4 : Nat) (wp30328 : Int32) (h6 : Nat) (h7 : Nat) (wp30329 : Int32) (wf30330 : Nat → Int64) (h10 : Nat) (wp30331 : Int32) : Met l yX5_findOut (Cond.code yX5_findOut cX5_findOut 3 none :: wsL_law) ({ frames := 2, cells := 0, slots := 0, locals := 46 } : Room) (va_Pc [.ref h0] (gI D y aS [(h0, .inr (5, [.ref h1, .ref h2, .ref h3, .ref h4, .int wp30328])), (h1, .inr (8, [.ref h6, .int 3])), (h2, .inr (8, [.ref h7, .int wp30329])), (h7, .inl (y 1, 200, .inr (.inl wf30330))), (h4, .inr (8, [.ref h10, .int wp30331])), (h10, .inl (y 1, 3, .inr (.inl (fun _ => 0))))] sz)) (va_Qv (fun (u : Unit) => True) (fun u => gO D (va_A [(h0, .inr (5, [.ref h1, .ref h2, .ref h3, .ref h4, .int wp30328])), (h1, .inr (8, [.ref h6, .int 3])), (h2, .inr (8, [.ref h7, .int wp30329])), (h7, .inl (y 1, 200, .inr (.inl wf30330))), (h4, .inr (8, [.ref h10, .int wp30331])), (h10, .inl (y 1, 3, .inr (.inl (fun _ => 0))))] sz) [(h0, .inr (5, [.ref h1, .ref h2, .ref h3, .ref h4, .int 3])), (h1, .inr (8, [.ref h6, .int 3])), (h2, .inr (8, [.ref h7, .int wp30329])), (h7, .inl (y 1, 200, .inr (.inl (vp_updL (vp_updL (vp_updL wf30330 ((0 : Int32).toNatClampNeg) 0) ((1 : Int32).toNatClampNeg) 0) ((2 : Int32).toNatClampNeg) 0)))), (h4, .inr (8, [.ref h10, .int wp30331])), (h10, .inl (y 1, 3, .inr (.inl (fun _ => 0))))]) (va_A [(h0, .inr (5, [.ref h1, .ref h2, .ref h3, .ref h4, .int wp30328])), (h1, .inr (8, [.ref h6, .int 3])), (h2, .inr (8, [.ref h7, .int wp30329])), (h7, .inl (y 1, 200, .inr (.inl wf30330))), (h4, .inr (8, [.ref h10, .int wp30331])), (h10, .inl (y 1, 3, .inr (.inl (fun _ => 0))))] sz)) 0 0 (va_A [(h0, .inr (5, [.ref h1, .ref h2, .ref h3, .ref h4, .int wp30328])), (h1, .inr (8, [.ref h6, .int 3])), (h2, .inr (8, [.ref h7, .int wp30329])), (h7, .inl (y 1, 200, .inr (.inl wf30330))), (h4, .inr (8, [.ref h10, .int wp30331])), (h10, .inl (y 1, 3, .inr (.inl (fun _ => 0))))] sz) := by
  refine g_of (by decide) (Nat.le_of_ble_eq_true rfl) ?_
  intro p e s m below meth c ls A hx hb hr hml hown hg hlocks hin hsz hK hP hD hS hA hAe hl
  rw [← hAe]
  replace hown : s.vm.findClass RX5 = some m.cls := hown
  replace hl : lv_has ls 3 [(0, .ref h0)] := hl
  refine lv_aload_n hx hb dX5_findOut_0 rfl (lv_at hl 0 rfl) ?_
  refine lv_aload_n hx hb dX5_findOut_1 rfl (lv_at hl 0 rfl) ?_
  refine gm_get (D := D) (ci := 5) (v := .ref h1) (C := RX5) (T := TX5) (N := 5) hx hb hg inlX5 hown hK.1 hP 0 rfl rfl 0 (by decide) tX5_0 (hg _ gw_138) rfl dX5_findOut_2 ?_
  refine gm_get (D := D) (ci := 8) (v := .int 3) (C := RX8) (T := TX8) (N := 2) hx hb hg inlX8 hown hK.1 hP 1 rfl rfl 1 (by decide) tX8_1 (hg _ gw_1441) rfl dX5_findOut_5 ?_
  refine gm_put (D := D) (ci := 5) (v := .int 3) (ty := .int) (C := RX5) (T := TX5) (N := 5) hx hb hg inlX5 tyX5 tyX5_ok nmX5 hown hK.1 hP hD hS 0 rfl rfl 4 (by decide) tX5_4 (hg _ gw_1442) (by decide +kernel) rfl rfl (Nat.le_of_ble_eq_true rfl) dX5_findOut_8 ?_
  clear hP hD hS
  refine fun H locs (hP : va_P D vwCl [(h0, .inr (5, [.ref h1, .ref h2, .ref h3, .ref h4, .int 3])), (h1, .inr (8, [.ref h6, .int 3])), (h2, .inr (8, [.ref h7, .int wp30329])), (h7, .inl (y 1, 200, .inr (.inl wf30330))), (h4, .inr (8, [.ref h10, .int wp30331])), (h10, .inl (y 1, 3, .inr (.inl (fun _ => 0))))] H) (hD : va_D A [(h0, .inr (5, [.ref h1, .ref h2, .ref h3, .ref h4, .int 3])), (h1, .inr (8, [.ref h6, .int 3])), (h2, .inr (8, [.ref h7, .int wp30329])), (h7, .inl (y 1, 200, .inr (.inl wf30330))), (h4, .inr (8, [.ref h10, .int wp30331])), (h10, .inl (y 1, 3, .inr (.inl (fun _ => 0))))]) hS => ?_
  refine lv_iconst (v := 0) hx hb dX5_findOut_11 (by decide) ?_
  refine lv_istore_n (lv' := [(1, .int 0), (0, .ref h0)]) hx hb dX5_findOut_12 rfl hl (by decide) rfl ?_
  clear hl
  clear ls
  intro ls hl
  refine lv_iload_n hx hb dX5_findOut_13 rfl (lv_at hl 0 rfl) ?_
  refine lv_aload_n hx hb dX5_findOut_14 rfl (lv_at hl 1 rfl) ?_
  refine gm_get (D := D) (ci := 5) (v := .ref h1) (C := RX5) (T := TX5) (N := 5) hx hb hg inlX5 hown hK.1 hP 0 rfl rfl 0 (by decide) tX5_0 (hg _ gw_138) rfl dX5_findOut_15 ?_
  refine gm_get (D := D) (ci := 8) (v := .int 3) (C := RX8) (T := TX8) (N := 2) hx hb hg inlX8 hown hK.1 hP 1 rfl rfl 1 (by decide) tX8_1 (hg _ gw_1441) rfl dX5_findOut_18 ?_
  refine lv_icmp_ge (tgt := 39) hx hb dX5_findOut_21 (by decide) (fun c9 => absurd c9 (by decide +kernel)) (fun _ => ?_)
  refine lv_aload_n hx hb dX5_findOut_24 rfl (lv_at hl 1 rfl) ?_
  refine gm_get (D := D) (ci := 5) (v := .ref h2) (C := RX5) (T := TX5) (N := 5) hx hb hg inlX5 hown hK.1 hP 0 rfl rfl 1 (by decide) tX5_1 (hg _ gw_139) rfl dX5_findOut_25 ?_
  refine lv_iload_n hx hb dX5_findOut_28 rfl (lv_at hl 0 rfl) ?_
  refine lv_lconst (v := 0) hx hb dX5_findOut_29 (by decide) ?_
  refine g_av (wr := [(h0, .inr (5, [.ref h1, .ref h2, .ref h3, .ref h4, .int 3])), (h1, .inr (8, [.ref h6, .int 3])), (h4, .inr (8, [.ref h10, .int wp30331])), (h10, .inl (y 1, 3, .inr (.inl (fun _ => 0))))]) (va_runV (As := [.int 0, .long 0]) (rest := []) ⟨hx, hb, hml, hown, hg⟩ (k_X8_set_45 l D y aS H.size h2 0 h7 wp30329 wf30330) (cwV 2 hg ggV_RX5_29_X8_set rfl rfl rfl (by decide +kernel) ⟨Nat.le_of_ble_eq_true rfl, Nat.le_of_ble_eq_true rfl⟩) (g_preV (q := (RX8, TX8, 2)) hK hP hD [2, 3] rfl (by decide) (ci := 8) (q0 := 2) rfl rfl) rfl rfl hl.1 rfl (lv_room (Nat.le_of_ble_eq_true rfl)) dX5_findOut_30 ⟨Nat.le_of_ble_eq_true rfl, Nat.le_of_ble_eq_true rfl⟩) hP hD hS hA [2, 3] [0, 1, 4, 5] rfl rfl (by decide) (by decide) ?_
  clear hP hD hS H locs
  refine fun u H locs hq hP hD hS => ?_
  replace hP : va_P D vwCl [(h0, .inr (5, [.ref h1, .ref h2, .ref h3, .ref h4, .int 3])), (h1, .inr (8, [.ref h6, .int 3])), (h4, .inr (8, [.ref h10, .int wp30331])), (h10, .inl (y 1, 3, .inr (.inl (fun _ => 0)))), (h2, .inr (8, [.ref h7, .int wp30329])), (h7, .inl (y 1, 200, .inr (.inl (vp_updL wf30330 ((0 : Int32).toNatClampNeg) 0))))] H := hP
  replace hD : va_D A [(h0, .inr (5, [.ref h1, .ref h2, .ref h3, .ref h4, .int 3])), (h1, .inr (8, [.ref h6, .int 3])), (h4, .inr (8, [.ref h10, .int wp30331])), (h10, .inl (y 1, 3, .inr (.inl (fun _ => 0)))), (h2, .inr (8, [.ref h7, .int wp30329])), (h7, .inl (y 1, 200, .inr (.inl (vp_updL wf30330 ((0 : Int32).toNatClampNeg) 0))))] := hD
  refine lv_iinc (v := 1) (lv' := [(1, .int 1), (0, .ref h0)]) hx hb dX5_findOut_33 hl (k := 0) rfl (by decide +kernel) (by decide) rfl ?_
  clear hl
  clear ls
  intro ls hl
  refine lv_goto (tgt := 13) hx hb dX5_findOut_36 (by decide) ?_
  refine lv_iload_n hx hb dX5_findOut_13 rfl (lv_at hl 0 rfl) ?_
  refine lv_aload_n hx hb dX5_findOut_14 rfl (lv_at hl 1 rfl) ?_
  refine gm_get (D := D) (ci := 5) (v := .ref h1) (C := RX5) (T := TX5) (N := 5) hx hb hg inlX5 hown hK.1 hP 0 rfl rfl 0 (by decide) tX5_0 (hg _ gw_138) rfl dX5_findOut_15 ?_
  refine gm_get (D := D) (ci := 8) (v := .int 3) (C := RX8) (T := TX8) (N := 2) hx hb hg inlX8 hown hK.1 hP 1 rfl rfl 1 (by decide) tX8_1 (hg _ gw_1441) rfl dX5_findOut_18 ?_
  refine lv_icmp_ge (tgt := 39) hx hb dX5_findOut_21 (by decide) (fun c9 => absurd c9 (by decide +kernel)) (fun _ => ?_)
  refine lv_aload_n hx hb dX5_findOut_24 rfl (lv_at hl 1 rfl) ?_
  refine gm_get (D := D) (ci := 5) (v := .ref h2) (C := RX5) (T := TX5) (N := 5) hx hb hg inlX5 hown hK.1 hP 0 rfl rfl 1 (by decide) tX5_1 (hg _ gw_139) rfl dX5_findOut_25 ?_
  refine lv_iload_n hx hb dX5_findOut_28 rfl (lv_at hl 0 rfl) ?_
  refine lv_lconst (v := 0) hx hb dX5_findOut_29 (by decide) ?_
  refine g_av (wr := [(h0, .inr (5, [.ref h1, .ref h2, .ref h3, .ref h4, .int 3])), (h1, .inr (8, [.ref h6, .int 3])), (h4, .inr (8, [.ref h10, .int wp30331])), (h10, .inl (y 1, 3, .inr (.inl (fun _ => 0))))]) (va_runV (As := [.int 1, .long 0]) (rest := []) ⟨hx, hb, hml, hown, hg⟩ (k_X8_set_46 l D y aS H.size h2 0 h7 wp30329 (vp_updL wf30330 ((0 : Int32).toNatClampNeg) 0)) (cwV 2 hg ggV_RX5_29_X8_set rfl rfl rfl (by decide +kernel) ⟨Nat.le_of_ble_eq_true rfl, Nat.le_of_ble_eq_true rfl⟩) (g_preV (q := (RX8, TX8, 2)) hK hP hD [4, 5] rfl (by decide) (ci := 8) (q0 := 4) rfl rfl) rfl rfl hl.1 rfl (lv_room (Nat.le_of_ble_eq_true rfl)) dX5_findOut_30 ⟨Nat.le_of_ble_eq_true rfl, Nat.le_of_ble_eq_true rfl⟩) hP hD hS hA [4, 5] [0, 1, 2, 3] rfl rfl (by decide) (by decide) ?_
  clear hP hD hS H locs
  refine fun u H locs hq hP hD hS => ?_
  replace hP : va_P D vwCl [(h0, .inr (5, [.ref h1, .ref h2, .ref h3, .ref h4, .int 3])), (h1, .inr (8, [.ref h6, .int 3])), (h4, .inr (8, [.ref h10, .int wp30331])), (h10, .inl (y 1, 3, .inr (.inl (fun _ => 0)))), (h2, .inr (8, [.ref h7, .int wp30329])), (h7, .inl (y 1, 200, .inr (.inl (vp_updL (vp_updL wf30330 ((0 : Int32).toNatClampNeg) 0) ((1 : Int32).toNatClampNeg) 0))))] H := hP
  replace hD : va_D A [(h0, .inr (5, [.ref h1, .ref h2, .ref h3, .ref h4, .int 3])), (h1, .inr (8, [.ref h6, .int 3])), (h4, .inr (8, [.ref h10, .int wp30331])), (h10, .inl (y 1, 3, .inr (.inl (fun _ => 0)))), (h2, .inr (8, [.ref h7, .int wp30329])), (h7, .inl (y 1, 200, .inr (.inl (vp_updL (vp_updL wf30330 ((0 : Int32).toNatClampNeg) 0) ((1 : Int32).toNatClampNeg) 0))))] := hD
  refine lv_iinc (v := 2) (lv' := [(1, .int 2), (0, .ref h0)]) hx hb dX5_findOut_33 hl (k := 0) rfl (by decide +kernel) (by decide) rfl ?_
  clear hl
  clear ls
  intro ls hl
  refine lv_goto (tgt := 13) hx hb dX5_findOut_36 (by decide) ?_
  refine lv_iload_n hx hb dX5_findOut_13 rfl (lv_at hl 0 rfl) ?_
  refine lv_aload_n hx hb dX5_findOut_14 rfl (lv_at hl 1 rfl) ?_
  refine gm_get (D := D) (ci := 5) (v := .ref h1) (C := RX5) (T := TX5) (N := 5) hx hb hg inlX5 hown hK.1 hP 0 rfl rfl 0 (by decide) tX5_0 (hg _ gw_138) rfl dX5_findOut_15 ?_
  refine gm_get (D := D) (ci := 8) (v := .int 3) (C := RX8) (T := TX8) (N := 2) hx hb hg inlX8 hown hK.1 hP 1 rfl rfl 1 (by decide) tX8_1 (hg _ gw_1441) rfl dX5_findOut_18 ?_
  refine lv_icmp_ge (tgt := 39) hx hb dX5_findOut_21 (by decide) (fun c9 => absurd c9 (by decide +kernel)) (fun _ => ?_)
  refine lv_aload_n hx hb dX5_findOut_24 rfl (lv_at hl 1 rfl) ?_
  refine gm_get (D := D) (ci := 5) (v := .ref h2) (C := RX5) (T := TX5) (N := 5) hx hb hg inlX5 hown hK.1 hP 0 rfl rfl 1 (by decide) tX5_1 (hg _ gw_139) rfl dX5_findOut_25 ?_
  refine lv_iload_n hx hb dX5_findOut_28 rfl (lv_at hl 0 rfl) ?_
  refine lv_lconst (v := 0) hx hb dX5_findOut_29 (by decide) ?_
  refine g_av (wr := [(h0, .inr (5, [.ref h1, .ref h2, .ref h3, .ref h4, .int 3])), (h1, .inr (8, [.ref h6, .int 3])), (h4, .inr (8, [.ref h10, .int wp30331])), (h10, .inl (y 1, 3, .inr (.inl (fun _ => 0))))]) (va_runV (As := [.int 2, .long 0]) (rest := []) ⟨hx, hb, hml, hown, hg⟩ (k_X8_set_47 l D y aS H.size h2 0 h7 wp30329 (vp_updL (vp_updL wf30330 ((0 : Int32).toNatClampNeg) 0) ((1 : Int32).toNatClampNeg) 0)) (cwV 2 hg ggV_RX5_29_X8_set rfl rfl rfl (by decide +kernel) ⟨Nat.le_of_ble_eq_true rfl, Nat.le_of_ble_eq_true rfl⟩) (g_preV (q := (RX8, TX8, 2)) hK hP hD [4, 5] rfl (by decide) (ci := 8) (q0 := 4) rfl rfl) rfl rfl hl.1 rfl (lv_room (Nat.le_of_ble_eq_true rfl)) dX5_findOut_30 ⟨Nat.le_of_ble_eq_true rfl, Nat.le_of_ble_eq_true rfl⟩) hP hD hS hA [4, 5] [0, 1, 2, 3] rfl rfl (by decide) (by decide) ?_
  clear hP hD hS H locs
  refine fun u H locs hq hP hD hS => ?_
  replace hP : va_P D vwCl [(h0, .inr (5, [.ref h1, .ref h2, .ref h3, .ref h4, .int 3])), (h1, .inr (8, [.ref h6, .int 3])), (h4, .inr (8, [.ref h10, .int wp30331])), (h10, .inl (y 1, 3, .inr (.inl (fun _ => 0)))), (h2, .inr (8, [.ref h7, .int wp30329])), (h7, .inl (y 1, 200, .inr (.inl (vp_updL (vp_updL (vp_updL wf30330 ((0 : Int32).toNatClampNeg) 0) ((1 : Int32).toNatClampNeg) 0) ((2 : Int32).toNatClampNeg) 0))))] H := hP
  replace hD : va_D A [(h0, .inr (5, [.ref h1, .ref h2, .ref h3, .ref h4, .int 3])), (h1, .inr (8, [.ref h6, .int 3])), (h4, .inr (8, [.ref h10, .int wp30331])), (h10, .inl (y 1, 3, .inr (.inl (fun _ => 0)))), (h2, .inr (8, [.ref h7, .int wp30329])), (h7, .inl (y 1, 200, .inr (.inl (vp_updL (vp_updL (vp_updL wf30330 ((0 : Int32).toNatClampNeg) 0) ((1 : Int32).toNatClampNeg) 0) ((2 : Int32).toNatClampNeg) 0))))] := hD
  refine lv_iinc (v := 3) (lv' := [(1, .int 3), (0, .ref h0)]) hx hb dX5_findOut_33 hl (k := 0) rfl (by decide +kernel) (by decide) rfl ?_
  clear hl
  clear ls
  intro ls hl
  refine lv_goto (tgt := 13) hx hb dX5_findOut_36 (by decide) ?_
  refine lv_iload_n hx hb dX5_findOut_13 rfl (lv_at hl 0 rfl) ?_
  refine lv_aload_n hx hb dX5_findOut_14 rfl (lv_at hl 1 rfl) ?_
  refine gm_get (D := D) (ci := 5) (v := .ref h1) (C := RX5) (T := TX5) (N := 5) hx hb hg inlX5 hown hK.1 hP 0 rfl rfl 0 (by decide) tX5_0 (hg _ gw_138) rfl dX5_findOut_15 ?_
  refine gm_get (D := D) (ci := 8) (v := .int 3) (C := RX8) (T := TX8) (N := 2) hx hb hg inlX8 hown hK.1 hP 1 rfl rfl 1 (by decide) tX8_1 (hg _ gw_1441) rfl dX5_findOut_18 ?_
  refine lv_icmp_ge (tgt := 39) hx hb dX5_findOut_21 (by decide) (fun _ => ?_) (fun c9 => absurd c9 (by decide +kernel))
  refine lv_iconst (v := 0) hx hb dX5_findOut_39 (by decide) ?_
  refine lv_istore_n (lv' := [(1, .int 0), (0, .ref h0)]) hx hb dX5_findOut_40 rfl hl (by decide) rfl ?_
  clear hl
  clear ls
  intro ls hl
  refine lv_iload_n hx hb dX5_findOut_41 rfl (lv_at hl 0 rfl) ?_
  refine lv_aload_n hx hb dX5_findOut_42 rfl (lv_at hl 1 rfl) ?_
  refine gm_get (D := D) (ci := 5) (v := .ref h1) (C := RX5) (T := TX5) (N := 5) hx hb hg inlX5 hown hK.1 hP 0 rfl rfl 0 (by decide) tX5_0 (hg _ gw_138) rfl dX5_findOut_43 ?_
  refine gm_get (D := D) (ci := 8) (v := .int 3) (C := RX8) (T := TX8) (N := 2) hx hb hg inlX8 hown hK.1 hP 1 rfl rfl 1 (by decide) tX8_1 (hg _ gw_1441) rfl dX5_findOut_46 ?_
  refine lv_icmp_ge (tgt := 77) hx hb dX5_findOut_49 (by decide) (fun c9 => absurd c9 (by decide +kernel)) (fun _ => ?_)
  refine lv_iconst (v := 0) hx hb dX5_findOut_52 (by decide) ?_
  refine lv_istore_n (lv' := [(2, .int 0), (1, .int 0), (0, .ref h0)]) hx hb dX5_findOut_53 rfl hl (by decide) rfl ?_
  clear hl
  clear ls
  intro ls hl
  refine lv_iload_n hx hb dX5_findOut_54 rfl (lv_at hl 0 rfl) ?_
  refine lv_iconst (v := 3) hx hb dX5_findOut_55 (by decide) ?_
  refine lv_icmp_ge (tgt := 71) hx hb dX5_findOut_56 (by decide) (fun c9 => absurd c9 (by decide +kernel)) (fun _ => ?_)
  refine lv_aload_n hx hb dX5_findOut_59 rfl (lv_at hl 2 rfl) ?_
  refine lv_iload_n hx hb dX5_findOut_60 rfl (lv_at hl 0 rfl) ?_
  refine lv_iload_n hx hb dX5_findOut_61 rfl (lv_at hl 1 rfl) ?_
  refine g_av (wr := [(h1, .inr (8, [.ref h6, .int 3])), (h2, .inr (8, [.ref h7, .int wp30329])), (h7, .inl (y 1, 200, .inr (.inl (vp_updL (vp_updL (vp_updL wf30330 ((0 : Int32).toNatClampNeg) 0) ((1 : Int32).toNatClampNeg) 0) ((2 : Int32).toNatClampNeg) 0))))]) (va_runV (As := [.int 0, .int 0]) (rest := []) ⟨hx, hb, hml, hown, hg⟩ (k_X5_find_0 l D y aS H.size h0 h1 h2 h3 h4 3 h10 wp30331) (cwV 2 hg ggV_RX5_54_X5_find rfl rfl rfl (by decide +kernel) ⟨Nat.le_of_ble_eq_true rfl, Nat.le_of_ble_eq_true rfl⟩) (g_preV (q := (RX5, TX5, 5)) hK hP hD [0, 2, 3] rfl (by decide) (ci := 5) (q0 := 0) rfl rfl) rfl rfl hl.1 rfl (lv_room (Nat.le_of_ble_eq_true rfl)) dX5_findOut_62 ⟨Nat.le_of_ble_eq_true rfl, Nat.le_of_ble_eq_true rfl⟩) hP hD hS hA [0, 2, 3] [1, 4, 5] rfl rfl (by decide) (by decide) ?_
  clear hP hD hS H locs
  refine fun u H locs hq hP hD hS => ?_
  replace hP : va_P D vwCl [(h1, .inr (8, [.ref h6, .int 3])), (h2, .inr (8, [.ref h7, .int wp30329])), (h7, .inl (y 1, 200, .inr (.inl (vp_updL (vp_updL (vp_updL wf30330 ((0 : Int32).toNatClampNeg) 0) ((1 : Int32).toNatClampNeg) 0) ((2 : Int32).toNatClampNeg) 0)))), (h0, .inr (5, [.ref h1, .ref h2, .ref h3, .ref h4, .int 3])), (h4, .inr (8, [.ref h10, .int wp30331])), (h10, .inl (y 1, 3, .inr (.inl (fun _ => 0))))] H := hP
  replace hD : va_D A [(h1, .inr (8, [.ref h6, .int 3])), (h2, .inr (8, [.ref h7, .int wp30329])), (h7, .inl (y 1, 200, .inr (.inl (vp_updL (vp_updL (vp_updL wf30330 ((0 : Int32).toNatClampNeg) 0) ((1 : Int32).toNatClampNeg) 0) ((2 : Int32).toNatClampNeg) 0)))), (h0, .inr (5, [.ref h1, .ref h2, .ref h3, .ref h4, .int 3])), (h4, .inr (8, [.ref h10, .int wp30331])), (h10, .inl (y 1, 3, .inr (.inl (fun _ => 0))))] := hD
  refine lv_iinc (v := 1) (lv' := [(2, .int 1), (1, .int 0), (0, .ref h0)]) hx hb dX5_findOut_65 hl (k := 0) rfl (by decide +kernel) (by decide) rfl ?_
  clear hl
  clear ls
  intro ls hl
  refine lv_goto (tgt := 54) hx hb dX5_findOut_68 (by decide) ?_
  refine lv_iload_n hx hb dX5_findOut_54 rfl (lv_at hl 0 rfl) ?_
  refine lv_iconst (v := 3) hx hb dX5_findOut_55 (by decide) ?_
  refine lv_icmp_ge (tgt := 71) hx hb dX5_findOut_56 (by decide) (fun c9 => absurd c9 (by decide +kernel)) (fun _ => ?_)
  refine lv_aload_n hx hb dX5_findOut_59 rfl (lv_at hl 2 rfl) ?_
  refine lv_iload_n hx hb dX5_findOut_60 rfl (lv_at hl 0 rfl) ?_
  refine lv_iload_n hx hb dX5_findOut_61 rfl (lv_at hl 1 rfl) ?_
  refine g_av (wr := [(h1, .inr (8, [.ref h6, .int 3])), (h2, .inr (8, [.ref h7, .int wp30329])), (h7, .inl (y 1, 200, .inr (.inl (vp_updL (vp_updL (vp_updL wf30330 ((0 : Int32).toNatClampNeg) 0) ((1 : Int32).toNatClampNeg) 0) ((2 : Int32).toNatClampNeg) 0))))]) (va_runV (As := [.int 1, .int 0]) (rest := []) ⟨hx, hb, hml, hown, hg⟩ (k_X5_find_1 l D y aS H.size h0 h1 h2 h3 h4 3 h10 wp30331) (cwV 2 hg ggV_RX5_54_X5_find rfl rfl rfl (by decide +kernel) ⟨Nat.le_of_ble_eq_true rfl, Nat.le_of_ble_eq_true rfl⟩) (g_preV (q := (RX5, TX5, 5)) hK hP hD [3, 4, 5] rfl (by decide) (ci := 5) (q0 := 3) rfl rfl) rfl rfl hl.1 rfl (lv_room (Nat.le_of_ble_eq_true rfl)) dX5_findOut_62 ⟨Nat.le_of_ble_eq_true rfl, Nat.le_of_ble_eq_true rfl⟩) hP hD hS hA [3, 4, 5] [0, 1, 2] rfl rfl (by decide) (by decide) ?_
  clear hP hD hS H locs
  refine fun u H locs hq hP hD hS => ?_
  replace hP : va_P D vwCl [(h1, .inr (8, [.ref h6, .int 3])), (h2, .inr (8, [.ref h7, .int wp30329])), (h7, .inl (y 1, 200, .inr (.inl (vp_updL (vp_updL (vp_updL wf30330 ((0 : Int32).toNatClampNeg) 0) ((1 : Int32).toNatClampNeg) 0) ((2 : Int32).toNatClampNeg) 0)))), (h0, .inr (5, [.ref h1, .ref h2, .ref h3, .ref h4, .int 3])), (h4, .inr (8, [.ref h10, .int wp30331])), (h10, .inl (y 1, 3, .inr (.inl (fun _ => 0))))] H := hP
  replace hD : va_D A [(h1, .inr (8, [.ref h6, .int 3])), (h2, .inr (8, [.ref h7, .int wp30329])), (h7, .inl (y 1, 200, .inr (.inl (vp_updL (vp_updL (vp_updL wf30330 ((0 : Int32).toNatClampNeg) 0) ((1 : Int32).toNatClampNeg) 0) ((2 : Int32).toNatClampNeg) 0)))), (h0, .inr (5, [.ref h1, .ref h2, .ref h3, .ref h4, .int 3])), (h4, .inr (8, [.ref h10, .int wp30331])), (h10, .inl (y 1, 3, .inr (.inl (fun _ => 0))))] := hD
  refine lv_iinc (v := 2) (lv' := [(2, .int 2), (1, .int 0), (0, .ref h0)]) hx hb dX5_findOut_65 hl (k := 0) rfl (by decide +kernel) (by decide) rfl ?_
  clear hl
  clear ls
  intro ls hl
  refine lv_goto (tgt := 54) hx hb dX5_findOut_68 (by decide) ?_
  refine lv_iload_n hx hb dX5_findOut_54 rfl (lv_at hl 0 rfl) ?_
  refine lv_iconst (v := 3) hx hb dX5_findOut_55 (by decide) ?_
  refine lv_icmp_ge (tgt := 71) hx hb dX5_findOut_56 (by decide) (fun c9 => absurd c9 (by decide +kernel)) (fun _ => ?_)
  refine lv_aload_n hx hb dX5_findOut_59 rfl (lv_at hl 2 rfl) ?_
  refine lv_iload_n hx hb dX5_findOut_60 rfl (lv_at hl 0 rfl) ?_
  refine lv_iload_n hx hb dX5_findOut_61 rfl (lv_at hl 1 rfl) ?_
  refine g_av (wr := [(h1, .inr (8, [.ref h6, .int 3])), (h2, .inr (8, [.ref h7, .int wp30329])), (h7, .inl (y 1, 200, .inr (.inl (vp_updL (vp_updL (vp_updL wf30330 ((0 : Int32).toNatClampNeg) 0) ((1 : Int32).toNatClampNeg) 0) ((2 : Int32).toNatClampNeg) 0))))]) (va_runV (As := [.int 2, .int 0]) (rest := []) ⟨hx, hb, hml, hown, hg⟩ (k_X5_find_2 l D y aS H.size h0 h1 h2 h3 h4 3 h10 wp30331) (cwV 2 hg ggV_RX5_54_X5_find rfl rfl rfl (by decide +kernel) ⟨Nat.le_of_ble_eq_true rfl, Nat.le_of_ble_eq_true rfl⟩) (g_preV (q := (RX5, TX5, 5)) hK hP hD [3, 4, 5] rfl (by decide) (ci := 5) (q0 := 3) rfl rfl) rfl rfl hl.1 rfl (lv_room (Nat.le_of_ble_eq_true rfl)) dX5_findOut_62 ⟨Nat.le_of_ble_eq_true rfl, Nat.le_of_ble_eq_true rfl⟩) hP hD hS hA [3, 4, 5] [0, 1, 2] rfl rfl (by decide) (by decide) ?_
  clear hP hD hS H locs
  refine fun u H locs hq hP hD hS => ?_
  replace hP : va_P D vwCl [(h1, .inr (8, [.ref h6, .int 3])), (h2, .inr (8, [.ref h7, .int wp30329])), (h7, .inl (y 1, 200, .inr (.inl (vp_updL (vp_updL (vp_updL wf30330 ((0 : Int32).toNatClampNeg) 0) ((1 : Int32).toNatClampNeg) 0) ((2 : Int32).toNatClampNeg) 0)))), (h0, .inr (5, [.ref h1, .ref h2, .ref h3, .ref h4, .int 3])), (h4, .inr (8, [.ref h10, .int wp30331])), (h10, .inl (y 1, 3, .inr (.inl (fun _ => 0))))] H := hP
  replace hD : va_D A [(h1, .inr (8, [.ref h6, .int 3])), (h2, .inr (8, [.ref h7, .int wp30329])), (h7, .inl (y 1, 200, .inr (.inl (vp_updL (vp_updL (vp_updL wf30330 ((0 : Int32).toNatClampNeg) 0) ((1 : Int32).toNatClampNeg) 0) ((2 : Int32).toNatClampNeg) 0)))), (h0, .inr (5, [.ref h1, .ref h2, .ref h3, .ref h4, .int 3])), (h4, .inr (8, [.ref h10, .int wp30331])), (h10, .inl (y 1, 3, .inr (.inl (fun _ => 0))))] := hD
  refine lv_iinc (v := 3) (lv' := [(2, .int 3), (1, .int 0), (0, .ref h0)]) hx hb dX5_findOut_65 hl (k := 0) rfl (by decide +kernel) (by decide) rfl ?_
  clear hl
  clear ls
  intro ls hl
  refine lv_goto (tgt := 54) hx hb dX5_findOut_68 (by decide) ?_
  refine lv_iload_n hx hb dX5_findOut_54 rfl (lv_at hl 0 rfl) ?_
  refine lv_iconst (v := 3) hx hb dX5_findOut_55 (by decide) ?_
  refine lv_icmp_ge (tgt := 71) hx hb dX5_findOut_56 (by decide) (fun _ => ?_) (fun c9 => absurd c9 (by decide +kernel))
  refine lv_iinc (v := 1) (lv' := [(1, .int 1), (2, .int 3), (0, .ref h0)]) hx hb dX5_findOut_71 hl (k := 1) rfl (by decide +kernel) (by decide) rfl ?_
  clear hl
  clear ls
  intro ls hl
  refine lv_goto (tgt := 41) hx hb dX5_findOut_74 (by decide) ?_
  refine lv_iload_n hx hb dX5_findOut_41 rfl (lv_at hl 0 rfl) ?_
  refine lv_aload_n hx hb dX5_findOut_42 rfl (lv_at hl 2 rfl) ?_
  refine gm_get (D := D) (ci := 5) (v := .ref h1) (C := RX5) (T := TX5) (N := 5) hx hb hg inlX5 hown hK.1 hP 3 rfl rfl 0 (by decide) tX5_0 (hg _ gw_138) rfl dX5_findOut_43 ?_
  refine gm_get (D := D) (ci := 8) (v := .int 3) (C := RX8) (T := TX8) (N := 2) hx hb hg inlX8 hown hK.1 hP 0 rfl rfl 1 (by decide) tX8_1 (hg _ gw_1441) rfl dX5_findOut_46 ?_
  refine lv_icmp_ge (tgt := 77) hx hb dX5_findOut_49 (by decide) (fun c9 => absurd c9 (by decide +kernel)) (fun _ => ?_)
  refine lv_iconst (v := 0) hx hb dX5_findOut_52 (by decide) ?_
  refine lv_istore_n (lv' := [(2, .int 0), (1, .int 1), (0, .ref h0)]) hx hb dX5_findOut_53 rfl hl (by decide) rfl ?_
  clear hl
  clear ls
  intro ls hl
  refine lv_iload_n hx hb dX5_findOut_54 rfl (lv_at hl 0 rfl) ?_
  refine lv_iconst (v := 3) hx hb dX5_findOut_55 (by decide) ?_
  refine lv_icmp_ge (tgt := 71) hx hb dX5_findOut_56 (by decide) (fun c9 => absurd c9 (by decide +kernel)) (fun _ => ?_)
  refine lv_aload_n hx hb dX5_findOut_59 rfl (lv_at hl 2 rfl) ?_
  refine lv_iload_n hx hb dX5_findOut_60 rfl (lv_at hl 0 rfl) ?_
  refine lv_iload_n hx hb dX5_findOut_61 rfl (lv_at hl 1 rfl) ?_
  refine g_av (wr := [(h1, .inr (8, [.ref h6, .int 3])), (h2, .inr (8, [.ref h7, .int wp30329])), (h7, .inl (y 1, 200, .inr (.inl (vp_updL (vp_updL (vp_updL wf30330 ((0 : Int32).toNatClampNeg) 0) ((1 : Int32).toNatClampNeg) 0) ((2 : Int32).toNatClampNeg) 0))))]) (va_runV (As := [.int 0, .int 1]) (rest := []) ⟨hx, hb, hml, hown, hg⟩ (k_X5_find_3 l D y aS H.size h0 h1 h2 h3 h4 3 h10 wp30331) (cwV 2 hg ggV_RX5_54_X5_find rfl rfl rfl (by decide +kernel) ⟨Nat.le_of_ble_eq_true rfl, Nat.le_of_ble_eq_true rfl⟩) (g_preV (q := (RX5, TX5, 5)) hK hP hD [3, 4, 5] rfl (by decide) (ci := 5) (q0 := 3) rfl rfl) rfl rfl hl.1 rfl (lv_room (Nat.le_of_ble_eq_true rfl)) dX5_findOut_62 ⟨Nat.le_of_ble_eq_true rfl, Nat.le_of_ble_eq_true rfl⟩) hP hD hS hA [3, 4, 5] [0, 1, 2] rfl rfl (by decide) (by decide) ?_
  clear hP hD hS H locs
  refine fun u H locs hq hP hD hS => ?_
  replace hP : va_P D vwCl [(h1, .inr (8, [.ref h6, .int 3])), (h2, .inr (8, [.ref h7, .int wp30329])), (h7, .inl (y 1, 200, .inr (.inl (vp_updL (vp_updL (vp_updL wf30330 ((0 : Int32).toNatClampNeg) 0) ((1 : Int32).toNatClampNeg) 0) ((2 : Int32).toNatClampNeg) 0)))), (h0, .inr (5, [.ref h1, .ref h2, .ref h3, .ref h4, .int 3])), (h4, .inr (8, [.ref h10, .int wp30331])), (h10, .inl (y 1, 3, .inr (.inl (fun _ => 0))))] H := hP
  replace hD : va_D A [(h1, .inr (8, [.ref h6, .int 3])), (h2, .inr (8, [.ref h7, .int wp30329])), (h7, .inl (y 1, 200, .inr (.inl (vp_updL (vp_updL (vp_updL wf30330 ((0 : Int32).toNatClampNeg) 0) ((1 : Int32).toNatClampNeg) 0) ((2 : Int32).toNatClampNeg) 0)))), (h0, .inr (5, [.ref h1, .ref h2, .ref h3, .ref h4, .int 3])), (h4, .inr (8, [.ref h10, .int wp30331])), (h10, .inl (y 1, 3, .inr (.inl (fun _ => 0))))] := hD
  refine lv_iinc (v := 1) (lv' := [(2, .int 1), (1, .int 1), (0, .ref h0)]) hx hb dX5_findOut_65 hl (k := 0) rfl (by decide +kernel) (by decide) rfl ?_
  clear hl
  clear ls
  intro ls hl
  refine lv_goto (tgt := 54) hx hb dX5_findOut_68 (by decide) ?_
  refine lv_iload_n hx hb dX5_findOut_54 rfl (lv_at hl 0 rfl) ?_
  refine lv_iconst (v := 3) hx hb dX5_findOut_55 (by decide) ?_
  refine lv_icmp_ge (tgt := 71) hx hb dX5_findOut_56 (by decide) (fun c9 => absurd c9 (by decide +kernel)) (fun _ => ?_)
  refine lv_aload_n hx hb dX5_findOut_59 rfl (lv_at hl 2 rfl) ?_
  refine lv_iload_n hx hb dX5_findOut_60 rfl (lv_at hl 0 rfl) ?_
  refine lv_iload_n hx hb dX5_findOut_61 rfl (lv_at hl 1 rfl) ?_
  refine g_av (wr := [(h1, .inr (8, [.ref h6, .int 3])), (h2, .inr (8, [.ref h7, .int wp30329])), (h7, .inl (y 1, 200, .inr (.inl (vp_updL (vp_updL (vp_updL wf30330 ((0 : Int32).toNatClampNeg) 0) ((1 : Int32).toNatClampNeg) 0) ((2 : Int32).toNatClampNeg) 0))))]) (va_runV (As := [.int 1, .int 1]) (rest := []) ⟨hx, hb, hml, hown, hg⟩ (k_X5_find_4 l D y aS H.size h0 h1 h2 h3 h4 3 h10 wp30331) (cwV 2 hg ggV_RX5_54_X5_find rfl rfl rfl (by decide +kernel) ⟨Nat.le_of_ble_eq_true rfl, Nat.le_of_ble_eq_true rfl⟩) (g_preV (q := (RX5, TX5, 5)) hK hP hD [3, 4, 5] rfl (by decide) (ci := 5) (q0 := 3) rfl rfl) rfl rfl hl.1 rfl (lv_room (Nat.le_of_ble_eq_true rfl)) dX5_findOut_62 ⟨Nat.le_of_ble_eq_true rfl, Nat.le_of_ble_eq_true rfl⟩) hP hD hS hA [3, 4, 5] [0, 1, 2] rfl rfl (by decide) (by decide) ?_
  clear hP hD hS H locs
  refine fun u H locs hq hP hD hS => ?_
  replace hP : va_P D vwCl [(h1, .inr (8, [.ref h6, .int 3])), (h2, .inr (8, [.ref h7, .int wp30329])), (h7, .inl (y 1, 200, .inr (.inl (vp_updL (vp_updL (vp_updL wf30330 ((0 : Int32).toNatClampNeg) 0) ((1 : Int32).toNatClampNeg) 0) ((2 : Int32).toNatClampNeg) 0)))), (h0, .inr (5, [.ref h1, .ref h2, .ref h3, .ref h4, .int 3])), (h4, .inr (8, [.ref h10, .int wp30331])), (h10, .inl (y 1, 3, .inr (.inl (fun _ => 0))))] H := hP
  replace hD : va_D A [(h1, .inr (8, [.ref h6, .int 3])), (h2, .inr (8, [.ref h7, .int wp30329])), (h7, .inl (y 1, 200, .inr (.inl (vp_updL (vp_updL (vp_updL wf30330 ((0 : Int32).toNatClampNeg) 0) ((1 : Int32).toNatClampNeg) 0) ((2 : Int32).toNatClampNeg) 0)))), (h0, .inr (5, [.ref h1, .ref h2, .ref h3, .ref h4, .int 3])), (h4, .inr (8, [.ref h10, .int wp30331])), (h10, .inl (y 1, 3, .inr (.inl (fun _ => 0))))] := hD
  refine lv_iinc (v := 2) (lv' := [(2, .int 2), (1, .int 1), (0, .ref h0)]) hx hb dX5_findOut_65 hl (k := 0) rfl (by decide +kernel) (by decide) rfl ?_
  clear hl
  clear ls
  intro ls hl
  refine lv_goto (tgt := 54) hx hb dX5_findOut_68 (by decide) ?_
  refine lv_iload_n hx hb dX5_findOut_54 rfl (lv_at hl 0 rfl) ?_
  refine lv_iconst (v := 3) hx hb dX5_findOut_55 (by decide) ?_
  refine lv_icmp_ge (tgt := 71) hx hb dX5_findOut_56 (by decide) (fun c9 => absurd c9 (by decide +kernel)) (fun _ => ?_)
  refine lv_aload_n hx hb dX5_findOut_59 rfl (lv_at hl 2 rfl) ?_
  refine lv_iload_n hx hb dX5_findOut_60 rfl (lv_at hl 0 rfl) ?_
  refine lv_iload_n hx hb dX5_findOut_61 rfl (lv_at hl 1 rfl) ?_
  refine g_av (wr := [(h1, .inr (8, [.ref h6, .int 3])), (h2, .inr (8, [.ref h7, .int wp30329])), (h7, .inl (y 1, 200, .inr (.inl (vp_updL (vp_updL (vp_updL wf30330 ((0 : Int32).toNatClampNeg) 0) ((1 : Int32).toNatClampNeg) 0) ((2 : Int32).toNatClampNeg) 0))))]) (va_runV (As := [.int 2, .int 1]) (rest := []) ⟨hx, hb, hml, hown, hg⟩ (k_X5_find_5 l D y aS H.size h0 h1 h2 h3 h4 3 h10 wp30331) (cwV 2 hg ggV_RX5_54_X5_find rfl rfl rfl (by decide +kernel) ⟨Nat.le_of_ble_eq_true rfl, Nat.le_of_ble_eq_true rfl⟩) (g_preV (q := (RX5, TX5, 5)) hK hP hD [3, 4, 5] rfl (by decide) (ci := 5) (q0 := 3) rfl rfl) rfl rfl hl.1 rfl (lv_room (Nat.le_of_ble_eq_true rfl)) dX5_findOut_62 ⟨Nat.le_of_ble_eq_true rfl, Nat.le_of_ble_eq_true rfl⟩) hP hD hS hA [3, 4, 5] [0, 1, 2] rfl rfl (by decide) (by decide) ?_
  clear hP hD hS H locs
  refine fun u H locs hq hP hD hS => ?_
  replace hP : va_P D vwCl [(h1, .inr (8, [.ref h6, .int 3])), (h2, .inr (8, [.ref h7, .int wp30329])), (h7, .inl (y 1, 200, .inr (.inl (vp_updL (vp_updL (vp_updL wf30330 ((0 : Int32).toNatClampNeg) 0) ((1 : Int32).toNatClampNeg) 0) ((2 : Int32).toNatClampNeg) 0)))), (h0, .inr (5, [.ref h1, .ref h2, .ref h3, .ref h4, .int 3])), (h4, .inr (8, [.ref h10, .int wp30331])), (h10, .inl (y 1, 3, .inr (.inl (fun _ => 0))))] H := hP
  replace hD : va_D A [(h1, .inr (8, [.ref h6, .int 3])), (h2, .inr (8, [.ref h7, .int wp30329])), (h7, .inl (y 1, 200, .inr (.inl (vp_updL (vp_updL (vp_updL wf30330 ((0 : Int32).toNatClampNeg) 0) ((1 : Int32).toNatClampNeg) 0) ((2 : Int32).toNatClampNeg) 0)))), (h0, .inr (5, [.ref h1, .ref h2, .ref h3, .ref h4, .int 3])), (h4, .inr (8, [.ref h10, .int wp30331])), (h10, .inl (y 1, 3, .inr (.inl (fun _ => 0))))] := hD
  refine lv_iinc (v := 3) (lv' := [(2, .int 3), (1, .int 1), (0, .ref h0)]) hx hb dX5_findOut_65 hl (k := 0) rfl (by decide +kernel) (by decide) rfl ?_
  clear hl
  clear ls
  intro ls hl
  refine lv_goto (tgt := 54) hx hb dX5_findOut_68 (by decide) ?_
  refine lv_iload_n hx hb dX5_findOut_54 rfl (lv_at hl 0 rfl) ?_
  refine lv_iconst (v := 3) hx hb dX5_findOut_55 (by decide) ?_
  refine lv_icmp_ge (tgt := 71) hx hb dX5_findOut_56 (by decide) (fun _ => ?_) (fun c9 => absurd c9 (by decide +kernel))
  refine lv_iinc (v := 2) (lv' := [(1, .int 2), (2, .int 3), (0, .ref h0)]) hx hb dX5_findOut_71 hl (k := 1) rfl (by decide +kernel) (by decide) rfl ?_
  clear hl
  clear ls
  intro ls hl
  refine lv_goto (tgt := 41) hx hb dX5_findOut_74 (by decide) ?_
  refine lv_iload_n hx hb dX5_findOut_41 rfl (lv_at hl 0 rfl) ?_
  refine lv_aload_n hx hb dX5_findOut_42 rfl (lv_at hl 2 rfl) ?_
  refine gm_get (D := D) (ci := 5) (v := .ref h1) (C := RX5) (T := TX5) (N := 5) hx hb hg inlX5 hown hK.1 hP 3 rfl rfl 0 (by decide) tX5_0 (hg _ gw_138) rfl dX5_findOut_43 ?_
  refine gm_get (D := D) (ci := 8) (v := .int 3) (C := RX8) (T := TX8) (N := 2) hx hb hg inlX8 hown hK.1 hP 0 rfl rfl 1 (by decide) tX8_1 (hg _ gw_1441) rfl dX5_findOut_46 ?_
  refine lv_icmp_ge (tgt := 77) hx hb dX5_findOut_49 (by decide) (fun c9 => absurd c9 (by decide +kernel)) (fun _ => ?_)
  refine lv_iconst (v := 0) hx hb dX5_findOut_52 (by decide) ?_
  refine lv_istore_n (lv' := [(2, .int 0), (1, .int 2), (0, .ref h0)]) hx hb dX5_findOut_53 rfl hl (by decide) rfl ?_
  clear hl
  clear ls
  intro ls hl
  refine lv_iload_n hx hb dX5_findOut_54 rfl (lv_at hl 0 rfl) ?_
  refine lv_iconst (v := 3) hx hb dX5_findOut_55 (by decide) ?_
  refine lv_icmp_ge (tgt := 71) hx hb dX5_findOut_56 (by decide) (fun c9 => absurd c9 (by decide +kernel)) (fun _ => ?_)
  refine lv_aload_n hx hb dX5_findOut_59 rfl (lv_at hl 2 rfl) ?_
  refine lv_iload_n hx hb dX5_findOut_60 rfl (lv_at hl 0 rfl) ?_
  refine lv_iload_n hx hb dX5_findOut_61 rfl (lv_at hl 1 rfl) ?_
  refine g_av (wr := [(h1, .inr (8, [.ref h6, .int 3])), (h2, .inr (8, [.ref h7, .int wp30329])), (h7, .inl (y 1, 200, .inr (.inl (vp_updL (vp_updL (vp_updL wf30330 ((0 : Int32).toNatClampNeg) 0) ((1 : Int32).toNatClampNeg) 0) ((2 : Int32).toNatClampNeg) 0))))]) (va_runV (As := [.int 0, .int 2]) (rest := []) ⟨hx, hb, hml, hown, hg⟩ (k_X5_find_6 l D y aS H.size h0 h1 h2 h3 h4 3 h10 wp30331) (cwV 2 hg ggV_RX5_54_X5_find rfl rfl rfl (by decide +kernel) ⟨Nat.le_of_ble_eq_true rfl, Nat.le_of_ble_eq_true rfl⟩) (g_preV (q := (RX5, TX5, 5)) hK hP hD [3, 4, 5] rfl (by decide) (ci := 5) (q0 := 3) rfl rfl) rfl rfl hl.1 rfl (lv_room (Nat.le_of_ble_eq_true rfl)) dX5_findOut_62 ⟨Nat.le_of_ble_eq_true rfl, Nat.le_of_ble_eq_true rfl⟩) hP hD hS hA [3, 4, 5] [0, 1, 2] rfl rfl (by decide) (by decide) ?_
  clear hP hD hS H locs
  refine fun u H locs hq hP hD hS => ?_
  replace hP : va_P D vwCl [(h1, .inr (8, [.ref h6, .int 3])), (h2, .inr (8, [.ref h7, .int wp30329])), (h7, .inl (y 1, 200, .inr (.inl (vp_updL (vp_updL (vp_updL wf30330 ((0 : Int32).toNatClampNeg) 0) ((1 : Int32).toNatClampNeg) 0) ((2 : Int32).toNatClampNeg) 0)))), (h0, .inr (5, [.ref h1, .ref h2, .ref h3, .ref h4, .int 3])), (h4, .inr (8, [.ref h10, .int wp30331])), (h10, .inl (y 1, 3, .inr (.inl (fun _ => 0))))] H := hP
  replace hD : va_D A [(h1, .inr (8, [.ref h6, .int 3])), (h2, .inr (8, [.ref h7, .int wp30329])), (h7, .inl (y 1, 200, .inr (.inl (vp_updL (vp_updL (vp_updL wf30330 ((0 : Int32).toNatClampNeg) 0) ((1 : Int32).toNatClampNeg) 0) ((2 : Int32).toNatClampNeg) 0)))), (h0, .inr (5, [.ref h1, .ref h2, .ref h3, .ref h4, .int 3])), (h4, .inr (8, [.ref h10, .int wp30331])), (h10, .inl (y 1, 3, .inr (.inl (fun _ => 0))))] := hD
  refine lv_iinc (v := 1) (lv' := [(2, .int 1), (1, .int 2), (0, .ref h0)]) hx hb dX5_findOut_65 hl (k := 0) rfl (by decide +kernel) (by decide) rfl ?_
  clear hl
  clear ls
  intro ls hl
  refine lv_goto (tgt := 54) hx hb dX5_findOut_68 (by decide) ?_
  refine lv_iload_n hx hb dX5_findOut_54 rfl (lv_at hl 0 rfl) ?_
  refine lv_iconst (v := 3) hx hb dX5_findOut_55 (by decide) ?_
  refine lv_icmp_ge (tgt := 71) hx hb dX5_findOut_56 (by decide) (fun c9 => absurd c9 (by decide +kernel)) (fun _ => ?_)
  refine lv_aload_n hx hb dX5_findOut_59 rfl (lv_at hl 2 rfl) ?_
  refine lv_iload_n hx hb dX5_findOut_60 rfl (lv_at hl 0 rfl) ?_
  refine lv_iload_n hx hb dX5_findOut_61 rfl (lv_at hl 1 rfl) ?_
  refine g_av (wr := [(h1, .inr (8, [.ref h6, .int 3])), (h2, .inr (8, [.ref h7, .int wp30329])), (h7, .inl (y 1, 200, .inr (.inl (vp_updL (vp_updL (vp_updL wf30330 ((0 : Int32).toNatClampNeg) 0) ((1 : Int32).toNatClampNeg) 0) ((2 : Int32).toNatClampNeg) 0))))]) (va_runV (As := [.int 1, .int 2]) (rest := []) ⟨hx, hb, hml, hown, hg⟩ (k_X5_find_7 l D y aS H.size h0 h1 h2 h3 h4 3 h10 wp30331) (cwV 2 hg ggV_RX5_54_X5_find rfl rfl rfl (by decide +kernel) ⟨Nat.le_of_ble_eq_true rfl, Nat.le_of_ble_eq_true rfl⟩) (g_preV (q := (RX5, TX5, 5)) hK hP hD [3, 4, 5] rfl (by decide) (ci := 5) (q0 := 3) rfl rfl) rfl rfl hl.1 rfl (lv_room (Nat.le_of_ble_eq_true rfl)) dX5_findOut_62 ⟨Nat.le_of_ble_eq_true rfl, Nat.le_of_ble_eq_true rfl⟩) hP hD hS hA [3, 4, 5] [0, 1, 2] rfl rfl (by decide) (by decide) ?_
  clear hP hD hS H locs
  refine fun u H locs hq hP hD hS => ?_
  replace hP : va_P D vwCl [(h1, .inr (8, [.ref h6, .int 3])), (h2, .inr (8, [.ref h7, .int wp30329])), (h7, .inl (y 1, 200, .inr (.inl (vp_updL (vp_updL (vp_updL wf30330 ((0 : Int32).toNatClampNeg) 0) ((1 : Int32).toNatClampNeg) 0) ((2 : Int32).toNatClampNeg) 0)))), (h0, .inr (5, [.ref h1, .ref h2, .ref h3, .ref h4, .int 3])), (h4, .inr (8, [.ref h10, .int wp30331])), (h10, .inl (y 1, 3, .inr (.inl (fun _ => 0))))] H := hP
  replace hD : va_D A [(h1, .inr (8, [.ref h6, .int 3])), (h2, .inr (8, [.ref h7, .int wp30329])), (h7, .inl (y 1, 200, .inr (.inl (vp_updL (vp_updL (vp_updL wf30330 ((0 : Int32).toNatClampNeg) 0) ((1 : Int32).toNatClampNeg) 0) ((2 : Int32).toNatClampNeg) 0)))), (h0, .inr (5, [.ref h1, .ref h2, .ref h3, .ref h4, .int 3])), (h4, .inr (8, [.ref h10, .int wp30331])), (h10, .inl (y 1, 3, .inr (.inl (fun _ => 0))))] := hD
  refine lv_iinc (v := 2) (lv' := [(2, .int 2), (1, .int 2), (0, .ref h0)]) hx hb dX5_findOut_65 hl (k := 0) rfl (by decide +kernel) (by decide) rfl ?_
  clear hl
  clear ls
  intro ls hl
  refine lv_goto (tgt := 54) hx hb dX5_findOut_68 (by decide) ?_
  refine lv_iload_n hx hb dX5_findOut_54 rfl (lv_at hl 0 rfl) ?_
  refine lv_iconst (v := 3) hx hb dX5_findOut_55 (by decide) ?_
  refine lv_icmp_ge (tgt := 71) hx hb dX5_findOut_56 (by decide) (fun c9 => absurd c9 (by decide +kernel)) (fun _ => ?_)
  refine lv_aload_n hx hb dX5_findOut_59 rfl (lv_at hl 2 rfl) ?_
  refine lv_iload_n hx hb dX5_findOut_60 rfl (lv_at hl 0 rfl) ?_
  refine lv_iload_n hx hb dX5_findOut_61 rfl (lv_at hl 1 rfl) ?_
  refine g_av (wr := [(h1, .inr (8, [.ref h6, .int 3])), (h2, .inr (8, [.ref h7, .int wp30329])), (h7, .inl (y 1, 200, .inr (.inl (vp_updL (vp_updL (vp_updL wf30330 ((0 : Int32).toNatClampNeg) 0) ((1 : Int32).toNatClampNeg) 0) ((2 : Int32).toNatClampNeg) 0))))]) (va_runV (As := [.int 2, .int 2]) (rest := []) ⟨hx, hb, hml, hown, hg⟩ (k_X5_find_8 l D y aS H.size h0 h1 h2 h3 h4 3 h10 wp30331) (cwV 2 hg ggV_RX5_54_X5_find rfl rfl rfl (by decide +kernel) ⟨Nat.le_of_ble_eq_true rfl, Nat.le_of_ble_eq_true rfl⟩) (g_preV (q := (RX5, TX5, 5)) hK hP hD [3, 4, 5] rfl (by decide) (ci := 5) (q0 := 3) rfl rfl) rfl rfl hl.1 rfl (lv_room (Nat.le_of_ble_eq_true rfl)) dX5_findOut_62 ⟨Nat.le_of_ble_eq_true rfl, Nat.le_of_ble_eq_true rfl⟩) hP hD hS hA [3, 4, 5] [0, 1, 2] rfl rfl (by decide) (by decide) ?_
  clear hP hD hS H locs
  refine fun u H locs hq hP hD hS => ?_
  replace hP : va_P D vwCl [(h1, .inr (8, [.ref h6, .int 3])), (h2, .inr (8, [.ref h7, .int wp30329])), (h7, .inl (y 1, 200, .inr (.inl (vp_updL (vp_updL (vp_updL wf30330 ((0 : Int32).toNatClampNeg) 0) ((1 : Int32).toNatClampNeg) 0) ((2 : Int32).toNatClampNeg) 0)))), (h0, .inr (5, [.ref h1, .ref h2, .ref h3, .ref h4, .int 3])), (h4, .inr (8, [.ref h10, .int wp30331])), (h10, .inl (y 1, 3, .inr (.inl (fun _ => 0))))] H := hP
  replace hD : va_D A [(h1, .inr (8, [.ref h6, .int 3])), (h2, .inr (8, [.ref h7, .int wp30329])), (h7, .inl (y 1, 200, .inr (.inl (vp_updL (vp_updL (vp_updL wf30330 ((0 : Int32).toNatClampNeg) 0) ((1 : Int32).toNatClampNeg) 0) ((2 : Int32).toNatClampNeg) 0)))), (h0, .inr (5, [.ref h1, .ref h2, .ref h3, .ref h4, .int 3])), (h4, .inr (8, [.ref h10, .int wp30331])), (h10, .inl (y 1, 3, .inr (.inl (fun _ => 0))))] := hD
  refine lv_iinc (v := 3) (lv' := [(2, .int 3), (1, .int 2), (0, .ref h0)]) hx hb dX5_findOut_65 hl (k := 0) rfl (by decide +kernel) (by decide) rfl ?_
  clear hl
  clear ls
  intro ls hl
  refine lv_goto (tgt := 54) hx hb dX5_findOut_68 (by decide) ?_
  refine lv_iload_n hx hb dX5_findOut_54 rfl (lv_at hl 0 rfl) ?_
  refine lv_iconst (v := 3) hx hb dX5_findOut_55 (by decide) ?_
  refine lv_icmp_ge (tgt := 71) hx hb dX5_findOut_56 (by decide) (fun _ => ?_) (fun c9 => absurd c9 (by decide +kernel))
  refine lv_iinc (v := 3) (lv' := [(1, .int 3), (2, .int 3), (0, .ref h0)]) hx hb dX5_findOut_71 hl (k := 1) rfl (by decide +kernel) (by decide) rfl ?_
  clear hl
  clear ls
  intro ls hl
  refine lv_goto (tgt := 41) hx hb dX5_findOut_74 (by decide) ?_
  refine lv_iload_n hx hb dX5_findOut_41 rfl (lv_at hl 0 rfl) ?_
  refine lv_aload_n hx hb dX5_findOut_42 rfl (lv_at hl 2 rfl) ?_
  refine gm_get (D := D) (ci := 5) (v := .ref h1) (C := RX5) (T := TX5) (N := 5) hx hb hg inlX5 hown hK.1 hP 3 rfl rfl 0 (by decide) tX5_0 (hg _ gw_138) rfl dX5_findOut_43 ?_
  refine gm_get (D := D) (ci := 8) (v := .int 3) (C := RX8) (T := TX8) (N := 2) hx hb hg inlX8 hown hK.1 hP 0 rfl rfl 1 (by decide) tX8_1 (hg _ gw_1441) rfl dX5_findOut_46 ?_
  refine lv_icmp_ge (tgt := 77) hx hb dX5_findOut_49 (by decide) (fun _ => ?_) (fun c9 => absurd c9 (by decide +kernel))
  exact g_vret hx hb hr hlocks () (hP.sub [3, 0, 1, 2, 4, 5] rfl) (hD.sub [3, 0, 1, 2, 4, 5] (by decide +kernel) rfl) hS trivial (Nat.le_of_ble_eq_true rfl) (Nat.le_of_ble_eq_true rfl) dX5_findOut_77
set_option maxRecDepth 100000 in
set_option maxHeartbeats 4000000 in
theorem k_X5_append_2 (l : Launch) (D : va_G) (y : Nat → ClassId) (aS : Nat → Nat) (sz : Nat) (h0 : Nat) (p1 : Int32) (h2 : Nat) (h3 : Nat) (h4 : Nat) (h5 : Nat) (h6 : Nat) (wf30345 : Nat → Int64) (h8 : Nat) (wp30346 : Int32) (wf30347 : Nat → Int64) (h11 : Nat) (wp30348 : Int32) : Met l yX5_append (Cond.code yX5_append cX5_append 6 (some .int) :: wsL_law) ({ frames := 3, cells := 0, slots := 0, locals := 68 } : Room) (va_Pc [.ref h0, .int p1, .int 3] (gI D y aS [(h0, .inr (5, [.ref h2, .ref h3, .ref h4, .ref h5, .int 0])), (h2, .inr (8, [.ref h6, .int 0])), (h6, .inl (y 1, 200, .inr (.inl wf30345))), (h3, .inr (8, [.ref h8, .int wp30346])), (h8, .inl (y 1, 200, .inr (.inl wf30347))), (h5, .inr (8, [.ref h11, .int wp30348])), (h11, .inl (y 1, 3, .inr (.inl (fun _ => 0))))] sz)) (va_Qi (fun (r : Int32) (u : Unit) => 3 = r) (fun u => gO D (va_A [(h0, .inr (5, [.ref h2, .ref h3, .ref h4, .ref h5, .int 0])), (h2, .inr (8, [.ref h6, .int 0])), (h6, .inl (y 1, 200, .inr (.inl wf30345))), (h3, .inr (8, [.ref h8, .int wp30346])), (h8, .inl (y 1, 200, .inr (.inl wf30347))), (h5, .inr (8, [.ref h11, .int wp30348])), (h11, .inl (y 1, 3, .inr (.inl (fun _ => 0))))] sz) [(h0, .inr (5, [.ref h2, .ref h3, .ref h4, .ref h5, .int 3])), (h2, .inr (8, [.ref h6, .int 3])), (h6, .inl (y 1, 200, .inr (.inl (vp_updL (vp_updL (vp_updL (vp_updL (vp_updL (vp_updL wf30345 ((0 : Int32).toNatClampNeg) 0) ((1 : Int32).toNatClampNeg) 0) ((2 : Int32).toNatClampNeg) 0) ((2 : Int32).toNatClampNeg) ((p1 - p1 / 10 * 10).toInt64)) ((1 : Int32).toNatClampNeg) (((p1 / 10) - (p1 / 10) / 10 * 10).toInt64)) ((0 : Int32).toNatClampNeg) ((((p1 / 10) / 10) - ((p1 / 10) / 10) / 10 * 10).toInt64))))), (h3, .inr (8, [.ref h8, .int wp30346])), (h8, .inl (y 1, 200, .inr (.inl (vp_updL (vp_updL (vp_updL wf30347 ((0 : Int32).toNatClampNeg) 0) ((1 : Int32).toNatClampNeg) 0) ((2 : Int32).toNatClampNeg) 0)))), (h5, .inr (8, [.ref h11, .int wp30348])), (h11, .inl (y 1, 3, .inr (.inl (fun _ => 0))))]) (va_A [(h0, .inr (5, [.ref h2, .ref h3, .ref h4, .ref h5, .int 0])), (h2, .inr (8, [.ref h6, .int 0])), (h6, .inl (y 1, 200, .inr (.inl wf30345))), (h3, .inr (8, [.ref h8, .int wp30346])), (h8, .inl (y 1, 200, .inr (.inl wf30347))), (h5, .inr (8, [.ref h11, .int wp30348])), (h11, .inl (y 1, 3, .inr (.inl (fun _ => 0))))] sz)) 0 0 (va_A [(h0, .inr (5, [.ref h2, .ref h3, .ref h4, .ref h5, .int 0])), (h2, .inr (8, [.ref h6, .int 0])), (h6, .inl (y 1, 200, .inr (.inl wf30345))), (h3, .inr (8, [.ref h8, .int wp30346])), (h8, .inl (y 1, 200, .inr (.inl wf30347))), (h5, .inr (8, [.ref h11, .int wp30348])), (h11, .inl (y 1, 3, .inr (.inl (fun _ => 0))))] sz) := by
  refine g_of (by decide) (Nat.le_of_ble_eq_true rfl) ?_
  intro p e s m below meth c ls A hx hb hr hml hown hg hlocks hin hsz hK hP hD hS hA hAe hl
  rw [← hAe]
  replace hown : s.vm.findClass RX5 = some m.cls := hown
  replace hl : lv_has ls 6 [(0, .ref h0), (1, .int p1), (2, .int 3)] := hl
  refine lv_aload_n hx hb dX5_append_0 rfl (lv_at hl 0 rfl) ?_
  refine gm_get (D := D) (ci := 5) (v := .ref h2) (C := RX5) (T := TX5) (N := 5) hx hb hg inlX5 hown hK.1 hP 0 rfl rfl 0 (by decide) tX5_0 (hg _ gw_138) rfl dX5_append_1 ?_
  refine gm_get (D := D) (ci := 8) (v := .int 0) (C := RX8) (T := TX8) (N := 2) hx hb hg inlX8 hown hK.1 hP 1 rfl rfl 1 (by decide) tX8_1 (hg _ gw_1441) rfl dX5_append_4 ?_
  refine lv_istore_n (lv' := [(3, .int 0), (0, .ref h0), (1, .int p1), (2, .int 3)]) hx hb dX5_append_7 rfl hl (by decide) rfl ?_
  clear hl
  clear ls
  intro ls hl
  refine lv_aload_n hx hb dX5_append_8 rfl (lv_at hl 1 rfl) ?_
  refine gm_get (D := D) (ci := 5) (v := .ref h2) (C := RX5) (T := TX5) (N := 5) hx hb hg inlX5 hown hK.1 hP 0 rfl rfl 0 (by decide) tX5_0 (hg _ gw_138) rfl dX5_append_9 ?_
  refine lv_iload_n hx hb dX5_append_12 rfl (lv_at hl 3 rfl) ?_
  refine lv_lconst (v := 0) hx hb dX5_append_13 (by decide) ?_
  refine g_av (wr := [(h0, .inr (5, [.ref h2, .ref h3, .ref h4, .ref h5, .int 0])), (h3, .inr (8, [.ref h8, .int wp30346])), (h8, .inl (y 1, 200, .inr (.inl wf30347))), (h5, .inr (8, [.ref h11, .int wp30348])), (h11, .inl (y 1, 3, .inr (.inl (fun _ => 0))))]) (va_runV (As := [.int 3, .long 0]) (rest := []) ⟨hx, hb, hml, hown, hg⟩ (k_X8_addMany_6 l D y aS s.heap.size h2 h6 wf30345) (cwV 2 hg ggV_RX5_44_X8_addMany rfl rfl rfl (by decide +kernel) ⟨Nat.le_of_ble_eq_true rfl, Nat.le_of_ble_eq_true rfl⟩) (g_preV (q := (RX8, TX8, 2)) hK hP hD [1, 2] rfl (by decide) (ci := 8) (q0 := 1) rfl rfl) rfl rfl hl.1 rfl (lv_room (Nat.le_of_ble_eq_true rfl)) dX5_append_14 ⟨Nat.le_of_ble_eq_true rfl, Nat.le_of_ble_eq_true rfl⟩) hP hD hS hA [1, 2] [0, 3, 4, 5, 6] rfl rfl (by decide) (by decide) ?_
  clear hP hD hS
  refine fun u H locs hq hP hD hS => ?_
  replace hP : va_P D vwCl [(h0, .inr (5, [.ref h2, .ref h3, .ref h4, .ref h5, .int 0])), (h3, .inr (8, [.ref h8, .int wp30346])), (h8, .inl (y 1, 200, .inr (.inl wf30347))), (h5, .inr (8, [.ref h11, .int wp30348])), (h11, .inl (y 1, 3, .inr (.inl (fun _ => 0)))), (h2, .inr (8, [.ref h6, .int 3])), (h6, .inl (y 1, 200, .inr (.inl (vp_updL (vp_updL (vp_updL wf30345 ((0 : Int32).toNatClampNeg) 0) ((1 : Int32).toNatClampNeg) 0) ((2 : Int32).toNatClampNeg) 0))))] H := hP
  replace hD : va_D A [(h0, .inr (5, [.ref h2, .ref h3, .ref h4, .ref h5, .int 0])), (h3, .inr (8, [.ref h8, .int wp30346])), (h8, .inl (y 1, 200, .inr (.inl wf30347))), (h5, .inr (8, [.ref h11, .int wp30348])), (h11, .inl (y 1, 3, .inr (.inl (fun _ => 0)))), (h2, .inr (8, [.ref h6, .int 3])), (h6, .inl (y 1, 200, .inr (.inl (vp_updL (vp_updL (vp_updL wf30345 ((0 : Int32).toNatClampNeg) 0) ((1 : Int32).toNatClampNeg) 0) ((2 : Int32).toNatClampNeg) 0))))] := hD
  refine lv_iload_n hx hb dX5_append_17 rfl (lv_at hl 2 rfl) ?_
  refine lv_istore (lv' := [(4, .int p1), (3, .int 0), (0, .ref h0), (1, .int p1), (2, .int 3)]) hx hb dX5_append_18 hl (by decide) rfl ?_
  clear hl
  clear ls
  intro ls hl
  refine lv_iload_n hx hb dX5_append_20 rfl (lv_at hl 1 rfl) ?_
  refine lv_iload_n hx hb dX5_append_21 rfl (lv_at hl 4 rfl) ?_
  refine lv_iadd hx hb dX5_append_22 ?_
  refine g_fi (v := 3) (by decide +kernel) ?_
  refine lv_iconst (v := 1) hx hb dX5_append_23 (by decide) ?_
  refine lv_isub hx hb dX5_append_24 ?_
  refine g_fi (v := 2) (by decide +kernel) ?_
  refine lv_istore (lv' := [(5, .int 2), (4, .int p1), (3, .int 0), (0, .ref h0), (1, .int p1), (2, .int 3)]) hx hb dX5_append_25 hl (by decide) rfl ?_
  clear hl
  clear ls
  intro ls hl
  refine lv_iload hx hb dX5_append_27 (lv_at hl 0 rfl) ?_
  refine lv_iload_n hx hb dX5_append_29 rfl (lv_at hl 2 rfl) ?_
  refine lv_icmp_lt (tgt := 61) hx hb dX5_append_30 (by decide) (fun c9 => absurd c9 (by decide +kernel)) (fun _ => ?_)
  refine lv_aload_n hx hb dX5_append_33 rfl (lv_at hl 3 rfl) ?_
  refine gm_get (D := D) (ci := 5) (v := .ref h2) (C := RX5) (T := TX5) (N := 5) hx hb hg inlX5 hown hK.1 hP 0 rfl rfl 0 (by decide) tX5_0 (hg _ gw_138) rfl dX5_append_34 ?_
  refine lv_iload hx hb dX5_append_37 (lv_at hl 0 rfl) ?_
  refine lv_iload hx hb dX5_append_39 (lv_at hl 1 rfl) ?_
  refine lv_bipush (v := 10) hx hb dX5_append_41 (by decide +kernel) ?_
  refine lv_irem hx hb dX5_append_43 (by decide +kernel) ?_
  refine lv_i2l (v := ((p1 - p1 / 10 * 10).toInt64)) hx hb dX5_append_44 rfl ?_
  refine g_av (wr := [(h0, .inr (5, [.ref h2, .ref h3, .ref h4, .ref h5, .int 0])), (h3, .inr (8, [.ref h8, .int wp30346])), (h8, .inl (y 1, 200, .inr (.inl wf30347))), (h5, .inr (8, [.ref h11, .int wp30348])), (h11, .inl (y 1, 3, .inr (.inl (fun _ => 0))))]) (va_runV (As := [.int 2, .long ((p1 - p1 / 10 * 10).toInt64)]) (rest := []) ⟨hx, hb, hml, hown, hg⟩ (k_X8_set_47 l D y aS H.size h2 ((p1 - p1 / 10 * 10).toInt64) h6 3 (vp_updL (vp_updL (vp_updL wf30345 ((0 : Int32).toNatClampNeg) 0) ((1 : Int32).toNatClampNeg) 0) ((2 : Int32).toNatClampNeg) 0)) (cwV 2 hg ggV_RX5_29_X8_set rfl rfl rfl (by decide +kernel) ⟨Nat.le_of_ble_eq_true rfl, Nat.le_of_ble_eq_true rfl⟩) (g_preV (q := (RX8, TX8, 2)) hK hP hD [5, 6] rfl (by decide) (ci := 8) (q0 := 5) rfl rfl) rfl rfl hl.1 rfl (lv_room (Nat.le_of_ble_eq_true rfl)) dX5_append_45 ⟨Nat.le_of_ble_eq_true rfl, Nat.le_of_ble_eq_true rfl⟩) hP hD hS hA [5, 6] [0, 1, 2, 3, 4] rfl rfl (by decide) (by decide) ?_
  clear hP hD hS H locs
  refine fun u H locs hq hP hD hS => ?_
  replace hP : va_P D vwCl [(h0, .inr (5, [.ref h2, .ref h3, .ref h4, .ref h5, .int 0])), (h3, .inr (8, [.ref h8, .int wp30346])), (h8, .inl (y 1, 200, .inr (.inl wf30347))), (h5, .inr (8, [.ref h11, .int wp30348])), (h11, .inl (y 1, 3, .inr (.inl (fun _ => 0)))), (h2, .inr (8, [.ref h6, .int 3])), (h6, .inl (y 1, 200, .inr (.inl (vp_updL (vp_updL (vp_updL (vp_updL wf30345 ((0 : Int32).toNatClampNeg) 0) ((1 : Int32).toNatClampNeg) 0) ((2 : Int32).toNatClampNeg) 0) ((2 : Int32).toNatClampNeg) ((p1 - p1 / 10 * 10).toInt64)))))] H := hP
  replace hD : va_D A [(h0, .inr (5, [.ref h2, .ref h3, .ref h4, .ref h5, .int 0])), (h3, .inr (8, [.ref h8, .int wp30346])), (h8, .inl (y 1, 200, .inr (.inl wf30347))), (h5, .inr (8, [.ref h11, .int wp30348])), (h11, .inl (y 1, 3, .inr (.inl (fun _ => 0)))), (h2, .inr (8, [.ref h6, .int 3])), (h6, .inl (y 1, 200, .inr (.inl (vp_updL (vp_updL (vp_updL (vp_updL wf30345 ((0 : Int32).toNatClampNeg) 0) ((1 : Int32).toNatClampNeg) 0) ((2 : Int32).toNatClampNeg) 0) ((2 : Int32).toNatClampNeg) ((p1 - p1 / 10 * 10).toInt64)))))] := hD
  refine lv_iload hx hb dX5_append_48 (lv_at hl 1 rfl) ?_
  refine lv_bipush (v := 10) hx hb dX5_append_50 (by decide +kernel) ?_
  refine lv_idiv hx hb dX5_append_52 (by decide +kernel) ?_
  refine lv_istore (lv' := [(4, .int (p1 / 10)), (5, .int 2), (3, .int 0), (0, .ref h0), (1, .int p1), (2, .int 3)]) hx hb dX5_append_53 hl (by decide) rfl ?_
  clear hl
  clear ls
  intro ls hl
  refine lv_iinc (v := 1) (lv' := [(5, .int 1), (4, .int (p1 / 10)), (3, .int 0), (0, .ref h0), (1, .int p1), (2, .int 3)]) hx hb dX5_append_55 hl (k := 1) rfl (by decide +kernel) (by decide) rfl ?_
  clear hl
  clear ls
  intro ls hl
  refine lv_goto (tgt := 27) hx hb dX5_append_58 (by decide) ?_
  refine lv_iload hx hb dX5_append_27 (lv_at hl 0 rfl) ?_
  refine lv_iload_n hx hb dX5_append_29 rfl (lv_at hl 2 rfl) ?_
  refine lv_icmp_lt (tgt := 61) hx hb dX5_append_30 (by decide) (fun c9 => absurd c9 (by decide +kernel)) (fun _ => ?_)
  refine lv_aload_n hx hb dX5_append_33 rfl (lv_at hl 3 rfl) ?_
  refine gm_get (D := D) (ci := 5) (v := .ref h2) (C := RX5) (T := TX5) (N := 5) hx hb hg inlX5 hown hK.1 hP 0 rfl rfl 0 (by decide) tX5_0 (hg _ gw_138) rfl dX5_append_34 ?_
  refine lv_iload hx hb dX5_append_37 (lv_at hl 0 rfl) ?_
  refine lv_iload hx hb dX5_append_39 (lv_at hl 1 rfl) ?_
  refine lv_bipush (v := 10) hx hb dX5_append_41 (by decide +kernel) ?_
  refine lv_irem hx hb dX5_append_43 (by decide +kernel) ?_
  refine lv_i2l (v := (((p1 / 10) - (p1 / 10) / 10 * 10).toInt64)) hx hb dX5_append_44 rfl ?_
  refine g_av (wr := [(h0, .inr (5, [.ref h2, .ref h3, .ref h4, .ref h5, .int 0])), (h3, .inr (8, [.ref h8, .int wp30346])), (h8, .inl (y 1, 200, .inr (.inl wf30347))), (h5, .inr (8, [.ref h11, .int wp30348])), (h11, .inl (y 1, 3, .inr (.inl (fun _ => 0))))]) (va_runV (As := [.int 1, .long (((p1 / 10) - (p1 / 10) / 10 * 10).toInt64)]) (rest := []) ⟨hx, hb, hml, hown, hg⟩ (k_X8_set_46 l D y aS H.size h2 (((p1 / 10) - (p1 / 10) / 10 * 10).toInt64) h6 3 (vp_updL (vp_updL (vp_updL (vp_updL wf30345 ((0 : Int32).toNatClampNeg) 0) ((1 : Int32).toNatClampNeg) 0) ((2 : Int32).toNatClampNeg) 0) ((2 : Int32).toNatClampNeg) ((p1 - p1 / 10 * 10).toInt64))) (cwV 2 hg ggV_RX5_29_X8_set rfl rfl rfl (by decide +kernel) ⟨Nat.le_of_ble_eq_true rfl, Nat.le_of_ble_eq_true rfl⟩) (g_preV (q := (RX8, TX8, 2)) hK hP hD [5, 6] rfl (by decide) (ci := 8) (q0 := 5) rfl rfl) rfl rfl hl.1 rfl (lv_room (Nat.le_of_ble_eq_true rfl)) dX5_append_45 ⟨Nat.le_of_ble_eq_true rfl, Nat.le_of_ble_eq_true rfl⟩) hP hD hS hA [5, 6] [0, 1, 2, 3, 4] rfl rfl (by decide) (by decide) ?_
  clear hP hD hS H locs
  refine fun u H locs hq hP hD hS => ?_
  replace hP : va_P D vwCl [(h0, .inr (5, [.ref h2, .ref h3, .ref h4, .ref h5, .int 0])), (h3, .inr (8, [.ref h8, .int wp30346])), (h8, .inl (y 1, 200, .inr (.inl wf30347))), (h5, .inr (8, [.ref h11, .int wp30348])), (h11, .inl (y 1, 3, .inr (.inl (fun _ => 0)))), (h2, .inr (8, [.ref h6, .int 3])), (h6, .inl (y 1, 200, .inr (.inl (vp_updL (vp_updL (vp_updL (vp_updL (vp_updL wf30345 ((0 : Int32).toNatClampNeg) 0) ((1 : Int32).toNatClampNeg) 0) ((2 : Int32).toNatClampNeg) 0) ((2 : Int32).toNatClampNeg) ((p1 - p1 / 10 * 10).toInt64)) ((1 : Int32).toNatClampNeg) (((p1 / 10) - (p1 / 10) / 10 * 10).toInt64)))))] H := hP
  replace hD : va_D A [(h0, .inr (5, [.ref h2, .ref h3, .ref h4, .ref h5, .int 0])), (h3, .inr (8, [.ref h8, .int wp30346])), (h8, .inl (y 1, 200, .inr (.inl wf30347))), (h5, .inr (8, [.ref h11, .int wp30348])), (h11, .inl (y 1, 3, .inr (.inl (fun _ => 0)))), (h2, .inr (8, [.ref h6, .int 3])), (h6, .inl (y 1, 200, .inr (.inl (vp_updL (vp_updL (vp_updL (vp_updL (vp_updL wf30345 ((0 : Int32).toNatClampNeg) 0) ((1 : Int32).toNatClampNeg) 0) ((2 : Int32).toNatClampNeg) 0) ((2 : Int32).toNatClampNeg) ((p1 - p1 / 10 * 10).toInt64)) ((1 : Int32).toNatClampNeg) (((p1 / 10) - (p1 / 10) / 10 * 10).toInt64)))))] := hD
  refine lv_iload hx hb dX5_append_48 (lv_at hl 1 rfl) ?_
  refine lv_bipush (v := 10) hx hb dX5_append_50 (by decide +kernel) ?_
  refine lv_idiv hx hb dX5_append_52 (by decide +kernel) ?_
  refine lv_istore (lv' := [(4, .int ((p1 / 10) / 10)), (5, .int 1), (3, .int 0), (0, .ref h0), (1, .int p1), (2, .int 3)]) hx hb dX5_append_53 hl (by decide) rfl ?_
  clear hl
  clear ls
  intro ls hl
  refine lv_iinc (v := 0) (lv' := [(5, .int 0), (4, .int ((p1 / 10) / 10)), (3, .int 0), (0, .ref h0), (1, .int p1), (2, .int 3)]) hx hb dX5_append_55 hl (k := 1) rfl (by decide +kernel) (by decide) rfl ?_
  clear hl
  clear ls
  intro ls hl
  refine lv_goto (tgt := 27) hx hb dX5_append_58 (by decide) ?_
  refine lv_iload hx hb dX5_append_27 (lv_at hl 0 rfl) ?_
  refine lv_iload_n hx hb dX5_append_29 rfl (lv_at hl 2 rfl) ?_
  refine lv_icmp_lt (tgt := 61) hx hb dX5_append_30 (by decide) (fun c9 => absurd c9 (by decide +kernel)) (fun _ => ?_)
  refine lv_aload_n hx hb dX5_append_33 rfl (lv_at hl 3 rfl) ?_
  refine gm_get (D := D) (ci := 5) (v := .ref h2) (C := RX5) (T := TX5) (N := 5) hx hb hg inlX5 hown hK.1 hP 0 rfl rfl 0 (by decide) tX5_0 (hg _ gw_138) rfl dX5_append_34 ?_
  refine lv_iload hx hb dX5_append_37 (lv_at hl 0 rfl) ?_
  refine lv_iload hx hb dX5_append_39 (lv_at hl 1 rfl) ?_
  refine lv_bipush (v := 10) hx hb dX5_append_41 (by decide +kernel) ?_
  refine lv_irem hx hb dX5_append_43 (by decide +kernel) ?_
  refine lv_i2l (v := ((((p1 / 10) / 10) - ((p1 / 10) / 10) / 10 * 10).toInt64)) hx hb dX5_append_44 rfl ?_
  refine g_av (wr := [(h0, .inr (5, [.ref h2, .ref h3, .ref h4, .ref h5, .int 0])), (h3, .inr (8, [.ref h8, .int wp30346])), (h8, .inl (y 1, 200, .inr (.inl wf30347))), (h5, .inr (8, [.ref h11, .int wp30348])), (h11, .inl (y 1, 3, .inr (.inl (fun _ => 0))))]) (va_runV (As := [.int 0, .long ((((p1 / 10) / 10) - ((p1 / 10) / 10) / 10 * 10).toInt64)]) (rest := []) ⟨hx, hb, hml, hown, hg⟩ (k_X8_set_45 l D y aS H.size h2 ((((p1 / 10) / 10) - ((p1 / 10) / 10) / 10 * 10).toInt64) h6 3 (vp_updL (vp_updL (vp_updL (vp_updL (vp_updL wf30345 ((0 : Int32).toNatClampNeg) 0) ((1 : Int32).toNatClampNeg) 0) ((2 : Int32).toNatClampNeg) 0) ((2 : Int32).toNatClampNeg) ((p1 - p1 / 10 * 10).toInt64)) ((1 : Int32).toNatClampNeg) (((p1 / 10) - (p1 / 10) / 10 * 10).toInt64))) (cwV 2 hg ggV_RX5_29_X8_set rfl rfl rfl (by decide +kernel) ⟨Nat.le_of_ble_eq_true rfl, Nat.le_of_ble_eq_true rfl⟩) (g_preV (q := (RX8, TX8, 2)) hK hP hD [5, 6] rfl (by decide) (ci := 8) (q0 := 5) rfl rfl) rfl rfl hl.1 rfl (lv_room (Nat.le_of_ble_eq_true rfl)) dX5_append_45 ⟨Nat.le_of_ble_eq_true rfl, Nat.le_of_ble_eq_true rfl⟩) hP hD hS hA [5, 6] [0, 1, 2, 3, 4] rfl rfl (by decide) (by decide) ?_
  clear hP hD hS H locs
  refine fun u H locs hq hP hD hS => ?_
  replace hP : va_P D vwCl [(h0, .inr (5, [.ref h2, .ref h3, .ref h4, .ref h5, .int 0])), (h3, .inr (8, [.ref h8, .int wp30346])), (h8, .inl (y 1, 200, .inr (.inl wf30347))), (h5, .inr (8, [.ref h11, .int wp30348])), (h11, .inl (y 1, 3, .inr (.inl (fun _ => 0)))), (h2, .inr (8, [.ref h6, .int 3])), (h6, .inl (y 1, 200, .inr (.inl (vp_updL (vp_updL (vp_updL (vp_updL (vp_updL (vp_updL wf30345 ((0 : Int32).toNatClampNeg) 0) ((1 : Int32).toNatClampNeg) 0) ((2 : Int32).toNatClampNeg) 0) ((2 : Int32).toNatClampNeg) ((p1 - p1 / 10 * 10).toInt64)) ((1 : Int32).toNatClampNeg) (((p1 / 10) - (p1 / 10) / 10 * 10).toInt64)) ((0 : Int32).toNatClampNeg) ((((p1 / 10) / 10) - ((p1 / 10) / 10) / 10 * 10).toInt64)))))] H := hP
  replace hD : va_D A [(h0, .inr (5, [.ref h2, .ref h3, .ref h4, .ref h5, .int 0])), (h3, .inr (8, [.ref h8, .int wp30346])), (h8, .inl (y 1, 200, .inr (.inl wf30347))), (h5, .inr (8, [.ref h11, .int wp30348])), (h11, .inl (y 1, 3, .inr (.inl (fun _ => 0)))), (h2, .inr (8, [.ref h6, .int 3])), (h6, .inl (y 1, 200, .inr (.inl (vp_updL (vp_updL (vp_updL (vp_updL (vp_updL (vp_updL wf30345 ((0 : Int32).toNatClampNeg) 0) ((1 : Int32).toNatClampNeg) 0) ((2 : Int32).toNatClampNeg) 0) ((2 : Int32).toNatClampNeg) ((p1 - p1 / 10 * 10).toInt64)) ((1 : Int32).toNatClampNeg) (((p1 / 10) - (p1 / 10) / 10 * 10).toInt64)) ((0 : Int32).toNatClampNeg) ((((p1 / 10) / 10) - ((p1 / 10) / 10) / 10 * 10).toInt64)))))] := hD
  refine lv_iload hx hb dX5_append_48 (lv_at hl 1 rfl) ?_
  refine lv_bipush (v := 10) hx hb dX5_append_50 (by decide +kernel) ?_
  refine lv_idiv hx hb dX5_append_52 (by decide +kernel) ?_
  refine lv_istore (lv' := [(4, .int (((p1 / 10) / 10) / 10)), (5, .int 0), (3, .int 0), (0, .ref h0), (1, .int p1), (2, .int 3)]) hx hb dX5_append_53 hl (by decide) rfl ?_
  clear hl
  clear ls
  intro ls hl
  refine lv_iinc (v := (-1)) (lv' := [(5, .int (-1)), (4, .int (((p1 / 10) / 10) / 10)), (3, .int 0), (0, .ref h0), (1, .int p1), (2, .int 3)]) hx hb dX5_append_55 hl (k := 1) rfl (by decide +kernel) (by decide) rfl ?_
  clear hl
  clear ls
  intro ls hl
  refine lv_goto (tgt := 27) hx hb dX5_append_58 (by decide) ?_
  refine lv_iload hx hb dX5_append_27 (lv_at hl 0 rfl) ?_
  refine lv_iload_n hx hb dX5_append_29 rfl (lv_at hl 2 rfl) ?_
  refine lv_icmp_lt (tgt := 61) hx hb dX5_append_30 (by decide) (fun _ => ?_) (fun c9 => absurd c9 (by decide +kernel))
  refine lv_aload_n hx hb dX5_append_61 rfl (lv_at hl 3 rfl) ?_
  refine g_av (wr := [(h6, .inl (y 1, 200, .inr (.inl (vp_updL (vp_updL (vp_updL (vp_updL (vp_updL (vp_updL wf30345 ((0 : Int32).toNatClampNeg) 0) ((1 : Int32).toNatClampNeg) 0) ((2 : Int32).toNatClampNeg) 0) ((2 : Int32).toNatClampNeg) ((p1 - p1 / 10 * 10).toInt64)) ((1 : Int32).toNatClampNeg) (((p1 / 10) - (p1 / 10) / 10 * 10).toInt64)) ((0 : Int32).toNatClampNeg) ((((p1 / 10) / 10) - ((p1 / 10) / 10) / 10 * 10).toInt64)))))]) (va_runV (As := []) (rest := []) ⟨hx, hb, hml, hown, hg⟩ (k_X5_findOut_3 l D y aS H.size h0 h2 h3 h4 h5 0 h6 h8 wp30346 wf30347 h11 wp30348) (cwV 0 hg ggV_RX5_33_X5_findOut rfl rfl rfl (by decide +kernel) ⟨Nat.le_of_ble_eq_true rfl, Nat.le_of_ble_eq_true rfl⟩) (g_preV (q := (RX5, TX5, 5)) hK hP hD [0, 5, 1, 2, 3, 4] rfl (by decide) (ci := 5) (q0 := 0) rfl rfl) rfl rfl hl.1 rfl (lv_room (Nat.le_of_ble_eq_true rfl)) dX5_append_62 ⟨Nat.le_of_ble_eq_true rfl, Nat.le_of_ble_eq_true rfl⟩) hP hD hS hA [0, 5, 1, 2, 3, 4] [6] rfl rfl (by decide) (by decide) ?_
  clear hP hD hS H locs
  refine fun u H locs hq hP hD hS => ?_
  replace hP : va_P D vwCl [(h6, .inl (y 1, 200, .inr (.inl (vp_updL (vp_updL (vp_updL (vp_updL (vp_updL (vp_updL wf30345 ((0 : Int32).toNatClampNeg) 0) ((1 : Int32).toNatClampNeg) 0) ((2 : Int32).toNatClampNeg) 0) ((2 : Int32).toNatClampNeg) ((p1 - p1 / 10 * 10).toInt64)) ((1 : Int32).toNatClampNeg) (((p1 / 10) - (p1 / 10) / 10 * 10).toInt64)) ((0 : Int32).toNatClampNeg) ((((p1 / 10) / 10) - ((p1 / 10) / 10) / 10 * 10).toInt64))))), (h0, .inr (5, [.ref h2, .ref h3, .ref h4, .ref h5, .int 3])), (h2, .inr (8, [.ref h6, .int 3])), (h3, .inr (8, [.ref h8, .int wp30346])), (h8, .inl (y 1, 200, .inr (.inl (vp_updL (vp_updL (vp_updL wf30347 ((0 : Int32).toNatClampNeg) 0) ((1 : Int32).toNatClampNeg) 0) ((2 : Int32).toNatClampNeg) 0)))), (h5, .inr (8, [.ref h11, .int wp30348])), (h11, .inl (y 1, 3, .inr (.inl (fun _ => 0))))] H := hP
  replace hD : va_D A [(h6, .inl (y 1, 200, .inr (.inl (vp_updL (vp_updL (vp_updL (vp_updL (vp_updL (vp_updL wf30345 ((0 : Int32).toNatClampNeg) 0) ((1 : Int32).toNatClampNeg) 0) ((2 : Int32).toNatClampNeg) 0) ((2 : Int32).toNatClampNeg) ((p1 - p1 / 10 * 10).toInt64)) ((1 : Int32).toNatClampNeg) (((p1 / 10) - (p1 / 10) / 10 * 10).toInt64)) ((0 : Int32).toNatClampNeg) ((((p1 / 10) / 10) - ((p1 / 10) / 10) / 10 * 10).toInt64))))), (h0, .inr (5, [.ref h2, .ref h3, .ref h4, .ref h5, .int 3])), (h2, .inr (8, [.ref h6, .int 3])), (h3, .inr (8, [.ref h8, .int wp30346])), (h8, .inl (y 1, 200, .inr (.inl (vp_updL (vp_updL (vp_updL wf30347 ((0 : Int32).toNatClampNeg) 0) ((1 : Int32).toNatClampNeg) 0) ((2 : Int32).toNatClampNeg) 0)))), (h5, .inr (8, [.ref h11, .int wp30348])), (h11, .inl (y 1, 3, .inr (.inl (fun _ => 0))))] := hD
  refine lv_aload_n hx hb dX5_append_65 rfl (lv_at hl 3 rfl) ?_
  refine gm_get (D := D) (ci := 5) (v := .int 3) (C := RX5) (T := TX5) (N := 5) hx hb hg inlX5 hown hK.1 hP 1 rfl rfl 4 (by decide) tX5_4 (hg _ gw_1442) rfl dX5_append_66 ?_
  exact g_iret hx hb hr hlocks () (hP.sub [1, 2, 0, 3, 4, 5, 6] rfl) (hD.sub [1, 2, 0, 3, 4, 5, 6] (by decide +kernel) rfl) hS rfl rfl (Nat.le_of_ble_eq_true rfl) (Nat.le_of_ble_eq_true rfl) dX5_append_69
set_option maxRecDepth 100000 in
set_option maxHeartbeats 4000000 in
theorem k_X8_add_31 (l : Launch) (D : va_G) (y : Nat → ClassId) (aS : Nat → Nat) (sz : Nat) (h0 : Nat) (h1 : Nat) (wf30362 : Nat → Int64) : Met l yX8_add (Cond.code yX8_add cX8_add 3 none :: wsL_law) ({ frames := 0, cells := 0, slots := 0, locals := 0 } : Room) (va_Pc [.ref h0, .long 0] (gI D y aS [(h0, .inr (8, [.ref h1, .int 3])), (h1, .inl (y 1, 200, .inr (.inl wf30362)))] sz)) (va_Qv (fun (u : Unit) => True) (fun u => gO D (va_A [(h0, .inr (8, [.ref h1, .int 3])), (h1, .inl (y 1, 200, .inr (.inl wf30362)))] sz) [(h0, .inr (8, [.ref h1, .int 4])), (h1, .inl (y 1, 200, .inr (.inl (vp_updL wf30362 ((3 : Int32).toNatClampNeg) 0))))]) (va_A [(h0, .inr (8, [.ref h1, .int 3])), (h1, .inl (y 1, 200, .inr (.inl wf30362)))] sz)) 0 0 (va_A [(h0, .inr (8, [.ref h1, .int 3])), (h1, .inl (y 1, 200, .inr (.inl wf30362)))] sz) := by
  refine g_of (by decide) (Nat.le_of_ble_eq_true rfl) ?_
  intro p e s m below meth c ls A hx hb hr hml hown hg hlocks hin hsz hK hP hD hS hA hAe hl
  rw [← hAe]
  replace hown : s.vm.findClass RX8 = some m.cls := hown
  replace hl : lv_has ls 3 [(0, .ref h0), (1, .long 0)] := hl
  refine lv_aload_n hx hb dX8_add_0 rfl (lv_at hl 0 rfl) ?_
  refine gm_get (D := D) (ci := 8) (v := .int 3) (C := RX8) (T := TX8) (N := 2) hx hb hg inlX8 hown hK.1 hP 0 rfl rfl 1 (by decide) tX8_1 (hg _ gw_155) rfl dX8_add_1 ?_
  refine lv_if_lt (tgt := 39) hx hb dX8_add_4 (by decide) (fun c9 => absurd c9 (by decide +kernel)) (fun _ => ?_)
  refine lv_aload_n hx hb dX8_add_7 rfl (lv_at hl 0 rfl) ?_
  refine gm_get (D := D) (ci := 8) (v := .int 3) (C := RX8) (T := TX8) (N := 2) hx hb hg inlX8 hown hK.1 hP 0 rfl rfl 1 (by decide) tX8_1 (hg _ gw_155) rfl dX8_add_8 ?_
  refine lv_aload_n hx hb dX8_add_11 rfl (lv_at hl 0 rfl) ?_
  refine gm_get (D := D) (ci := 8) (v := .ref h1) (C := RX8) (T := TX8) (N := 2) hx hb hg inlX8 hown hK.1 hP 0 rfl rfl 0 (by decide) tX8_0 (hg _ gw_98) rfl dX8_add_12 ?_
  refine va_alen hx hb hK.1 hP 1 1 rfl rfl (v := 200) rfl dX8_add_15 ?_
  refine lv_icmp_ge (tgt := 39) hx hb dX8_add_16 (by decide) (fun c9 => absurd c9 (by decide +kernel)) (fun _ => ?_)
  refine lv_aload_n hx hb dX8_add_19 rfl (lv_at hl 0 rfl) ?_
  refine gm_get (D := D) (ci := 8) (v := .ref h1) (C := RX8) (T := TX8) (N := 2) hx hb hg inlX8 hown hK.1 hP 0 rfl rfl 0 (by decide) tX8_0 (hg _ gw_98) rfl dX8_add_20 ?_
  refine lv_aload_n hx hb dX8_add_23 rfl (lv_at hl 0 rfl) ?_
  refine gm_get (D := D) (ci := 8) (v := .int 3) (C := RX8) (T := TX8) (N := 2) hx hb hg inlX8 hown hK.1 hP 0 rfl rfl 1 (by decide) tX8_1 (hg _ gw_155) rfl dX8_add_24 ?_
  refine lv_lload_n hx hb dX8_add_27 rfl (lv_at hl 1 rfl) ?_
  refine va_last hx hb hK.1 hP hD hS 1 1 rfl rfl (by unfold vp_in; decide +kernel) dX8_add_28 ?_
  clear hP hD hS
  refine fun H locs (hP : va_P D vwCl [(h0, .inr (8, [.ref h1, .int 3])), (h1, .inl (y 1, 200, .inr (.inl (vp_updL wf30362 ((3 : Int32).toNatClampNeg) 0))))] H) (hD : va_D A [(h0, .inr (8, [.ref h1, .int 3])), (h1, .inl (y 1, 200, .inr (.inl (vp_updL wf30362 ((3 : Int32).toNatClampNeg) 0))))]) hS => ?_
  refine lv_aload_n hx hb dX8_add_29 rfl (lv_at hl 0 rfl) ?_
  refine lv_dup hx hb dX8_add_30 rfl ?_
  refine gm_get (D := D) (ci := 8) (v := .int 3) (C := RX8) (T := TX8) (N := 2) hx hb hg inlX8 hown hK.1 hP 0 rfl rfl 1 (by decide) tX8_1 (hg _ gw_155) rfl dX8_add_31 ?_
  refine lv_iconst (v := 1) hx hb dX8_add_34 (by decide) ?_
  refine lv_iadd hx hb dX8_add_35 ?_
  refine g_fi (v := 4) (by decide +kernel) ?_
  refine gm_put (D := D) (ci := 8) (v := .int 4) (ty := .int) (C := RX8) (T := TX8) (N := 2) hx hb hg inlX8 tyX8 tyX8_ok nmX8 hown hK.1 hP hD hS 0 rfl rfl 1 (by decide) tX8_1 (hg _ gw_155) (by decide +kernel) rfl rfl (Nat.le_of_ble_eq_true rfl) dX8_add_36 ?_
  clear hP hD hS H locs
  refine fun H locs (hP : va_P D vwCl [(h0, .inr (8, [.ref h1, .int 4])), (h1, .inl (y 1, 200, .inr (.inl (vp_updL wf30362 ((3 : Int32).toNatClampNeg) 0))))] H) (hD : va_D A [(h0, .inr (8, [.ref h1, .int 4])), (h1, .inl (y 1, 200, .inr (.inl (vp_updL wf30362 ((3 : Int32).toNatClampNeg) 0))))]) hS => ?_
  exact g_vret hx hb hr hlocks () hP hD hS trivial (Nat.le_of_ble_eq_true rfl) (Nat.le_of_ble_eq_true rfl) dX8_add_39
set_option maxRecDepth 100000 in
set_option maxHeartbeats 4000000 in
theorem k_X8_addMany_7 (l : Launch) (D : va_G) (y : Nat → ClassId) (aS : Nat → Nat) (sz : Nat) (h0 : Nat) (h1 : Nat) (wf30364 : Nat → Int64) : Met l yX8_addMany (Cond.code yX8_addMany cX8_addMany 5 none :: wsL_law) ({ frames := 1, cells := 0, slots := 0, locals := 22 } : Room) (va_Pc [.ref h0, .int 4, .long 0] (gI D y aS [(h0, .inr (8, [.ref h1, .int 0])), (h1, .inl (y 1, 200, .inr (.inl wf30364)))] sz)) (va_Qv (fun (u : Unit) => True) (fun u => gO D (va_A [(h0, .inr (8, [.ref h1, .int 0])), (h1, .inl (y 1, 200, .inr (.inl wf30364)))] sz) [(h0, .inr (8, [.ref h1, .int 4])), (h1, .inl (y 1, 200, .inr (.inl (vp_updL (vp_updL (vp_updL (vp_updL wf30364 ((0 : Int32).toNatClampNeg) 0) ((1 : Int32).toNatClampNeg) 0) ((2 : Int32).toNatClampNeg) 0) ((3 : Int32).toNatClampNeg) 0))))]) (va_A [(h0, .inr (8, [.ref h1, .int 0])), (h1, .inl (y 1, 200, .inr (.inl wf30364)))] sz)) 0 0 (va_A [(h0, .inr (8, [.ref h1, .int 0])), (h1, .inl (y 1, 200, .inr (.inl wf30364)))] sz) := by
  refine g_of (by decide) (Nat.le_of_ble_eq_true rfl) ?_
  intro p e s m below meth c ls A hx hb hr hml hown hg hlocks hin hsz hK hP hD hS hA hAe hl
  rw [← hAe]
  replace hown : s.vm.findClass RX8 = some m.cls := hown
  replace hl : lv_has ls 5 [(0, .ref h0), (1, .int 4), (2, .long 0)] := hl
  refine lv_iconst (v := 0) hx hb dX8_addMany_0 (by decide) ?_
  refine lv_istore (lv' := [(4, .int 0), (0, .ref h0), (1, .int 4), (2, .long 0)]) hx hb dX8_addMany_1 hl (by decide) rfl ?_
  clear hl
  clear ls
  intro ls hl
  refine lv_iload hx hb dX8_addMany_3 (lv_at hl 0 rfl) ?_
  refine lv_iload_n hx hb dX8_addMany_5 rfl (lv_at hl 2 rfl) ?_
  refine lv_icmp_ge (tgt := 30) hx hb dX8_addMany_6 (by decide) (fun c9 => absurd c9 (by decide +kernel)) (fun _ => ?_)
  refine lv_iload hx hb dX8_addMany_9 (lv_at hl 0 rfl) ?_
  refine lv_aload_n hx hb dX8_addMany_11 rfl (lv_at hl 1 rfl) ?_
  refine gm_get (D := D) (ci := 8) (v := .ref h1) (C := RX8) (T := TX8) (N := 2) hx hb hg inlX8 hown hK.1 hP 0 rfl rfl 0 (by decide) tX8_0 (hg _ gw_98) rfl dX8_addMany_12 ?_
  refine va_alen hx hb hK.1 hP 1 1 rfl rfl (v := 200) rfl dX8_addMany_15 ?_
  refine lv_icmp_ge (tgt := 30) hx hb dX8_addMany_16 (by decide) (fun c9 => absurd c9 (by decide +kernel)) (fun _ => ?_)
  refine lv_aload_n hx hb dX8_addMany_19 rfl (lv_at hl 1 rfl) ?_
  refine lv_lload_n hx hb dX8_addMany_20 rfl (lv_at hl 3 rfl) ?_
  refine g_av (wr := []) (va_runV (As := [.long 0]) (rest := []) ⟨hx, hb, hml, hown, hg⟩ (k_X8_add_28 l D y aS s.heap.size h0 h1 wf30364) (cwV 1 hg ggV_RX8_19_X8_add rfl rfl rfl (by decide +kernel) ⟨Nat.le_of_ble_eq_true rfl, Nat.le_of_ble_eq_true rfl⟩) (g_preV (q := (RX8, TX8, 2)) hK hP hD [0, 1] rfl (by decide) (ci := 8) (q0 := 0) rfl rfl) rfl rfl hl.1 rfl (lv_room (Nat.le_of_ble_eq_true rfl)) dX8_addMany_21 ⟨Nat.le_of_ble_eq_true rfl, Nat.le_of_ble_eq_true rfl⟩) hP hD hS hA [0, 1] [] rfl rfl (by decide) (by decide) ?_
  clear hP hD hS
  refine fun u H locs hq hP hD hS => ?_
  replace hP : va_P D vwCl [(h0, .inr (8, [.ref h1, .int 1])), (h1, .inl (y 1, 200, .inr (.inl (vp_updL wf30364 ((0 : Int32).toNatClampNeg) 0))))] H := hP
  replace hD : va_D A [(h0, .inr (8, [.ref h1, .int 1])), (h1, .inl (y 1, 200, .inr (.inl (vp_updL wf30364 ((0 : Int32).toNatClampNeg) 0))))] := hD
  refine lv_iinc (v := 1) (lv' := [(4, .int 1), (0, .ref h0), (1, .int 4), (2, .long 0)]) hx hb dX8_addMany_24 hl (k := 0) rfl (by decide +kernel) (by decide) rfl ?_
  clear hl
  clear ls
  intro ls hl
  refine lv_goto (tgt := 3) hx hb dX8_addMany_27 (by decide) ?_
  refine lv_iload hx hb dX8_addMany_3 (lv_at hl 0 rfl) ?_
  refine lv_iload_n hx hb dX8_addMany_5 rfl (lv_at hl 2 rfl) ?_
  refine lv_icmp_ge (tgt := 30) hx hb dX8_addMany_6 (by decide) (fun c9 => absurd c9 (by decide +kernel)) (fun _ => ?_)
  refine lv_iload hx hb dX8_addMany_9 (lv_at hl 0 rfl) ?_
  refine lv_aload_n hx hb dX8_addMany_11 rfl (lv_at hl 1 rfl) ?_
  refine gm_get (D := D) (ci := 8) (v := .ref h1) (C := RX8) (T := TX8) (N := 2) hx hb hg inlX8 hown hK.1 hP 0 rfl rfl 0 (by decide) tX8_0 (hg _ gw_98) rfl dX8_addMany_12 ?_
  refine va_alen hx hb hK.1 hP 1 1 rfl rfl (v := 200) rfl dX8_addMany_15 ?_
  refine lv_icmp_ge (tgt := 30) hx hb dX8_addMany_16 (by decide) (fun c9 => absurd c9 (by decide +kernel)) (fun _ => ?_)
  refine lv_aload_n hx hb dX8_addMany_19 rfl (lv_at hl 1 rfl) ?_
  refine lv_lload_n hx hb dX8_addMany_20 rfl (lv_at hl 3 rfl) ?_
  refine g_av (wr := []) (va_runV (As := [.long 0]) (rest := []) ⟨hx, hb, hml, hown, hg⟩ (k_X8_add_29 l D y aS H.size h0 h1 (vp_updL wf30364 ((0 : Int32).toNatClampNeg) 0)) (cwV 1 hg ggV_RX8_19_X8_add rfl rfl rfl (by decide +kernel) ⟨Nat.le_of_ble_eq_true rfl, Nat.le_of_ble_eq_true rfl⟩) (g_preV (q := (RX8, TX8, 2)) hK hP hD [0, 1] rfl (by decide) (ci := 8) (q0 := 0) rfl rfl) rfl rfl hl.1 rfl (lv_room (Nat.le_of_ble_eq_true rfl)) dX8_addMany_21 ⟨Nat.le_of_ble_eq_true rfl, Nat.le_of_ble_eq_true rfl⟩) hP hD hS hA [0, 1] [] rfl rfl (by decide) (by decide) ?_
  clear hP hD hS H locs
  refine fun u H locs hq hP hD hS => ?_
  replace hP : va_P D vwCl [(h0, .inr (8, [.ref h1, .int 2])), (h1, .inl (y 1, 200, .inr (.inl (vp_updL (vp_updL wf30364 ((0 : Int32).toNatClampNeg) 0) ((1 : Int32).toNatClampNeg) 0))))] H := hP
  replace hD : va_D A [(h0, .inr (8, [.ref h1, .int 2])), (h1, .inl (y 1, 200, .inr (.inl (vp_updL (vp_updL wf30364 ((0 : Int32).toNatClampNeg) 0) ((1 : Int32).toNatClampNeg) 0))))] := hD
  refine lv_iinc (v := 2) (lv' := [(4, .int 2), (0, .ref h0), (1, .int 4), (2, .long 0)]) hx hb dX8_addMany_24 hl (k := 0) rfl (by decide +kernel) (by decide) rfl ?_
  clear hl
  clear ls
  intro ls hl
  refine lv_goto (tgt := 3) hx hb dX8_addMany_27 (by decide) ?_
  refine lv_iload hx hb dX8_addMany_3 (lv_at hl 0 rfl) ?_
  refine lv_iload_n hx hb dX8_addMany_5 rfl (lv_at hl 2 rfl) ?_
  refine lv_icmp_ge (tgt := 30) hx hb dX8_addMany_6 (by decide) (fun c9 => absurd c9 (by decide +kernel)) (fun _ => ?_)
  refine lv_iload hx hb dX8_addMany_9 (lv_at hl 0 rfl) ?_
  refine lv_aload_n hx hb dX8_addMany_11 rfl (lv_at hl 1 rfl) ?_
  refine gm_get (D := D) (ci := 8) (v := .ref h1) (C := RX8) (T := TX8) (N := 2) hx hb hg inlX8 hown hK.1 hP 0 rfl rfl 0 (by decide) tX8_0 (hg _ gw_98) rfl dX8_addMany_12 ?_
  refine va_alen hx hb hK.1 hP 1 1 rfl rfl (v := 200) rfl dX8_addMany_15 ?_
  refine lv_icmp_ge (tgt := 30) hx hb dX8_addMany_16 (by decide) (fun c9 => absurd c9 (by decide +kernel)) (fun _ => ?_)
  refine lv_aload_n hx hb dX8_addMany_19 rfl (lv_at hl 1 rfl) ?_
  refine lv_lload_n hx hb dX8_addMany_20 rfl (lv_at hl 3 rfl) ?_
  refine g_av (wr := []) (va_runV (As := [.long 0]) (rest := []) ⟨hx, hb, hml, hown, hg⟩ (k_X8_add_30 l D y aS H.size h0 h1 (vp_updL (vp_updL wf30364 ((0 : Int32).toNatClampNeg) 0) ((1 : Int32).toNatClampNeg) 0)) (cwV 1 hg ggV_RX8_19_X8_add rfl rfl rfl (by decide +kernel) ⟨Nat.le_of_ble_eq_true rfl, Nat.le_of_ble_eq_true rfl⟩) (g_preV (q := (RX8, TX8, 2)) hK hP hD [0, 1] rfl (by decide) (ci := 8) (q0 := 0) rfl rfl) rfl rfl hl.1 rfl (lv_room (Nat.le_of_ble_eq_true rfl)) dX8_addMany_21 ⟨Nat.le_of_ble_eq_true rfl, Nat.le_of_ble_eq_true rfl⟩) hP hD hS hA [0, 1] [] rfl rfl (by decide) (by decide) ?_
  clear hP hD hS H locs
  refine fun u H locs hq hP hD hS => ?_
  replace hP : va_P D vwCl [(h0, .inr (8, [.ref h1, .int 3])), (h1, .inl (y 1, 200, .inr (.inl (vp_updL (vp_updL (vp_updL wf30364 ((0 : Int32).toNatClampNeg) 0) ((1 : Int32).toNatClampNeg) 0) ((2 : Int32).toNatClampNeg) 0))))] H := hP
  replace hD : va_D A [(h0, .inr (8, [.ref h1, .int 3])), (h1, .inl (y 1, 200, .inr (.inl (vp_updL (vp_updL (vp_updL wf30364 ((0 : Int32).toNatClampNeg) 0) ((1 : Int32).toNatClampNeg) 0) ((2 : Int32).toNatClampNeg) 0))))] := hD
  refine lv_iinc (v := 3) (lv' := [(4, .int 3), (0, .ref h0), (1, .int 4), (2, .long 0)]) hx hb dX8_addMany_24 hl (k := 0) rfl (by decide +kernel) (by decide) rfl ?_
  clear hl
  clear ls
  intro ls hl
  refine lv_goto (tgt := 3) hx hb dX8_addMany_27 (by decide) ?_
  refine lv_iload hx hb dX8_addMany_3 (lv_at hl 0 rfl) ?_
  refine lv_iload_n hx hb dX8_addMany_5 rfl (lv_at hl 2 rfl) ?_
  refine lv_icmp_ge (tgt := 30) hx hb dX8_addMany_6 (by decide) (fun c9 => absurd c9 (by decide +kernel)) (fun _ => ?_)
  refine lv_iload hx hb dX8_addMany_9 (lv_at hl 0 rfl) ?_
  refine lv_aload_n hx hb dX8_addMany_11 rfl (lv_at hl 1 rfl) ?_
  refine gm_get (D := D) (ci := 8) (v := .ref h1) (C := RX8) (T := TX8) (N := 2) hx hb hg inlX8 hown hK.1 hP 0 rfl rfl 0 (by decide) tX8_0 (hg _ gw_98) rfl dX8_addMany_12 ?_
  refine va_alen hx hb hK.1 hP 1 1 rfl rfl (v := 200) rfl dX8_addMany_15 ?_
  refine lv_icmp_ge (tgt := 30) hx hb dX8_addMany_16 (by decide) (fun c9 => absurd c9 (by decide +kernel)) (fun _ => ?_)
  refine lv_aload_n hx hb dX8_addMany_19 rfl (lv_at hl 1 rfl) ?_
  refine lv_lload_n hx hb dX8_addMany_20 rfl (lv_at hl 3 rfl) ?_
  refine g_av (wr := []) (va_runV (As := [.long 0]) (rest := []) ⟨hx, hb, hml, hown, hg⟩ (k_X8_add_31 l D y aS H.size h0 h1 (vp_updL (vp_updL (vp_updL wf30364 ((0 : Int32).toNatClampNeg) 0) ((1 : Int32).toNatClampNeg) 0) ((2 : Int32).toNatClampNeg) 0)) (cwV 1 hg ggV_RX8_19_X8_add rfl rfl rfl (by decide +kernel) ⟨Nat.le_of_ble_eq_true rfl, Nat.le_of_ble_eq_true rfl⟩) (g_preV (q := (RX8, TX8, 2)) hK hP hD [0, 1] rfl (by decide) (ci := 8) (q0 := 0) rfl rfl) rfl rfl hl.1 rfl (lv_room (Nat.le_of_ble_eq_true rfl)) dX8_addMany_21 ⟨Nat.le_of_ble_eq_true rfl, Nat.le_of_ble_eq_true rfl⟩) hP hD hS hA [0, 1] [] rfl rfl (by decide) (by decide) ?_
  clear hP hD hS H locs
  refine fun u H locs hq hP hD hS => ?_
  replace hP : va_P D vwCl [(h0, .inr (8, [.ref h1, .int 4])), (h1, .inl (y 1, 200, .inr (.inl (vp_updL (vp_updL (vp_updL (vp_updL wf30364 ((0 : Int32).toNatClampNeg) 0) ((1 : Int32).toNatClampNeg) 0) ((2 : Int32).toNatClampNeg) 0) ((3 : Int32).toNatClampNeg) 0))))] H := hP
  replace hD : va_D A [(h0, .inr (8, [.ref h1, .int 4])), (h1, .inl (y 1, 200, .inr (.inl (vp_updL (vp_updL (vp_updL (vp_updL wf30364 ((0 : Int32).toNatClampNeg) 0) ((1 : Int32).toNatClampNeg) 0) ((2 : Int32).toNatClampNeg) 0) ((3 : Int32).toNatClampNeg) 0))))] := hD
  refine lv_iinc (v := 4) (lv' := [(4, .int 4), (0, .ref h0), (1, .int 4), (2, .long 0)]) hx hb dX8_addMany_24 hl (k := 0) rfl (by decide +kernel) (by decide) rfl ?_
  clear hl
  clear ls
  intro ls hl
  refine lv_goto (tgt := 3) hx hb dX8_addMany_27 (by decide) ?_
  refine lv_iload hx hb dX8_addMany_3 (lv_at hl 0 rfl) ?_
  refine lv_iload_n hx hb dX8_addMany_5 rfl (lv_at hl 2 rfl) ?_
  refine lv_icmp_ge (tgt := 30) hx hb dX8_addMany_6 (by decide) (fun _ => ?_) (fun c9 => absurd c9 (by decide +kernel))
  exact g_vret hx hb hr hlocks () hP hD hS trivial (Nat.le_of_ble_eq_true rfl) (Nat.le_of_ble_eq_true rfl) dX8_addMany_30
set_option maxRecDepth 100000 in
set_option maxHeartbeats 4000000 in
theorem k_X8_set_48 (l : Launch) (D : va_G) (y : Nat → ClassId) (aS : Nat → Nat) (sz : Nat) (h0 : Nat) (p1 : Int64) (h2 : Nat) (wp30371 : Int32) (wf30372 : Nat → Int64) : Met l yX8_set (Cond.code yX8_set cX8_set 4 none :: wsL_law) ({ frames := 0, cells := 0, slots := 0, locals := 0 } : Room) (va_Pc [.ref h0, .int 3, .long p1] (gI D y aS [(h0, .inr (8, [.ref h2, .int wp30371])), (h2, .inl (y 1, 200, .inr (.inl wf30372)))] sz)) (va_Qv (fun (u : Unit) => True) (fun u => gO D (va_A [(h0, .inr (8, [.ref h2, .int wp30371])), (h2, .inl (y 1, 200, .inr (.inl wf30372)))] sz) [(h0, .inr (8, [.ref h2, .int wp30371])), (h2, .inl (y 1, 200, .inr (.inl (vp_updL wf30372 ((3 : Int32).toNatClampNeg) p1))))]) (va_A [(h0, .inr (8, [.ref h2, .int wp30371])), (h2, .inl (y 1, 200, .inr (.inl wf30372)))] sz)) 0 0 (va_A [(h0, .inr (8, [.ref h2, .int wp30371])), (h2, .inl (y 1, 200, .inr (.inl wf30372)))] sz) := by
  refine g_of (by decide) (Nat.le_of_ble_eq_true rfl) ?_
  intro p e s m below meth c ls A hx hb hr hml hown hg hlocks hin hsz hK hP hD hS hA hAe hl
  rw [← hAe]
  replace hown : s.vm.findClass RX8 = some m.cls := hown
  replace hl : lv_has ls 4 [(0, .ref h0), (1, .int 3), (2, .long p1)] := hl
  refine lv_iload_n hx hb dX8_set_0 rfl (lv_at hl 1 rfl) ?_
  refine lv_if_lt (tgt := 20) hx hb dX8_set_1 (by decide) (fun c9 => absurd c9 (by decide +kernel)) (fun _ => ?_)
  refine lv_iload_n hx hb dX8_set_4 rfl (lv_at hl 1 rfl) ?_
  refine lv_aload_n hx hb dX8_set_5 rfl (lv_at hl 0 rfl) ?_
  refine gm_get (D := D) (ci := 8) (v := .ref h2) (C := RX8) (T := TX8) (N := 2) hx hb hg inlX8 hown hK.1 hP 0 rfl rfl 0 (by decide) tX8_0 (hg _ gw_98) rfl dX8_set_6 ?_
  refine va_alen hx hb hK.1 hP 1 1 rfl rfl (v := 200) rfl dX8_set_9 ?_
  refine lv_icmp_ge (tgt := 20) hx hb dX8_set_10 (by decide) (fun c9 => absurd c9 (by decide +kernel)) (fun _ => ?_)
  refine lv_aload_n hx hb dX8_set_13 rfl (lv_at hl 0 rfl) ?_
  refine gm_get (D := D) (ci := 8) (v := .ref h2) (C := RX8) (T := TX8) (N := 2) hx hb hg inlX8 hown hK.1 hP 0 rfl rfl 0 (by decide) tX8_0 (hg _ gw_98) rfl dX8_set_14 ?_
  refine lv_iload_n hx hb dX8_set_17 rfl (lv_at hl 1 rfl) ?_
  refine lv_lload_n hx hb dX8_set_18 rfl (lv_at hl 2 rfl) ?_
  refine va_last hx hb hK.1 hP hD hS 1 1 rfl rfl (by unfold vp_in; decide +kernel) dX8_set_19 ?_
  clear hP hD hS
  refine fun H locs (hP : va_P D vwCl [(h0, .inr (8, [.ref h2, .int wp30371])), (h2, .inl (y 1, 200, .inr (.inl (vp_updL wf30372 ((3 : Int32).toNatClampNeg) p1))))] H) (hD : va_D A [(h0, .inr (8, [.ref h2, .int wp30371])), (h2, .inl (y 1, 200, .inr (.inl (vp_updL wf30372 ((3 : Int32).toNatClampNeg) p1))))]) hS => ?_
  exact g_vret hx hb hr hlocks () hP hD hS trivial (Nat.le_of_ble_eq_true rfl) (Nat.le_of_ble_eq_true rfl) dX8_set_20
set_option maxRecDepth 100000 in
set_option maxHeartbeats 4000000 in
theorem k_X5_find_9 (l : Launch) (D : va_G) (y : Nat → ClassId) (aS : Nat → Nat) (sz : Nat) (h0 : Nat) (h1 : Nat) (h2 : Nat) (h3 : Nat) (h4 : Nat) (wp30391 : Int32) (h6 : Nat) (wp30392 : Int32) : Met l yX5_find (Cond.code yX5_find cX5_find 6 none :: wsL_law) ({ frames := 1, cells := 0, slots := 0, locals := 21 } : Room) (va_Pc [.ref h0, .int 0, .int 3] (gI D y aS [(h0, .inr (5, [.ref h1, .ref h2, .ref h3, .ref h4, .int wp30391])), (h4, .inr (8, [.ref h6, .int wp30392])), (h6, .inl (y 1, 3, .inr (.inl (fun _ => 0))))] sz)) (va_Qv (fun (u : Unit) => True) (fun u => gO D (va_A [(h0, .inr (5, [.ref h1, .ref h2, .ref h3, .ref h4, .int wp30391])), (h4, .inr (8, [.ref h6, .int wp30392])), (h6, .inl (y 1, 3, .inr (.inl (fun _ => 0))))] sz) [(h0, .inr (5, [.ref h1, .ref h2, .ref h3, .ref h4, .int wp30391])), (h4, .inr (8, [.ref h6, .int wp30392])), (h6, .inl (y 1, 3, .inr (.inl (fun _ => 0))))]) (va_A [(h0, .inr (5, [.ref h1, .ref h2, .ref h3, .ref h4, .int wp30391])), (h4, .inr (8, [.ref h6, .int wp30392])), (h6, .inl (y 1, 3, .inr (.inl (fun _ => 0))))] sz)) 0 0 (va_A [(h0, .inr (5, [.ref h1, .ref h2, .ref h3, .ref h4, .int wp30391])), (h4, .inr (8, [.ref h6, .int wp30392])), (h6, .inl (y 1, 3, .inr (.inl (fun _ => 0))))] sz) := by
  refine g_of (by decide) (Nat.le_of_ble_eq_true rfl) ?_
  intro p e s m below meth c ls A hx hb hr hml hown hg hlocks hin hsz hK hP hD hS hA hAe hl
  rw [← hAe]
  replace hown : s.vm.findClass RX5 = some m.cls := hown
  replace hl : lv_has ls 6 [(0, .ref h0), (1, .int 0), (2, .int 3)] := hl
  refine lv_aload_n hx hb dX5_find_0 rfl (lv_at hl 0 rfl) ?_
  refine gm_get (D := D) (ci := 5) (v := .ref h4) (C := RX5) (T := TX5) (N := 5) hx hb hg inlX5 hown hK.1 hP 0 rfl rfl 3 (by decide) tX5_3 (hg _ gw_141) rfl dX5_find_1 ?_
  refine lv_iload_n hx hb dX5_find_4 rfl (lv_at hl 1 rfl) ?_
  refine g_ai (wr := [(h0, .inr (5, [.ref h1, .ref h2, .ref h3, .ref h4, .int wp30391]))]) (va_runV (As := [.int 0]) (rest := []) ⟨hx, hb, hml, hown, hg⟩ (k_X8_whole_27 l D y aS s.heap.size h4 h6 wp30392) (cwV 1 hg ggV_RX5_50_X8_whole rfl rfl rfl (by decide +kernel) ⟨Nat.le_of_ble_eq_true rfl, Nat.le_of_ble_eq_true rfl⟩) (g_preV (q := (RX8, TX8, 2)) hK hP hD [1, 2] rfl (by decide) (ci := 8) (q0 := 1) rfl rfl) rfl rfl hl.1 rfl (lv_room (Nat.le_of_ble_eq_true rfl)) dX5_find_5 ⟨Nat.le_of_ble_eq_true rfl, Nat.le_of_ble_eq_true rfl⟩) hP hD hS hA [1, 2] [0] rfl rfl (by decide) (by decide) ?_
  clear hP hD hS
  refine fun r30393 u H locs hq hP hD hS => ?_
  subst hq
  replace hP : va_P D vwCl [(h0, .inr (5, [.ref h1, .ref h2, .ref h3, .ref h4, .int wp30391])), (h4, .inr (8, [.ref h6, .int wp30392])), (h6, .inl (y 1, 3, .inr (.inl (fun _ => 0))))] H := hP
  replace hD : va_D A [(h0, .inr (5, [.ref h1, .ref h2, .ref h3, .ref h4, .int wp30391])), (h4, .inr (8, [.ref h6, .int wp30392])), (h6, .inl (y 1, 3, .inr (.inl (fun _ => 0))))] := hD
  refine lv_istore_n (lv' := [(3, .int 0), (0, .ref h0), (1, .int 0), (2, .int 3)]) hx hb dX5_find_8 rfl hl (by decide) rfl ?_
  clear hl
  clear ls
  intro ls hl
  refine lv_iconst (v := 0) hx hb dX5_find_9 (by decide) ?_
  refine lv_istore (lv' := [(4, .int 0), (3, .int 0), (0, .ref h0), (1, .int 0), (2, .int 3)]) hx hb dX5_find_10 hl (by decide) rfl ?_
  clear hl
  clear ls
  intro ls hl
  refine lv_iload hx hb dX5_find_12 (lv_at hl 0 rfl) ?_
  refine lv_iload_n hx hb dX5_find_14 rfl (lv_at hl 1 rfl) ?_
  refine lv_icmp_ge (tgt := 67) hx hb dX5_find_15 (by decide) (fun _ => ?_) (fun c9 => absurd c9 (by decide +kernel))
  refine lv_iload_n hx hb dX5_find_67 rfl (lv_at hl 1 rfl) ?_
  refine lv_if_le (tgt := 107) hx hb dX5_find_68 (by decide) (fun _ => ?_) (fun c9 => absurd c9 (by decide +kernel))
  refine lv_iload hx hb dX5_find_107 (lv_at hl 0 rfl) ?_
  refine lv_if_le (tgt := 139) hx hb dX5_find_109 (by decide) (fun _ => ?_) (fun c9 => absurd c9 (by decide +kernel))
  exact g_vret hx hb hr hlocks () hP hD hS trivial (Nat.le_of_ble_eq_true rfl) (Nat.le_of_ble_eq_true rfl) dX5_find_139
set_option maxRecDepth 100000 in
set_option maxHeartbeats 4000000 in
theorem k_X5_find_10 (l : Launch) (D : va_G) (y : Nat → ClassId) (aS : Nat → Nat) (sz : Nat) (h0 : Nat) (h1 : Nat) (h2 : Nat) (h3 : Nat) (h4 : Nat) (wp30396 : Int32) (h6 : Nat) (wp30397 : Int32) : Met l yX5_find (Cond.code yX5_find cX5_find 6 none :: wsL_law) ({ frames := 1, cells := 0, slots := 0, locals := 21 } : Room) (va_Pc [.ref h0, .int 1, .int 3] (gI D y aS [(h0, .inr (5, [.ref h1, .ref h2, .ref h3, .ref h4, .int wp30396])), (h4, .inr (8, [.ref h6, .int wp30397])), (h6, .inl (y 1, 3, .inr (.inl (fun _ => 0))))] sz)) (va_Qv (fun (u : Unit) => True) (fun u => gO D (va_A [(h0, .inr (5, [.ref h1, .ref h2, .ref h3, .ref h4, .int wp30396])), (h4, .inr (8, [.ref h6, .int wp30397])), (h6, .inl (y 1, 3, .inr (.inl (fun _ => 0))))] sz) [(h0, .inr (5, [.ref h1, .ref h2, .ref h3, .ref h4, .int wp30396])), (h4, .inr (8, [.ref h6, .int wp30397])), (h6, .inl (y 1, 3, .inr (.inl (fun _ => 0))))]) (va_A [(h0, .inr (5, [.ref h1, .ref h2, .ref h3, .ref h4, .int wp30396])), (h4, .inr (8, [.ref h6, .int wp30397])), (h6, .inl (y 1, 3, .inr (.inl (fun _ => 0))))] sz)) 0 0 (va_A [(h0, .inr (5, [.ref h1, .ref h2, .ref h3, .ref h4, .int wp30396])), (h4, .inr (8, [.ref h6, .int wp30397])), (h6, .inl (y 1, 3, .inr (.inl (fun _ => 0))))] sz) := by
  refine g_of (by decide) (Nat.le_of_ble_eq_true rfl) ?_
  intro p e s m below meth c ls A hx hb hr hml hown hg hlocks hin hsz hK hP hD hS hA hAe hl
  rw [← hAe]
  replace hown : s.vm.findClass RX5 = some m.cls := hown
  replace hl : lv_has ls 6 [(0, .ref h0), (1, .int 1), (2, .int 3)] := hl
  refine lv_aload_n hx hb dX5_find_0 rfl (lv_at hl 0 rfl) ?_
  refine gm_get (D := D) (ci := 5) (v := .ref h4) (C := RX5) (T := TX5) (N := 5) hx hb hg inlX5 hown hK.1 hP 0 rfl rfl 3 (by decide) tX5_3 (hg _ gw_141) rfl dX5_find_1 ?_
  refine lv_iload_n hx hb dX5_find_4 rfl (lv_at hl 1 rfl) ?_
  refine g_ai (wr := [(h0, .inr (5, [.ref h1, .ref h2, .ref h3, .ref h4, .int wp30396]))]) (va_runV (As := [.int 1]) (rest := []) ⟨hx, hb, hml, hown, hg⟩ (k_X8_whole_28 l D y aS s.heap.size h4 h6 wp30397) (cwV 1 hg ggV_RX5_50_X8_whole rfl rfl rfl (by decide +kernel) ⟨Nat.le_of_ble_eq_true rfl, Nat.le_of_ble_eq_true rfl⟩) (g_preV (q := (RX8, TX8, 2)) hK hP hD [1, 2] rfl (by decide) (ci := 8) (q0 := 1) rfl rfl) rfl rfl hl.1 rfl (lv_room (Nat.le_of_ble_eq_true rfl)) dX5_find_5 ⟨Nat.le_of_ble_eq_true rfl, Nat.le_of_ble_eq_true rfl⟩) hP hD hS hA [1, 2] [0] rfl rfl (by decide) (by decide) ?_
  clear hP hD hS
  refine fun r30398 u H locs hq hP hD hS => ?_
  subst hq
  replace hP : va_P D vwCl [(h0, .inr (5, [.ref h1, .ref h2, .ref h3, .ref h4, .int wp30396])), (h4, .inr (8, [.ref h6, .int wp30397])), (h6, .inl (y 1, 3, .inr (.inl (fun _ => 0))))] H := hP
  replace hD : va_D A [(h0, .inr (5, [.ref h1, .ref h2, .ref h3, .ref h4, .int wp30396])), (h4, .inr (8, [.ref h6, .int wp30397])), (h6, .inl (y 1, 3, .inr (.inl (fun _ => 0))))] := hD
  refine lv_istore_n (lv' := [(3, .int 0), (0, .ref h0), (1, .int 1), (2, .int 3)]) hx hb dX5_find_8 rfl hl (by decide) rfl ?_
  clear hl
  clear ls
  intro ls hl
  refine lv_iconst (v := 0) hx hb dX5_find_9 (by decide) ?_
  refine lv_istore (lv' := [(4, .int 0), (3, .int 0), (0, .ref h0), (1, .int 1), (2, .int 3)]) hx hb dX5_find_10 hl (by decide) rfl ?_
  clear hl
  clear ls
  intro ls hl
  refine lv_iload hx hb dX5_find_12 (lv_at hl 0 rfl) ?_
  refine lv_iload_n hx hb dX5_find_14 rfl (lv_at hl 1 rfl) ?_
  refine lv_icmp_ge (tgt := 67) hx hb dX5_find_15 (by decide) (fun _ => ?_) (fun c9 => absurd c9 (by decide +kernel))
  refine lv_iload_n hx hb dX5_find_67 rfl (lv_at hl 1 rfl) ?_
  refine lv_if_le (tgt := 107) hx hb dX5_find_68 (by decide) (fun _ => ?_) (fun c9 => absurd c9 (by decide +kernel))
  refine lv_iload hx hb dX5_find_107 (lv_at hl 0 rfl) ?_
  refine lv_if_le (tgt := 139) hx hb dX5_find_109 (by decide) (fun _ => ?_) (fun c9 => absurd c9 (by decide +kernel))
  exact g_vret hx hb hr hlocks () hP hD hS trivial (Nat.le_of_ble_eq_true rfl) (Nat.le_of_ble_eq_true rfl) dX5_find_139
set_option maxRecDepth 100000 in
set_option maxHeartbeats 4000000 in
theorem k_X5_find_11 (l : Launch) (D : va_G) (y : Nat → ClassId) (aS : Nat → Nat) (sz : Nat) (h0 : Nat) (h1 : Nat) (h2 : Nat) (h3 : Nat) (h4 : Nat) (wp30401 : Int32) (h6 : Nat) (wp30402 : Int32) : Met l yX5_find (Cond.code yX5_find cX5_find 6 none :: wsL_law) ({ frames := 1, cells := 0, slots := 0, locals := 21 } : Room) (va_Pc [.ref h0, .int 2, .int 3] (gI D y aS [(h0, .inr (5, [.ref h1, .ref h2, .ref h3, .ref h4, .int wp30401])), (h4, .inr (8, [.ref h6, .int wp30402])), (h6, .inl (y 1, 3, .inr (.inl (fun _ => 0))))] sz)) (va_Qv (fun (u : Unit) => True) (fun u => gO D (va_A [(h0, .inr (5, [.ref h1, .ref h2, .ref h3, .ref h4, .int wp30401])), (h4, .inr (8, [.ref h6, .int wp30402])), (h6, .inl (y 1, 3, .inr (.inl (fun _ => 0))))] sz) [(h0, .inr (5, [.ref h1, .ref h2, .ref h3, .ref h4, .int wp30401])), (h4, .inr (8, [.ref h6, .int wp30402])), (h6, .inl (y 1, 3, .inr (.inl (fun _ => 0))))]) (va_A [(h0, .inr (5, [.ref h1, .ref h2, .ref h3, .ref h4, .int wp30401])), (h4, .inr (8, [.ref h6, .int wp30402])), (h6, .inl (y 1, 3, .inr (.inl (fun _ => 0))))] sz)) 0 0 (va_A [(h0, .inr (5, [.ref h1, .ref h2, .ref h3, .ref h4, .int wp30401])), (h4, .inr (8, [.ref h6, .int wp30402])), (h6, .inl (y 1, 3, .inr (.inl (fun _ => 0))))] sz) := by
  refine g_of (by decide) (Nat.le_of_ble_eq_true rfl) ?_
  intro p e s m below meth c ls A hx hb hr hml hown hg hlocks hin hsz hK hP hD hS hA hAe hl
  rw [← hAe]
  replace hown : s.vm.findClass RX5 = some m.cls := hown
  replace hl : lv_has ls 6 [(0, .ref h0), (1, .int 2), (2, .int 3)] := hl
  refine lv_aload_n hx hb dX5_find_0 rfl (lv_at hl 0 rfl) ?_
  refine gm_get (D := D) (ci := 5) (v := .ref h4) (C := RX5) (T := TX5) (N := 5) hx hb hg inlX5 hown hK.1 hP 0 rfl rfl 3 (by decide) tX5_3 (hg _ gw_141) rfl dX5_find_1 ?_
  refine lv_iload_n hx hb dX5_find_4 rfl (lv_at hl 1 rfl) ?_
  refine g_ai (wr := [(h0, .inr (5, [.ref h1, .ref h2, .ref h3, .ref h4, .int wp30401]))]) (va_runV (As := [.int 2]) (rest := []) ⟨hx, hb, hml, hown, hg⟩ (k_X8_whole_29 l D y aS s.heap.size h4 h6 wp30402) (cwV 1 hg ggV_RX5_50_X8_whole rfl rfl rfl (by decide +kernel) ⟨Nat.le_of_ble_eq_true rfl, Nat.le_of_ble_eq_true rfl⟩) (g_preV (q := (RX8, TX8, 2)) hK hP hD [1, 2] rfl (by decide) (ci := 8) (q0 := 1) rfl rfl) rfl rfl hl.1 rfl (lv_room (Nat.le_of_ble_eq_true rfl)) dX5_find_5 ⟨Nat.le_of_ble_eq_true rfl, Nat.le_of_ble_eq_true rfl⟩) hP hD hS hA [1, 2] [0] rfl rfl (by decide) (by decide) ?_
  clear hP hD hS
  refine fun r30403 u H locs hq hP hD hS => ?_
  subst hq
  replace hP : va_P D vwCl [(h0, .inr (5, [.ref h1, .ref h2, .ref h3, .ref h4, .int wp30401])), (h4, .inr (8, [.ref h6, .int wp30402])), (h6, .inl (y 1, 3, .inr (.inl (fun _ => 0))))] H := hP
  replace hD : va_D A [(h0, .inr (5, [.ref h1, .ref h2, .ref h3, .ref h4, .int wp30401])), (h4, .inr (8, [.ref h6, .int wp30402])), (h6, .inl (y 1, 3, .inr (.inl (fun _ => 0))))] := hD
  refine lv_istore_n (lv' := [(3, .int 0), (0, .ref h0), (1, .int 2), (2, .int 3)]) hx hb dX5_find_8 rfl hl (by decide) rfl ?_
  clear hl
  clear ls
  intro ls hl
  refine lv_iconst (v := 0) hx hb dX5_find_9 (by decide) ?_
  refine lv_istore (lv' := [(4, .int 0), (3, .int 0), (0, .ref h0), (1, .int 2), (2, .int 3)]) hx hb dX5_find_10 hl (by decide) rfl ?_
  clear hl
  clear ls
  intro ls hl
  refine lv_iload hx hb dX5_find_12 (lv_at hl 0 rfl) ?_
  refine lv_iload_n hx hb dX5_find_14 rfl (lv_at hl 1 rfl) ?_
  refine lv_icmp_ge (tgt := 67) hx hb dX5_find_15 (by decide) (fun _ => ?_) (fun c9 => absurd c9 (by decide +kernel))
  refine lv_iload_n hx hb dX5_find_67 rfl (lv_at hl 1 rfl) ?_
  refine lv_if_le (tgt := 107) hx hb dX5_find_68 (by decide) (fun _ => ?_) (fun c9 => absurd c9 (by decide +kernel))
  refine lv_iload hx hb dX5_find_107 (lv_at hl 0 rfl) ?_
  refine lv_if_le (tgt := 139) hx hb dX5_find_109 (by decide) (fun _ => ?_) (fun c9 => absurd c9 (by decide +kernel))
  exact g_vret hx hb hr hlocks () hP hD hS trivial (Nat.le_of_ble_eq_true rfl) (Nat.le_of_ble_eq_true rfl) dX5_find_139
set_option maxRecDepth 100000 in
set_option maxHeartbeats 4000000 in
theorem k_X5_findOut_4 (l : Launch) (D : va_G) (y : Nat → ClassId) (aS : Nat → Nat) (sz : Nat) (h0 : Nat) (h1 : Nat) (h2 : Nat) (h3 : Nat) (h4 : Nat) (wp30405 : Int32) (h6 : Nat) (h7 : Nat) (wp30406 : Int32) (wf30407 : Nat → Int64) (h10 : Nat) (wp30408 : Int32) : Met l yX5_findOut (Cond.code yX5_findOut cX5_findOut 3 none :: wsL_law) ({ frames := 2, cells := 0, slots := 0, locals := 46 } : Room) (va_Pc [.ref h0] (gI D y aS [(h0, .inr (5, [.ref h1, .ref h2, .ref h3, .ref h4, .int wp30405])), (h1, .inr (8, [.ref h6, .int 4])), (h2, .inr (8, [.ref h7, .int wp30406])), (h7, .inl (y 1, 200, .inr (.inl wf30407))), (h4, .inr (8, [.ref h10, .int wp30408])), (h10, .inl (y 1, 3, .inr (.inl (fun _ => 0))))] sz)) (va_Qv (fun (u : Unit) => True) (fun u => gO D (va_A [(h0, .inr (5, [.ref h1, .ref h2, .ref h3, .ref h4, .int wp30405])), (h1, .inr (8, [.ref h6, .int 4])), (h2, .inr (8, [.ref h7, .int wp30406])), (h7, .inl (y 1, 200, .inr (.inl wf30407))), (h4, .inr (8, [.ref h10, .int wp30408])), (h10, .inl (y 1, 3, .inr (.inl (fun _ => 0))))] sz) [(h0, .inr (5, [.ref h1, .ref h2, .ref h3, .ref h4, .int 4])), (h1, .inr (8, [.ref h6, .int 4])), (h2, .inr (8, [.ref h7, .int wp30406])), (h7, .inl (y 1, 200, .inr (.inl (vp_updL (vp_updL (vp_updL (vp_updL wf30407 ((0 : Int32).toNatClampNeg) 0) ((1 : Int32).toNatClampNeg) 0) ((2 : Int32).toNatClampNeg) 0) ((3 : Int32).toNatClampNeg) 0)))), (h4, .inr (8, [.ref h10, .int wp30408])), (h10, .inl (y 1, 3, .inr (.inl (fun _ => 0))))]) (va_A [(h0, .inr (5, [.ref h1, .ref h2, .ref h3, .ref h4, .int wp30405])), (h1, .inr (8, [.ref h6, .int 4])), (h2, .inr (8, [.ref h7, .int wp30406])), (h7, .inl (y 1, 200, .inr (.inl wf30407))), (h4, .inr (8, [.ref h10, .int wp30408])), (h10, .inl (y 1, 3, .inr (.inl (fun _ => 0))))] sz)) 0 0 (va_A [(h0, .inr (5, [.ref h1, .ref h2, .ref h3, .ref h4, .int wp30405])), (h1, .inr (8, [.ref h6, .int 4])), (h2, .inr (8, [.ref h7, .int wp30406])), (h7, .inl (y 1, 200, .inr (.inl wf30407))), (h4, .inr (8, [.ref h10, .int wp30408])), (h10, .inl (y 1, 3, .inr (.inl (fun _ => 0))))] sz) := by
  refine g_of (by decide) (Nat.le_of_ble_eq_true rfl) ?_
  intro p e s m below meth c ls A hx hb hr hml hown hg hlocks hin hsz hK hP hD hS hA hAe hl
  rw [← hAe]
  replace hown : s.vm.findClass RX5 = some m.cls := hown
  replace hl : lv_has ls 3 [(0, .ref h0)] := hl
  refine lv_aload_n hx hb dX5_findOut_0 rfl (lv_at hl 0 rfl) ?_
  refine lv_aload_n hx hb dX5_findOut_1 rfl (lv_at hl 0 rfl) ?_
  refine gm_get (D := D) (ci := 5) (v := .ref h1) (C := RX5) (T := TX5) (N := 5) hx hb hg inlX5 hown hK.1 hP 0 rfl rfl 0 (by decide) tX5_0 (hg _ gw_138) rfl dX5_findOut_2 ?_
  refine gm_get (D := D) (ci := 8) (v := .int 4) (C := RX8) (T := TX8) (N := 2) hx hb hg inlX8 hown hK.1 hP 1 rfl rfl 1 (by decide) tX8_1 (hg _ gw_1441) rfl dX5_findOut_5 ?_
  refine gm_put (D := D) (ci := 5) (v := .int 4) (ty := .int) (C := RX5) (T := TX5) (N := 5) hx hb hg inlX5 tyX5 tyX5_ok nmX5 hown hK.1 hP hD hS 0 rfl rfl 4 (by decide) tX5_4 (hg _ gw_1442) (by decide +kernel) rfl rfl (Nat.le_of_ble_eq_true rfl) dX5_findOut_8 ?_
  clear hP hD hS
  refine fun H locs (hP : va_P D vwCl [(h0, .inr (5, [.ref h1, .ref h2, .ref h3, .ref h4, .int 4])), (h1, .inr (8, [.ref h6, .int 4])), (h2, .inr (8, [.ref h7, .int wp30406])), (h7, .inl (y 1, 200, .inr (.inl wf30407))), (h4, .inr (8, [.ref h10, .int wp30408])), (h10, .inl (y 1, 3, .inr (.inl (fun _ => 0))))] H) (hD : va_D A [(h0, .inr (5, [.ref h1, .ref h2, .ref h3, .ref h4, .int 4])), (h1, .inr (8, [.ref h6, .int 4])), (h2, .inr (8, [.ref h7, .int wp30406])), (h7, .inl (y 1, 200, .inr (.inl wf30407))), (h4, .inr (8, [.ref h10, .int wp30408])), (h10, .inl (y 1, 3, .inr (.inl (fun _ => 0))))]) hS => ?_
  refine lv_iconst (v := 0) hx hb dX5_findOut_11 (by decide) ?_
  refine lv_istore_n (lv' := [(1, .int 0), (0, .ref h0)]) hx hb dX5_findOut_12 rfl hl (by decide) rfl ?_
  clear hl
  clear ls
  intro ls hl
  refine lv_iload_n hx hb dX5_findOut_13 rfl (lv_at hl 0 rfl) ?_
  refine lv_aload_n hx hb dX5_findOut_14 rfl (lv_at hl 1 rfl) ?_
  refine gm_get (D := D) (ci := 5) (v := .ref h1) (C := RX5) (T := TX5) (N := 5) hx hb hg inlX5 hown hK.1 hP 0 rfl rfl 0 (by decide) tX5_0 (hg _ gw_138) rfl dX5_findOut_15 ?_
  refine gm_get (D := D) (ci := 8) (v := .int 4) (C := RX8) (T := TX8) (N := 2) hx hb hg inlX8 hown hK.1 hP 1 rfl rfl 1 (by decide) tX8_1 (hg _ gw_1441) rfl dX5_findOut_18 ?_
  refine lv_icmp_ge (tgt := 39) hx hb dX5_findOut_21 (by decide) (fun c9 => absurd c9 (by decide +kernel)) (fun _ => ?_)
  refine lv_aload_n hx hb dX5_findOut_24 rfl (lv_at hl 1 rfl) ?_
  refine gm_get (D := D) (ci := 5) (v := .ref h2) (C := RX5) (T := TX5) (N := 5) hx hb hg inlX5 hown hK.1 hP 0 rfl rfl 1 (by decide) tX5_1 (hg _ gw_139) rfl dX5_findOut_25 ?_
  refine lv_iload_n hx hb dX5_findOut_28 rfl (lv_at hl 0 rfl) ?_
  refine lv_lconst (v := 0) hx hb dX5_findOut_29 (by decide) ?_
  refine g_av (wr := [(h0, .inr (5, [.ref h1, .ref h2, .ref h3, .ref h4, .int 4])), (h1, .inr (8, [.ref h6, .int 4])), (h4, .inr (8, [.ref h10, .int wp30408])), (h10, .inl (y 1, 3, .inr (.inl (fun _ => 0))))]) (va_runV (As := [.int 0, .long 0]) (rest := []) ⟨hx, hb, hml, hown, hg⟩ (k_X8_set_45 l D y aS H.size h2 0 h7 wp30406 wf30407) (cwV 2 hg ggV_RX5_29_X8_set rfl rfl rfl (by decide +kernel) ⟨Nat.le_of_ble_eq_true rfl, Nat.le_of_ble_eq_true rfl⟩) (g_preV (q := (RX8, TX8, 2)) hK hP hD [2, 3] rfl (by decide) (ci := 8) (q0 := 2) rfl rfl) rfl rfl hl.1 rfl (lv_room (Nat.le_of_ble_eq_true rfl)) dX5_findOut_30 ⟨Nat.le_of_ble_eq_true rfl, Nat.le_of_ble_eq_true rfl⟩) hP hD hS hA [2, 3] [0, 1, 4, 5] rfl rfl (by decide) (by decide) ?_
  clear hP hD hS H locs
  refine fun u H locs hq hP hD hS => ?_
  replace hP : va_P D vwCl [(h0, .inr (5, [.ref h1, .ref h2, .ref h3, .ref h4, .int 4])), (h1, .inr (8, [.ref h6, .int 4])), (h4, .inr (8, [.ref h10, .int wp30408])), (h10, .inl (y 1, 3, .inr (.inl (fun _ => 0)))), (h2, .inr (8, [.ref h7, .int wp30406])), (h7, .inl (y 1, 200, .inr (.inl (vp_updL wf30407 ((0 : Int32).toNatClampNeg) 0))))] H := hP
  replace hD : va_D A [(h0, .inr (5, [.ref h1, .ref h2, .ref h3, .ref h4, .int 4])), (h1, .inr (8, [.ref h6, .int 4])), (h4, .inr (8, [.ref h10, .int wp30408])), (h10, .inl (y 1, 3, .inr (.inl (fun _ => 0)))), (h2, .inr (8, [.ref h7, .int wp30406])), (h7, .inl (y 1, 200, .inr (.inl (vp_updL wf30407 ((0 : Int32).toNatClampNeg) 0))))] := hD
  refine lv_iinc (v := 1) (lv' := [(1, .int 1), (0, .ref h0)]) hx hb dX5_findOut_33 hl (k := 0) rfl (by decide +kernel) (by decide) rfl ?_
  clear hl
  clear ls
  intro ls hl
  refine lv_goto (tgt := 13) hx hb dX5_findOut_36 (by decide) ?_
  refine lv_iload_n hx hb dX5_findOut_13 rfl (lv_at hl 0 rfl) ?_
  refine lv_aload_n hx hb dX5_findOut_14 rfl (lv_at hl 1 rfl) ?_
  refine gm_get (D := D) (ci := 5) (v := .ref h1) (C := RX5) (T := TX5) (N := 5) hx hb hg inlX5 hown hK.1 hP 0 rfl rfl 0 (by decide) tX5_0 (hg _ gw_138) rfl dX5_findOut_15 ?_
  refine gm_get (D := D) (ci := 8) (v := .int 4) (C := RX8) (T := TX8) (N := 2) hx hb hg inlX8 hown hK.1 hP 1 rfl rfl 1 (by decide) tX8_1 (hg _ gw_1441) rfl dX5_findOut_18 ?_
  refine lv_icmp_ge (tgt := 39) hx hb dX5_findOut_21 (by decide) (fun c9 => absurd c9 (by decide +kernel)) (fun _ => ?_)
  refine lv_aload_n hx hb dX5_findOut_24 rfl (lv_at hl 1 rfl) ?_
  refine gm_get (D := D) (ci := 5) (v := .ref h2) (C := RX5) (T := TX5) (N := 5) hx hb hg inlX5 hown hK.1 hP 0 rfl rfl 1 (by decide) tX5_1 (hg _ gw_139) rfl dX5_findOut_25 ?_
  refine lv_iload_n hx hb dX5_findOut_28 rfl (lv_at hl 0 rfl) ?_
  refine lv_lconst (v := 0) hx hb dX5_findOut_29 (by decide) ?_
  refine g_av (wr := [(h0, .inr (5, [.ref h1, .ref h2, .ref h3, .ref h4, .int 4])), (h1, .inr (8, [.ref h6, .int 4])), (h4, .inr (8, [.ref h10, .int wp30408])), (h10, .inl (y 1, 3, .inr (.inl (fun _ => 0))))]) (va_runV (As := [.int 1, .long 0]) (rest := []) ⟨hx, hb, hml, hown, hg⟩ (k_X8_set_46 l D y aS H.size h2 0 h7 wp30406 (vp_updL wf30407 ((0 : Int32).toNatClampNeg) 0)) (cwV 2 hg ggV_RX5_29_X8_set rfl rfl rfl (by decide +kernel) ⟨Nat.le_of_ble_eq_true rfl, Nat.le_of_ble_eq_true rfl⟩) (g_preV (q := (RX8, TX8, 2)) hK hP hD [4, 5] rfl (by decide) (ci := 8) (q0 := 4) rfl rfl) rfl rfl hl.1 rfl (lv_room (Nat.le_of_ble_eq_true rfl)) dX5_findOut_30 ⟨Nat.le_of_ble_eq_true rfl, Nat.le_of_ble_eq_true rfl⟩) hP hD hS hA [4, 5] [0, 1, 2, 3] rfl rfl (by decide) (by decide) ?_
  clear hP hD hS H locs
  refine fun u H locs hq hP hD hS => ?_
  replace hP : va_P D vwCl [(h0, .inr (5, [.ref h1, .ref h2, .ref h3, .ref h4, .int 4])), (h1, .inr (8, [.ref h6, .int 4])), (h4, .inr (8, [.ref h10, .int wp30408])), (h10, .inl (y 1, 3, .inr (.inl (fun _ => 0)))), (h2, .inr (8, [.ref h7, .int wp30406])), (h7, .inl (y 1, 200, .inr (.inl (vp_updL (vp_updL wf30407 ((0 : Int32).toNatClampNeg) 0) ((1 : Int32).toNatClampNeg) 0))))] H := hP
  replace hD : va_D A [(h0, .inr (5, [.ref h1, .ref h2, .ref h3, .ref h4, .int 4])), (h1, .inr (8, [.ref h6, .int 4])), (h4, .inr (8, [.ref h10, .int wp30408])), (h10, .inl (y 1, 3, .inr (.inl (fun _ => 0)))), (h2, .inr (8, [.ref h7, .int wp30406])), (h7, .inl (y 1, 200, .inr (.inl (vp_updL (vp_updL wf30407 ((0 : Int32).toNatClampNeg) 0) ((1 : Int32).toNatClampNeg) 0))))] := hD
  refine lv_iinc (v := 2) (lv' := [(1, .int 2), (0, .ref h0)]) hx hb dX5_findOut_33 hl (k := 0) rfl (by decide +kernel) (by decide) rfl ?_
  clear hl
  clear ls
  intro ls hl
  refine lv_goto (tgt := 13) hx hb dX5_findOut_36 (by decide) ?_
  refine lv_iload_n hx hb dX5_findOut_13 rfl (lv_at hl 0 rfl) ?_
  refine lv_aload_n hx hb dX5_findOut_14 rfl (lv_at hl 1 rfl) ?_
  refine gm_get (D := D) (ci := 5) (v := .ref h1) (C := RX5) (T := TX5) (N := 5) hx hb hg inlX5 hown hK.1 hP 0 rfl rfl 0 (by decide) tX5_0 (hg _ gw_138) rfl dX5_findOut_15 ?_
  refine gm_get (D := D) (ci := 8) (v := .int 4) (C := RX8) (T := TX8) (N := 2) hx hb hg inlX8 hown hK.1 hP 1 rfl rfl 1 (by decide) tX8_1 (hg _ gw_1441) rfl dX5_findOut_18 ?_
  refine lv_icmp_ge (tgt := 39) hx hb dX5_findOut_21 (by decide) (fun c9 => absurd c9 (by decide +kernel)) (fun _ => ?_)
  refine lv_aload_n hx hb dX5_findOut_24 rfl (lv_at hl 1 rfl) ?_
  refine gm_get (D := D) (ci := 5) (v := .ref h2) (C := RX5) (T := TX5) (N := 5) hx hb hg inlX5 hown hK.1 hP 0 rfl rfl 1 (by decide) tX5_1 (hg _ gw_139) rfl dX5_findOut_25 ?_
  refine lv_iload_n hx hb dX5_findOut_28 rfl (lv_at hl 0 rfl) ?_
  refine lv_lconst (v := 0) hx hb dX5_findOut_29 (by decide) ?_
  refine g_av (wr := [(h0, .inr (5, [.ref h1, .ref h2, .ref h3, .ref h4, .int 4])), (h1, .inr (8, [.ref h6, .int 4])), (h4, .inr (8, [.ref h10, .int wp30408])), (h10, .inl (y 1, 3, .inr (.inl (fun _ => 0))))]) (va_runV (As := [.int 2, .long 0]) (rest := []) ⟨hx, hb, hml, hown, hg⟩ (k_X8_set_47 l D y aS H.size h2 0 h7 wp30406 (vp_updL (vp_updL wf30407 ((0 : Int32).toNatClampNeg) 0) ((1 : Int32).toNatClampNeg) 0)) (cwV 2 hg ggV_RX5_29_X8_set rfl rfl rfl (by decide +kernel) ⟨Nat.le_of_ble_eq_true rfl, Nat.le_of_ble_eq_true rfl⟩) (g_preV (q := (RX8, TX8, 2)) hK hP hD [4, 5] rfl (by decide) (ci := 8) (q0 := 4) rfl rfl) rfl rfl hl.1 rfl (lv_room (Nat.le_of_ble_eq_true rfl)) dX5_findOut_30 ⟨Nat.le_of_ble_eq_true rfl, Nat.le_of_ble_eq_true rfl⟩) hP hD hS hA [4, 5] [0, 1, 2, 3] rfl rfl (by decide) (by decide) ?_
  clear hP hD hS H locs
  refine fun u H locs hq hP hD hS => ?_
  replace hP : va_P D vwCl [(h0, .inr (5, [.ref h1, .ref h2, .ref h3, .ref h4, .int 4])), (h1, .inr (8, [.ref h6, .int 4])), (h4, .inr (8, [.ref h10, .int wp30408])), (h10, .inl (y 1, 3, .inr (.inl (fun _ => 0)))), (h2, .inr (8, [.ref h7, .int wp30406])), (h7, .inl (y 1, 200, .inr (.inl (vp_updL (vp_updL (vp_updL wf30407 ((0 : Int32).toNatClampNeg) 0) ((1 : Int32).toNatClampNeg) 0) ((2 : Int32).toNatClampNeg) 0))))] H := hP
  replace hD : va_D A [(h0, .inr (5, [.ref h1, .ref h2, .ref h3, .ref h4, .int 4])), (h1, .inr (8, [.ref h6, .int 4])), (h4, .inr (8, [.ref h10, .int wp30408])), (h10, .inl (y 1, 3, .inr (.inl (fun _ => 0)))), (h2, .inr (8, [.ref h7, .int wp30406])), (h7, .inl (y 1, 200, .inr (.inl (vp_updL (vp_updL (vp_updL wf30407 ((0 : Int32).toNatClampNeg) 0) ((1 : Int32).toNatClampNeg) 0) ((2 : Int32).toNatClampNeg) 0))))] := hD
  refine lv_iinc (v := 3) (lv' := [(1, .int 3), (0, .ref h0)]) hx hb dX5_findOut_33 hl (k := 0) rfl (by decide +kernel) (by decide) rfl ?_
  clear hl
  clear ls
  intro ls hl
  refine lv_goto (tgt := 13) hx hb dX5_findOut_36 (by decide) ?_
  refine lv_iload_n hx hb dX5_findOut_13 rfl (lv_at hl 0 rfl) ?_
  refine lv_aload_n hx hb dX5_findOut_14 rfl (lv_at hl 1 rfl) ?_
  refine gm_get (D := D) (ci := 5) (v := .ref h1) (C := RX5) (T := TX5) (N := 5) hx hb hg inlX5 hown hK.1 hP 0 rfl rfl 0 (by decide) tX5_0 (hg _ gw_138) rfl dX5_findOut_15 ?_
  refine gm_get (D := D) (ci := 8) (v := .int 4) (C := RX8) (T := TX8) (N := 2) hx hb hg inlX8 hown hK.1 hP 1 rfl rfl 1 (by decide) tX8_1 (hg _ gw_1441) rfl dX5_findOut_18 ?_
  refine lv_icmp_ge (tgt := 39) hx hb dX5_findOut_21 (by decide) (fun c9 => absurd c9 (by decide +kernel)) (fun _ => ?_)
  refine lv_aload_n hx hb dX5_findOut_24 rfl (lv_at hl 1 rfl) ?_
  refine gm_get (D := D) (ci := 5) (v := .ref h2) (C := RX5) (T := TX5) (N := 5) hx hb hg inlX5 hown hK.1 hP 0 rfl rfl 1 (by decide) tX5_1 (hg _ gw_139) rfl dX5_findOut_25 ?_
  refine lv_iload_n hx hb dX5_findOut_28 rfl (lv_at hl 0 rfl) ?_
  refine lv_lconst (v := 0) hx hb dX5_findOut_29 (by decide) ?_
  refine g_av (wr := [(h0, .inr (5, [.ref h1, .ref h2, .ref h3, .ref h4, .int 4])), (h1, .inr (8, [.ref h6, .int 4])), (h4, .inr (8, [.ref h10, .int wp30408])), (h10, .inl (y 1, 3, .inr (.inl (fun _ => 0))))]) (va_runV (As := [.int 3, .long 0]) (rest := []) ⟨hx, hb, hml, hown, hg⟩ (k_X8_set_48 l D y aS H.size h2 0 h7 wp30406 (vp_updL (vp_updL (vp_updL wf30407 ((0 : Int32).toNatClampNeg) 0) ((1 : Int32).toNatClampNeg) 0) ((2 : Int32).toNatClampNeg) 0)) (cwV 2 hg ggV_RX5_29_X8_set rfl rfl rfl (by decide +kernel) ⟨Nat.le_of_ble_eq_true rfl, Nat.le_of_ble_eq_true rfl⟩) (g_preV (q := (RX8, TX8, 2)) hK hP hD [4, 5] rfl (by decide) (ci := 8) (q0 := 4) rfl rfl) rfl rfl hl.1 rfl (lv_room (Nat.le_of_ble_eq_true rfl)) dX5_findOut_30 ⟨Nat.le_of_ble_eq_true rfl, Nat.le_of_ble_eq_true rfl⟩) hP hD hS hA [4, 5] [0, 1, 2, 3] rfl rfl (by decide) (by decide) ?_
  clear hP hD hS H locs
  refine fun u H locs hq hP hD hS => ?_
  replace hP : va_P D vwCl [(h0, .inr (5, [.ref h1, .ref h2, .ref h3, .ref h4, .int 4])), (h1, .inr (8, [.ref h6, .int 4])), (h4, .inr (8, [.ref h10, .int wp30408])), (h10, .inl (y 1, 3, .inr (.inl (fun _ => 0)))), (h2, .inr (8, [.ref h7, .int wp30406])), (h7, .inl (y 1, 200, .inr (.inl (vp_updL (vp_updL (vp_updL (vp_updL wf30407 ((0 : Int32).toNatClampNeg) 0) ((1 : Int32).toNatClampNeg) 0) ((2 : Int32).toNatClampNeg) 0) ((3 : Int32).toNatClampNeg) 0))))] H := hP
  replace hD : va_D A [(h0, .inr (5, [.ref h1, .ref h2, .ref h3, .ref h4, .int 4])), (h1, .inr (8, [.ref h6, .int 4])), (h4, .inr (8, [.ref h10, .int wp30408])), (h10, .inl (y 1, 3, .inr (.inl (fun _ => 0)))), (h2, .inr (8, [.ref h7, .int wp30406])), (h7, .inl (y 1, 200, .inr (.inl (vp_updL (vp_updL (vp_updL (vp_updL wf30407 ((0 : Int32).toNatClampNeg) 0) ((1 : Int32).toNatClampNeg) 0) ((2 : Int32).toNatClampNeg) 0) ((3 : Int32).toNatClampNeg) 0))))] := hD
  refine lv_iinc (v := 4) (lv' := [(1, .int 4), (0, .ref h0)]) hx hb dX5_findOut_33 hl (k := 0) rfl (by decide +kernel) (by decide) rfl ?_
  clear hl
  clear ls
  intro ls hl
  refine lv_goto (tgt := 13) hx hb dX5_findOut_36 (by decide) ?_
  refine lv_iload_n hx hb dX5_findOut_13 rfl (lv_at hl 0 rfl) ?_
  refine lv_aload_n hx hb dX5_findOut_14 rfl (lv_at hl 1 rfl) ?_
  refine gm_get (D := D) (ci := 5) (v := .ref h1) (C := RX5) (T := TX5) (N := 5) hx hb hg inlX5 hown hK.1 hP 0 rfl rfl 0 (by decide) tX5_0 (hg _ gw_138) rfl dX5_findOut_15 ?_
  refine gm_get (D := D) (ci := 8) (v := .int 4) (C := RX8) (T := TX8) (N := 2) hx hb hg inlX8 hown hK.1 hP 1 rfl rfl 1 (by decide) tX8_1 (hg _ gw_1441) rfl dX5_findOut_18 ?_
  refine lv_icmp_ge (tgt := 39) hx hb dX5_findOut_21 (by decide) (fun _ => ?_) (fun c9 => absurd c9 (by decide +kernel))
  refine lv_iconst (v := 0) hx hb dX5_findOut_39 (by decide) ?_
  refine lv_istore_n (lv' := [(1, .int 0), (0, .ref h0)]) hx hb dX5_findOut_40 rfl hl (by decide) rfl ?_
  clear hl
  clear ls
  intro ls hl
  refine lv_iload_n hx hb dX5_findOut_41 rfl (lv_at hl 0 rfl) ?_
  refine lv_aload_n hx hb dX5_findOut_42 rfl (lv_at hl 1 rfl) ?_
  refine gm_get (D := D) (ci := 5) (v := .ref h1) (C := RX5) (T := TX5) (N := 5) hx hb hg inlX5 hown hK.1 hP 0 rfl rfl 0 (by decide) tX5_0 (hg _ gw_138) rfl dX5_findOut_43 ?_
  refine gm_get (D := D) (ci := 8) (v := .int 4) (C := RX8) (T := TX8) (N := 2) hx hb hg inlX8 hown hK.1 hP 1 rfl rfl 1 (by decide) tX8_1 (hg _ gw_1441) rfl dX5_findOut_46 ?_
  refine lv_icmp_ge (tgt := 77) hx hb dX5_findOut_49 (by decide) (fun c9 => absurd c9 (by decide +kernel)) (fun _ => ?_)
  refine lv_iconst (v := 0) hx hb dX5_findOut_52 (by decide) ?_
  refine lv_istore_n (lv' := [(2, .int 0), (1, .int 0), (0, .ref h0)]) hx hb dX5_findOut_53 rfl hl (by decide) rfl ?_
  clear hl
  clear ls
  intro ls hl
  refine lv_iload_n hx hb dX5_findOut_54 rfl (lv_at hl 0 rfl) ?_
  refine lv_iconst (v := 3) hx hb dX5_findOut_55 (by decide) ?_
  refine lv_icmp_ge (tgt := 71) hx hb dX5_findOut_56 (by decide) (fun c9 => absurd c9 (by decide +kernel)) (fun _ => ?_)
  refine lv_aload_n hx hb dX5_findOut_59 rfl (lv_at hl 2 rfl) ?_
  refine lv_iload_n hx hb dX5_findOut_60 rfl (lv_at hl 0 rfl) ?_
  refine lv_iload_n hx hb dX5_findOut_61 rfl (lv_at hl 1 rfl) ?_
  refine g_av (wr := [(h1, .inr (8, [.ref h6, .int 4])), (h2, .inr (8, [.ref h7, .int wp30406])), (h7, .inl (y 1, 200, .inr (.inl (vp_updL (vp_updL (vp_updL (vp_updL wf30407 ((0 : Int32).toNatClampNeg) 0) ((1 : Int32).toNatClampNeg) 0) ((2 : Int32).toNatClampNeg) 0) ((3 : Int32).toNatClampNeg) 0))))]) (va_runV (As := [.int 0, .int 0]) (rest := []) ⟨hx, hb, hml, hown, hg⟩ (k_X5_find_0 l D y aS H.size h0 h1 h2 h3 h4 4 h10 wp30408) (cwV 2 hg ggV_RX5_54_X5_find rfl rfl rfl (by decide +kernel) ⟨Nat.le_of_ble_eq_true rfl, Nat.le_of_ble_eq_true rfl⟩) (g_preV (q := (RX5, TX5, 5)) hK hP hD [0, 2, 3] rfl (by decide) (ci := 5) (q0 := 0) rfl rfl) rfl rfl hl.1 rfl (lv_room (Nat.le_of_ble_eq_true rfl)) dX5_findOut_62 ⟨Nat.le_of_ble_eq_true rfl, Nat.le_of_ble_eq_true rfl⟩) hP hD hS hA [0, 2, 3] [1, 4, 5] rfl rfl (by decide) (by decide) ?_
  clear hP hD hS H locs
  refine fun u H locs hq hP hD hS => ?_
  replace hP : va_P D vwCl [(h1, .inr (8, [.ref h6, .int 4])), (h2, .inr (8, [.ref h7, .int wp30406])), (h7, .inl (y 1, 200, .inr (.inl (vp_updL (vp_updL (vp_updL (vp_updL wf30407 ((0 : Int32).toNatClampNeg) 0) ((1 : Int32).toNatClampNeg) 0) ((2 : Int32).toNatClampNeg) 0) ((3 : Int32).toNatClampNeg) 0)))), (h0, .inr (5, [.ref h1, .ref h2, .ref h3, .ref h4, .int 4])), (h4, .inr (8, [.ref h10, .int wp30408])), (h10, .inl (y 1, 3, .inr (.inl (fun _ => 0))))] H := hP
  replace hD : va_D A [(h1, .inr (8, [.ref h6, .int 4])), (h2, .inr (8, [.ref h7, .int wp30406])), (h7, .inl (y 1, 200, .inr (.inl (vp_updL (vp_updL (vp_updL (vp_updL wf30407 ((0 : Int32).toNatClampNeg) 0) ((1 : Int32).toNatClampNeg) 0) ((2 : Int32).toNatClampNeg) 0) ((3 : Int32).toNatClampNeg) 0)))), (h0, .inr (5, [.ref h1, .ref h2, .ref h3, .ref h4, .int 4])), (h4, .inr (8, [.ref h10, .int wp30408])), (h10, .inl (y 1, 3, .inr (.inl (fun _ => 0))))] := hD
  refine lv_iinc (v := 1) (lv' := [(2, .int 1), (1, .int 0), (0, .ref h0)]) hx hb dX5_findOut_65 hl (k := 0) rfl (by decide +kernel) (by decide) rfl ?_
  clear hl
  clear ls
  intro ls hl
  refine lv_goto (tgt := 54) hx hb dX5_findOut_68 (by decide) ?_
  refine lv_iload_n hx hb dX5_findOut_54 rfl (lv_at hl 0 rfl) ?_
  refine lv_iconst (v := 3) hx hb dX5_findOut_55 (by decide) ?_
  refine lv_icmp_ge (tgt := 71) hx hb dX5_findOut_56 (by decide) (fun c9 => absurd c9 (by decide +kernel)) (fun _ => ?_)
  refine lv_aload_n hx hb dX5_findOut_59 rfl (lv_at hl 2 rfl) ?_
  refine lv_iload_n hx hb dX5_findOut_60 rfl (lv_at hl 0 rfl) ?_
  refine lv_iload_n hx hb dX5_findOut_61 rfl (lv_at hl 1 rfl) ?_
  refine g_av (wr := [(h1, .inr (8, [.ref h6, .int 4])), (h2, .inr (8, [.ref h7, .int wp30406])), (h7, .inl (y 1, 200, .inr (.inl (vp_updL (vp_updL (vp_updL (vp_updL wf30407 ((0 : Int32).toNatClampNeg) 0) ((1 : Int32).toNatClampNeg) 0) ((2 : Int32).toNatClampNeg) 0) ((3 : Int32).toNatClampNeg) 0))))]) (va_runV (As := [.int 1, .int 0]) (rest := []) ⟨hx, hb, hml, hown, hg⟩ (k_X5_find_1 l D y aS H.size h0 h1 h2 h3 h4 4 h10 wp30408) (cwV 2 hg ggV_RX5_54_X5_find rfl rfl rfl (by decide +kernel) ⟨Nat.le_of_ble_eq_true rfl, Nat.le_of_ble_eq_true rfl⟩) (g_preV (q := (RX5, TX5, 5)) hK hP hD [3, 4, 5] rfl (by decide) (ci := 5) (q0 := 3) rfl rfl) rfl rfl hl.1 rfl (lv_room (Nat.le_of_ble_eq_true rfl)) dX5_findOut_62 ⟨Nat.le_of_ble_eq_true rfl, Nat.le_of_ble_eq_true rfl⟩) hP hD hS hA [3, 4, 5] [0, 1, 2] rfl rfl (by decide) (by decide) ?_
  clear hP hD hS H locs
  refine fun u H locs hq hP hD hS => ?_
  replace hP : va_P D vwCl [(h1, .inr (8, [.ref h6, .int 4])), (h2, .inr (8, [.ref h7, .int wp30406])), (h7, .inl (y 1, 200, .inr (.inl (vp_updL (vp_updL (vp_updL (vp_updL wf30407 ((0 : Int32).toNatClampNeg) 0) ((1 : Int32).toNatClampNeg) 0) ((2 : Int32).toNatClampNeg) 0) ((3 : Int32).toNatClampNeg) 0)))), (h0, .inr (5, [.ref h1, .ref h2, .ref h3, .ref h4, .int 4])), (h4, .inr (8, [.ref h10, .int wp30408])), (h10, .inl (y 1, 3, .inr (.inl (fun _ => 0))))] H := hP
  replace hD : va_D A [(h1, .inr (8, [.ref h6, .int 4])), (h2, .inr (8, [.ref h7, .int wp30406])), (h7, .inl (y 1, 200, .inr (.inl (vp_updL (vp_updL (vp_updL (vp_updL wf30407 ((0 : Int32).toNatClampNeg) 0) ((1 : Int32).toNatClampNeg) 0) ((2 : Int32).toNatClampNeg) 0) ((3 : Int32).toNatClampNeg) 0)))), (h0, .inr (5, [.ref h1, .ref h2, .ref h3, .ref h4, .int 4])), (h4, .inr (8, [.ref h10, .int wp30408])), (h10, .inl (y 1, 3, .inr (.inl (fun _ => 0))))] := hD
  refine lv_iinc (v := 2) (lv' := [(2, .int 2), (1, .int 0), (0, .ref h0)]) hx hb dX5_findOut_65 hl (k := 0) rfl (by decide +kernel) (by decide) rfl ?_
  clear hl
  clear ls
  intro ls hl
  refine lv_goto (tgt := 54) hx hb dX5_findOut_68 (by decide) ?_
  refine lv_iload_n hx hb dX5_findOut_54 rfl (lv_at hl 0 rfl) ?_
  refine lv_iconst (v := 3) hx hb dX5_findOut_55 (by decide) ?_
  refine lv_icmp_ge (tgt := 71) hx hb dX5_findOut_56 (by decide) (fun c9 => absurd c9 (by decide +kernel)) (fun _ => ?_)
  refine lv_aload_n hx hb dX5_findOut_59 rfl (lv_at hl 2 rfl) ?_
  refine lv_iload_n hx hb dX5_findOut_60 rfl (lv_at hl 0 rfl) ?_
  refine lv_iload_n hx hb dX5_findOut_61 rfl (lv_at hl 1 rfl) ?_
  refine g_av (wr := [(h1, .inr (8, [.ref h6, .int 4])), (h2, .inr (8, [.ref h7, .int wp30406])), (h7, .inl (y 1, 200, .inr (.inl (vp_updL (vp_updL (vp_updL (vp_updL wf30407 ((0 : Int32).toNatClampNeg) 0) ((1 : Int32).toNatClampNeg) 0) ((2 : Int32).toNatClampNeg) 0) ((3 : Int32).toNatClampNeg) 0))))]) (va_runV (As := [.int 2, .int 0]) (rest := []) ⟨hx, hb, hml, hown, hg⟩ (k_X5_find_2 l D y aS H.size h0 h1 h2 h3 h4 4 h10 wp30408) (cwV 2 hg ggV_RX5_54_X5_find rfl rfl rfl (by decide +kernel) ⟨Nat.le_of_ble_eq_true rfl, Nat.le_of_ble_eq_true rfl⟩) (g_preV (q := (RX5, TX5, 5)) hK hP hD [3, 4, 5] rfl (by decide) (ci := 5) (q0 := 3) rfl rfl) rfl rfl hl.1 rfl (lv_room (Nat.le_of_ble_eq_true rfl)) dX5_findOut_62 ⟨Nat.le_of_ble_eq_true rfl, Nat.le_of_ble_eq_true rfl⟩) hP hD hS hA [3, 4, 5] [0, 1, 2] rfl rfl (by decide) (by decide) ?_
  clear hP hD hS H locs
  refine fun u H locs hq hP hD hS => ?_
  replace hP : va_P D vwCl [(h1, .inr (8, [.ref h6, .int 4])), (h2, .inr (8, [.ref h7, .int wp30406])), (h7, .inl (y 1, 200, .inr (.inl (vp_updL (vp_updL (vp_updL (vp_updL wf30407 ((0 : Int32).toNatClampNeg) 0) ((1 : Int32).toNatClampNeg) 0) ((2 : Int32).toNatClampNeg) 0) ((3 : Int32).toNatClampNeg) 0)))), (h0, .inr (5, [.ref h1, .ref h2, .ref h3, .ref h4, .int 4])), (h4, .inr (8, [.ref h10, .int wp30408])), (h10, .inl (y 1, 3, .inr (.inl (fun _ => 0))))] H := hP
  replace hD : va_D A [(h1, .inr (8, [.ref h6, .int 4])), (h2, .inr (8, [.ref h7, .int wp30406])), (h7, .inl (y 1, 200, .inr (.inl (vp_updL (vp_updL (vp_updL (vp_updL wf30407 ((0 : Int32).toNatClampNeg) 0) ((1 : Int32).toNatClampNeg) 0) ((2 : Int32).toNatClampNeg) 0) ((3 : Int32).toNatClampNeg) 0)))), (h0, .inr (5, [.ref h1, .ref h2, .ref h3, .ref h4, .int 4])), (h4, .inr (8, [.ref h10, .int wp30408])), (h10, .inl (y 1, 3, .inr (.inl (fun _ => 0))))] := hD
  refine lv_iinc (v := 3) (lv' := [(2, .int 3), (1, .int 0), (0, .ref h0)]) hx hb dX5_findOut_65 hl (k := 0) rfl (by decide +kernel) (by decide) rfl ?_
  clear hl
  clear ls
  intro ls hl
  refine lv_goto (tgt := 54) hx hb dX5_findOut_68 (by decide) ?_
  refine lv_iload_n hx hb dX5_findOut_54 rfl (lv_at hl 0 rfl) ?_
  refine lv_iconst (v := 3) hx hb dX5_findOut_55 (by decide) ?_
  refine lv_icmp_ge (tgt := 71) hx hb dX5_findOut_56 (by decide) (fun _ => ?_) (fun c9 => absurd c9 (by decide +kernel))
  refine lv_iinc (v := 1) (lv' := [(1, .int 1), (2, .int 3), (0, .ref h0)]) hx hb dX5_findOut_71 hl (k := 1) rfl (by decide +kernel) (by decide) rfl ?_
  clear hl
  clear ls
  intro ls hl
  refine lv_goto (tgt := 41) hx hb dX5_findOut_74 (by decide) ?_
  refine lv_iload_n hx hb dX5_findOut_41 rfl (lv_at hl 0 rfl) ?_
  refine lv_aload_n hx hb dX5_findOut_42 rfl (lv_at hl 2 rfl) ?_
  refine gm_get (D := D) (ci := 5) (v := .ref h1) (C := RX5) (T := TX5) (N := 5) hx hb hg inlX5 hown hK.1 hP 3 rfl rfl 0 (by decide) tX5_0 (hg _ gw_138) rfl dX5_findOut_43 ?_
  refine gm_get (D := D) (ci := 8) (v := .int 4) (C := RX8) (T := TX8) (N := 2) hx hb hg inlX8 hown hK.1 hP 0 rfl rfl 1 (by decide) tX8_1 (hg _ gw_1441) rfl dX5_findOut_46 ?_
  refine lv_icmp_ge (tgt := 77) hx hb dX5_findOut_49 (by decide) (fun c9 => absurd c9 (by decide +kernel)) (fun _ => ?_)
  refine lv_iconst (v := 0) hx hb dX5_findOut_52 (by decide) ?_
  refine lv_istore_n (lv' := [(2, .int 0), (1, .int 1), (0, .ref h0)]) hx hb dX5_findOut_53 rfl hl (by decide) rfl ?_
  clear hl
  clear ls
  intro ls hl
  refine lv_iload_n hx hb dX5_findOut_54 rfl (lv_at hl 0 rfl) ?_
  refine lv_iconst (v := 3) hx hb dX5_findOut_55 (by decide) ?_
  refine lv_icmp_ge (tgt := 71) hx hb dX5_findOut_56 (by decide) (fun c9 => absurd c9 (by decide +kernel)) (fun _ => ?_)
  refine lv_aload_n hx hb dX5_findOut_59 rfl (lv_at hl 2 rfl) ?_
  refine lv_iload_n hx hb dX5_findOut_60 rfl (lv_at hl 0 rfl) ?_
  refine lv_iload_n hx hb dX5_findOut_61 rfl (lv_at hl 1 rfl) ?_
  refine g_av (wr := [(h1, .inr (8, [.ref h6, .int 4])), (h2, .inr (8, [.ref h7, .int wp30406])), (h7, .inl (y 1, 200, .inr (.inl (vp_updL (vp_updL (vp_updL (vp_updL wf30407 ((0 : Int32).toNatClampNeg) 0) ((1 : Int32).toNatClampNeg) 0) ((2 : Int32).toNatClampNeg) 0) ((3 : Int32).toNatClampNeg) 0))))]) (va_runV (As := [.int 0, .int 1]) (rest := []) ⟨hx, hb, hml, hown, hg⟩ (k_X5_find_3 l D y aS H.size h0 h1 h2 h3 h4 4 h10 wp30408) (cwV 2 hg ggV_RX5_54_X5_find rfl rfl rfl (by decide +kernel) ⟨Nat.le_of_ble_eq_true rfl, Nat.le_of_ble_eq_true rfl⟩) (g_preV (q := (RX5, TX5, 5)) hK hP hD [3, 4, 5] rfl (by decide) (ci := 5) (q0 := 3) rfl rfl) rfl rfl hl.1 rfl (lv_room (Nat.le_of_ble_eq_true rfl)) dX5_findOut_62 ⟨Nat.le_of_ble_eq_true rfl, Nat.le_of_ble_eq_true rfl⟩) hP hD hS hA [3, 4, 5] [0, 1, 2] rfl rfl (by decide) (by decide) ?_
  clear hP hD hS H locs
  refine fun u H locs hq hP hD hS => ?_
  replace hP : va_P D vwCl [(h1, .inr (8, [.ref h6, .int 4])), (h2, .inr (8, [.ref h7, .int wp30406])), (h7, .inl (y 1, 200, .inr (.inl (vp_updL (vp_updL (vp_updL (vp_updL wf30407 ((0 : Int32).toNatClampNeg) 0) ((1 : Int32).toNatClampNeg) 0) ((2 : Int32).toNatClampNeg) 0) ((3 : Int32).toNatClampNeg) 0)))), (h0, .inr (5, [.ref h1, .ref h2, .ref h3, .ref h4, .int 4])), (h4, .inr (8, [.ref h10, .int wp30408])), (h10, .inl (y 1, 3, .inr (.inl (fun _ => 0))))] H := hP
  replace hD : va_D A [(h1, .inr (8, [.ref h6, .int 4])), (h2, .inr (8, [.ref h7, .int wp30406])), (h7, .inl (y 1, 200, .inr (.inl (vp_updL (vp_updL (vp_updL (vp_updL wf30407 ((0 : Int32).toNatClampNeg) 0) ((1 : Int32).toNatClampNeg) 0) ((2 : Int32).toNatClampNeg) 0) ((3 : Int32).toNatClampNeg) 0)))), (h0, .inr (5, [.ref h1, .ref h2, .ref h3, .ref h4, .int 4])), (h4, .inr (8, [.ref h10, .int wp30408])), (h10, .inl (y 1, 3, .inr (.inl (fun _ => 0))))] := hD
  refine lv_iinc (v := 1) (lv' := [(2, .int 1), (1, .int 1), (0, .ref h0)]) hx hb dX5_findOut_65 hl (k := 0) rfl (by decide +kernel) (by decide) rfl ?_
  clear hl
  clear ls
  intro ls hl
  refine lv_goto (tgt := 54) hx hb dX5_findOut_68 (by decide) ?_
  refine lv_iload_n hx hb dX5_findOut_54 rfl (lv_at hl 0 rfl) ?_
  refine lv_iconst (v := 3) hx hb dX5_findOut_55 (by decide) ?_
  refine lv_icmp_ge (tgt := 71) hx hb dX5_findOut_56 (by decide) (fun c9 => absurd c9 (by decide +kernel)) (fun _ => ?_)
  refine lv_aload_n hx hb dX5_findOut_59 rfl (lv_at hl 2 rfl) ?_
  refine lv_iload_n hx hb dX5_findOut_60 rfl (lv_at hl 0 rfl) ?_
  refine lv_iload_n hx hb dX5_findOut_61 rfl (lv_at hl 1 rfl) ?_
  refine g_av (wr := [(h1, .inr (8, [.ref h6, .int 4])), (h2, .inr (8, [.ref h7, .int wp30406])), (h7, .inl (y 1, 200, .inr (.inl (vp_updL (vp_updL (vp_updL (vp_updL wf30407 ((0 : Int32).toNatClampNeg) 0) ((1 : Int32).toNatClampNeg) 0) ((2 : Int32).toNatClampNeg) 0) ((3 : Int32).toNatClampNeg) 0))))]) (va_runV (As := [.int 1, .int 1]) (rest := []) ⟨hx, hb, hml, hown, hg⟩ (k_X5_find_4 l D y aS H.size h0 h1 h2 h3 h4 4 h10 wp30408) (cwV 2 hg ggV_RX5_54_X5_find rfl rfl rfl (by decide +kernel) ⟨Nat.le_of_ble_eq_true rfl, Nat.le_of_ble_eq_true rfl⟩) (g_preV (q := (RX5, TX5, 5)) hK hP hD [3, 4, 5] rfl (by decide) (ci := 5) (q0 := 3) rfl rfl) rfl rfl hl.1 rfl (lv_room (Nat.le_of_ble_eq_true rfl)) dX5_findOut_62 ⟨Nat.le_of_ble_eq_true rfl, Nat.le_of_ble_eq_true rfl⟩) hP hD hS hA [3, 4, 5] [0, 1, 2] rfl rfl (by decide) (by decide) ?_
  clear hP hD hS H locs
  refine fun u H locs hq hP hD hS => ?_
  replace hP : va_P D vwCl [(h1, .inr (8, [.ref h6, .int 4])), (h2, .inr (8, [.ref h7, .int wp30406])), (h7, .inl (y 1, 200, .inr (.inl (vp_updL (vp_updL (vp_updL (vp_updL wf30407 ((0 : Int32).toNatClampNeg) 0) ((1 : Int32).toNatClampNeg) 0) ((2 : Int32).toNatClampNeg) 0) ((3 : Int32).toNatClampNeg) 0)))), (h0, .inr (5, [.ref h1, .ref h2, .ref h3, .ref h4, .int 4])), (h4, .inr (8, [.ref h10, .int wp30408])), (h10, .inl (y 1, 3, .inr (.inl (fun _ => 0))))] H := hP
  replace hD : va_D A [(h1, .inr (8, [.ref h6, .int 4])), (h2, .inr (8, [.ref h7, .int wp30406])), (h7, .inl (y 1, 200, .inr (.inl (vp_updL (vp_updL (vp_updL (vp_updL wf30407 ((0 : Int32).toNatClampNeg) 0) ((1 : Int32).toNatClampNeg) 0) ((2 : Int32).toNatClampNeg) 0) ((3 : Int32).toNatClampNeg) 0)))), (h0, .inr (5, [.ref h1, .ref h2, .ref h3, .ref h4, .int 4])), (h4, .inr (8, [.ref h10, .int wp30408])), (h10, .inl (y 1, 3, .inr (.inl (fun _ => 0))))] := hD
  refine lv_iinc (v := 2) (lv' := [(2, .int 2), (1, .int 1), (0, .ref h0)]) hx hb dX5_findOut_65 hl (k := 0) rfl (by decide +kernel) (by decide) rfl ?_
  clear hl
  clear ls
  intro ls hl
  refine lv_goto (tgt := 54) hx hb dX5_findOut_68 (by decide) ?_
  refine lv_iload_n hx hb dX5_findOut_54 rfl (lv_at hl 0 rfl) ?_
  refine lv_iconst (v := 3) hx hb dX5_findOut_55 (by decide) ?_
  refine lv_icmp_ge (tgt := 71) hx hb dX5_findOut_56 (by decide) (fun c9 => absurd c9 (by decide +kernel)) (fun _ => ?_)
  refine lv_aload_n hx hb dX5_findOut_59 rfl (lv_at hl 2 rfl) ?_
  refine lv_iload_n hx hb dX5_findOut_60 rfl (lv_at hl 0 rfl) ?_
  refine lv_iload_n hx hb dX5_findOut_61 rfl (lv_at hl 1 rfl) ?_
  refine g_av (wr := [(h1, .inr (8, [.ref h6, .int 4])), (h2, .inr (8, [.ref h7, .int wp30406])), (h7, .inl (y 1, 200, .inr (.inl (vp_updL (vp_updL (vp_updL (vp_updL wf30407 ((0 : Int32).toNatClampNeg) 0) ((1 : Int32).toNatClampNeg) 0) ((2 : Int32).toNatClampNeg) 0) ((3 : Int32).toNatClampNeg) 0))))]) (va_runV (As := [.int 2, .int 1]) (rest := []) ⟨hx, hb, hml, hown, hg⟩ (k_X5_find_5 l D y aS H.size h0 h1 h2 h3 h4 4 h10 wp30408) (cwV 2 hg ggV_RX5_54_X5_find rfl rfl rfl (by decide +kernel) ⟨Nat.le_of_ble_eq_true rfl, Nat.le_of_ble_eq_true rfl⟩) (g_preV (q := (RX5, TX5, 5)) hK hP hD [3, 4, 5] rfl (by decide) (ci := 5) (q0 := 3) rfl rfl) rfl rfl hl.1 rfl (lv_room (Nat.le_of_ble_eq_true rfl)) dX5_findOut_62 ⟨Nat.le_of_ble_eq_true rfl, Nat.le_of_ble_eq_true rfl⟩) hP hD hS hA [3, 4, 5] [0, 1, 2] rfl rfl (by decide) (by decide) ?_
  clear hP hD hS H locs
  refine fun u H locs hq hP hD hS => ?_
  replace hP : va_P D vwCl [(h1, .inr (8, [.ref h6, .int 4])), (h2, .inr (8, [.ref h7, .int wp30406])), (h7, .inl (y 1, 200, .inr (.inl (vp_updL (vp_updL (vp_updL (vp_updL wf30407 ((0 : Int32).toNatClampNeg) 0) ((1 : Int32).toNatClampNeg) 0) ((2 : Int32).toNatClampNeg) 0) ((3 : Int32).toNatClampNeg) 0)))), (h0, .inr (5, [.ref h1, .ref h2, .ref h3, .ref h4, .int 4])), (h4, .inr (8, [.ref h10, .int wp30408])), (h10, .inl (y 1, 3, .inr (.inl (fun _ => 0))))] H := hP
  replace hD : va_D A [(h1, .inr (8, [.ref h6, .int 4])), (h2, .inr (8, [.ref h7, .int wp30406])), (h7, .inl (y 1, 200, .inr (.inl (vp_updL (vp_updL (vp_updL (vp_updL wf30407 ((0 : Int32).toNatClampNeg) 0) ((1 : Int32).toNatClampNeg) 0) ((2 : Int32).toNatClampNeg) 0) ((3 : Int32).toNatClampNeg) 0)))), (h0, .inr (5, [.ref h1, .ref h2, .ref h3, .ref h4, .int 4])), (h4, .inr (8, [.ref h10, .int wp30408])), (h10, .inl (y 1, 3, .inr (.inl (fun _ => 0))))] := hD
  refine lv_iinc (v := 3) (lv' := [(2, .int 3), (1, .int 1), (0, .ref h0)]) hx hb dX5_findOut_65 hl (k := 0) rfl (by decide +kernel) (by decide) rfl ?_
  clear hl
  clear ls
  intro ls hl
  refine lv_goto (tgt := 54) hx hb dX5_findOut_68 (by decide) ?_
  refine lv_iload_n hx hb dX5_findOut_54 rfl (lv_at hl 0 rfl) ?_
  refine lv_iconst (v := 3) hx hb dX5_findOut_55 (by decide) ?_
  refine lv_icmp_ge (tgt := 71) hx hb dX5_findOut_56 (by decide) (fun _ => ?_) (fun c9 => absurd c9 (by decide +kernel))
  refine lv_iinc (v := 2) (lv' := [(1, .int 2), (2, .int 3), (0, .ref h0)]) hx hb dX5_findOut_71 hl (k := 1) rfl (by decide +kernel) (by decide) rfl ?_
  clear hl
  clear ls
  intro ls hl
  refine lv_goto (tgt := 41) hx hb dX5_findOut_74 (by decide) ?_
  refine lv_iload_n hx hb dX5_findOut_41 rfl (lv_at hl 0 rfl) ?_
  refine lv_aload_n hx hb dX5_findOut_42 rfl (lv_at hl 2 rfl) ?_
  refine gm_get (D := D) (ci := 5) (v := .ref h1) (C := RX5) (T := TX5) (N := 5) hx hb hg inlX5 hown hK.1 hP 3 rfl rfl 0 (by decide) tX5_0 (hg _ gw_138) rfl dX5_findOut_43 ?_
  refine gm_get (D := D) (ci := 8) (v := .int 4) (C := RX8) (T := TX8) (N := 2) hx hb hg inlX8 hown hK.1 hP 0 rfl rfl 1 (by decide) tX8_1 (hg _ gw_1441) rfl dX5_findOut_46 ?_
  refine lv_icmp_ge (tgt := 77) hx hb dX5_findOut_49 (by decide) (fun c9 => absurd c9 (by decide +kernel)) (fun _ => ?_)
  refine lv_iconst (v := 0) hx hb dX5_findOut_52 (by decide) ?_
  refine lv_istore_n (lv' := [(2, .int 0), (1, .int 2), (0, .ref h0)]) hx hb dX5_findOut_53 rfl hl (by decide) rfl ?_
  clear hl
  clear ls
  intro ls hl
  refine lv_iload_n hx hb dX5_findOut_54 rfl (lv_at hl 0 rfl) ?_
  refine lv_iconst (v := 3) hx hb dX5_findOut_55 (by decide) ?_
  refine lv_icmp_ge (tgt := 71) hx hb dX5_findOut_56 (by decide) (fun c9 => absurd c9 (by decide +kernel)) (fun _ => ?_)
  refine lv_aload_n hx hb dX5_findOut_59 rfl (lv_at hl 2 rfl) ?_
  refine lv_iload_n hx hb dX5_findOut_60 rfl (lv_at hl 0 rfl) ?_
  refine lv_iload_n hx hb dX5_findOut_61 rfl (lv_at hl 1 rfl) ?_
  refine g_av (wr := [(h1, .inr (8, [.ref h6, .int 4])), (h2, .inr (8, [.ref h7, .int wp30406])), (h7, .inl (y 1, 200, .inr (.inl (vp_updL (vp_updL (vp_updL (vp_updL wf30407 ((0 : Int32).toNatClampNeg) 0) ((1 : Int32).toNatClampNeg) 0) ((2 : Int32).toNatClampNeg) 0) ((3 : Int32).toNatClampNeg) 0))))]) (va_runV (As := [.int 0, .int 2]) (rest := []) ⟨hx, hb, hml, hown, hg⟩ (k_X5_find_6 l D y aS H.size h0 h1 h2 h3 h4 4 h10 wp30408) (cwV 2 hg ggV_RX5_54_X5_find rfl rfl rfl (by decide +kernel) ⟨Nat.le_of_ble_eq_true rfl, Nat.le_of_ble_eq_true rfl⟩) (g_preV (q := (RX5, TX5, 5)) hK hP hD [3, 4, 5] rfl (by decide) (ci := 5) (q0 := 3) rfl rfl) rfl rfl hl.1 rfl (lv_room (Nat.le_of_ble_eq_true rfl)) dX5_findOut_62 ⟨Nat.le_of_ble_eq_true rfl, Nat.le_of_ble_eq_true rfl⟩) hP hD hS hA [3, 4, 5] [0, 1, 2] rfl rfl (by decide) (by decide) ?_
  clear hP hD hS H locs
  refine fun u H locs hq hP hD hS => ?_
  replace hP : va_P D vwCl [(h1, .inr (8, [.ref h6, .int 4])), (h2, .inr (8, [.ref h7, .int wp30406])), (h7, .inl (y 1, 200, .inr (.inl (vp_updL (vp_updL (vp_updL (vp_updL wf30407 ((0 : Int32).toNatClampNeg) 0) ((1 : Int32).toNatClampNeg) 0) ((2 : Int32).toNatClampNeg) 0) ((3 : Int32).toNatClampNeg) 0)))), (h0, .inr (5, [.ref h1, .ref h2, .ref h3, .ref h4, .int 4])), (h4, .inr (8, [.ref h10, .int wp30408])), (h10, .inl (y 1, 3, .inr (.inl (fun _ => 0))))] H := hP
  replace hD : va_D A [(h1, .inr (8, [.ref h6, .int 4])), (h2, .inr (8, [.ref h7, .int wp30406])), (h7, .inl (y 1, 200, .inr (.inl (vp_updL (vp_updL (vp_updL (vp_updL wf30407 ((0 : Int32).toNatClampNeg) 0) ((1 : Int32).toNatClampNeg) 0) ((2 : Int32).toNatClampNeg) 0) ((3 : Int32).toNatClampNeg) 0)))), (h0, .inr (5, [.ref h1, .ref h2, .ref h3, .ref h4, .int 4])), (h4, .inr (8, [.ref h10, .int wp30408])), (h10, .inl (y 1, 3, .inr (.inl (fun _ => 0))))] := hD
  refine lv_iinc (v := 1) (lv' := [(2, .int 1), (1, .int 2), (0, .ref h0)]) hx hb dX5_findOut_65 hl (k := 0) rfl (by decide +kernel) (by decide) rfl ?_
  clear hl
  clear ls
  intro ls hl
  refine lv_goto (tgt := 54) hx hb dX5_findOut_68 (by decide) ?_
  refine lv_iload_n hx hb dX5_findOut_54 rfl (lv_at hl 0 rfl) ?_
  refine lv_iconst (v := 3) hx hb dX5_findOut_55 (by decide) ?_
  refine lv_icmp_ge (tgt := 71) hx hb dX5_findOut_56 (by decide) (fun c9 => absurd c9 (by decide +kernel)) (fun _ => ?_)
  refine lv_aload_n hx hb dX5_findOut_59 rfl (lv_at hl 2 rfl) ?_
  refine lv_iload_n hx hb dX5_findOut_60 rfl (lv_at hl 0 rfl) ?_
  refine lv_iload_n hx hb dX5_findOut_61 rfl (lv_at hl 1 rfl) ?_
  refine g_av (wr := [(h1, .inr (8, [.ref h6, .int 4])), (h2, .inr (8, [.ref h7, .int wp30406])), (h7, .inl (y 1, 200, .inr (.inl (vp_updL (vp_updL (vp_updL (vp_updL wf30407 ((0 : Int32).toNatClampNeg) 0) ((1 : Int32).toNatClampNeg) 0) ((2 : Int32).toNatClampNeg) 0) ((3 : Int32).toNatClampNeg) 0))))]) (va_runV (As := [.int 1, .int 2]) (rest := []) ⟨hx, hb, hml, hown, hg⟩ (k_X5_find_7 l D y aS H.size h0 h1 h2 h3 h4 4 h10 wp30408) (cwV 2 hg ggV_RX5_54_X5_find rfl rfl rfl (by decide +kernel) ⟨Nat.le_of_ble_eq_true rfl, Nat.le_of_ble_eq_true rfl⟩) (g_preV (q := (RX5, TX5, 5)) hK hP hD [3, 4, 5] rfl (by decide) (ci := 5) (q0 := 3) rfl rfl) rfl rfl hl.1 rfl (lv_room (Nat.le_of_ble_eq_true rfl)) dX5_findOut_62 ⟨Nat.le_of_ble_eq_true rfl, Nat.le_of_ble_eq_true rfl⟩) hP hD hS hA [3, 4, 5] [0, 1, 2] rfl rfl (by decide) (by decide) ?_
  clear hP hD hS H locs
  refine fun u H locs hq hP hD hS => ?_
  replace hP : va_P D vwCl [(h1, .inr (8, [.ref h6, .int 4])), (h2, .inr (8, [.ref h7, .int wp30406])), (h7, .inl (y 1, 200, .inr (.inl (vp_updL (vp_updL (vp_updL (vp_updL wf30407 ((0 : Int32).toNatClampNeg) 0) ((1 : Int32).toNatClampNeg) 0) ((2 : Int32).toNatClampNeg) 0) ((3 : Int32).toNatClampNeg) 0)))), (h0, .inr (5, [.ref h1, .ref h2, .ref h3, .ref h4, .int 4])), (h4, .inr (8, [.ref h10, .int wp30408])), (h10, .inl (y 1, 3, .inr (.inl (fun _ => 0))))] H := hP
  replace hD : va_D A [(h1, .inr (8, [.ref h6, .int 4])), (h2, .inr (8, [.ref h7, .int wp30406])), (h7, .inl (y 1, 200, .inr (.inl (vp_updL (vp_updL (vp_updL (vp_updL wf30407 ((0 : Int32).toNatClampNeg) 0) ((1 : Int32).toNatClampNeg) 0) ((2 : Int32).toNatClampNeg) 0) ((3 : Int32).toNatClampNeg) 0)))), (h0, .inr (5, [.ref h1, .ref h2, .ref h3, .ref h4, .int 4])), (h4, .inr (8, [.ref h10, .int wp30408])), (h10, .inl (y 1, 3, .inr (.inl (fun _ => 0))))] := hD
  refine lv_iinc (v := 2) (lv' := [(2, .int 2), (1, .int 2), (0, .ref h0)]) hx hb dX5_findOut_65 hl (k := 0) rfl (by decide +kernel) (by decide) rfl ?_
  clear hl
  clear ls
  intro ls hl
  refine lv_goto (tgt := 54) hx hb dX5_findOut_68 (by decide) ?_
  refine lv_iload_n hx hb dX5_findOut_54 rfl (lv_at hl 0 rfl) ?_
  refine lv_iconst (v := 3) hx hb dX5_findOut_55 (by decide) ?_
  refine lv_icmp_ge (tgt := 71) hx hb dX5_findOut_56 (by decide) (fun c9 => absurd c9 (by decide +kernel)) (fun _ => ?_)
  refine lv_aload_n hx hb dX5_findOut_59 rfl (lv_at hl 2 rfl) ?_
  refine lv_iload_n hx hb dX5_findOut_60 rfl (lv_at hl 0 rfl) ?_
  refine lv_iload_n hx hb dX5_findOut_61 rfl (lv_at hl 1 rfl) ?_
  refine g_av (wr := [(h1, .inr (8, [.ref h6, .int 4])), (h2, .inr (8, [.ref h7, .int wp30406])), (h7, .inl (y 1, 200, .inr (.inl (vp_updL (vp_updL (vp_updL (vp_updL wf30407 ((0 : Int32).toNatClampNeg) 0) ((1 : Int32).toNatClampNeg) 0) ((2 : Int32).toNatClampNeg) 0) ((3 : Int32).toNatClampNeg) 0))))]) (va_runV (As := [.int 2, .int 2]) (rest := []) ⟨hx, hb, hml, hown, hg⟩ (k_X5_find_8 l D y aS H.size h0 h1 h2 h3 h4 4 h10 wp30408) (cwV 2 hg ggV_RX5_54_X5_find rfl rfl rfl (by decide +kernel) ⟨Nat.le_of_ble_eq_true rfl, Nat.le_of_ble_eq_true rfl⟩) (g_preV (q := (RX5, TX5, 5)) hK hP hD [3, 4, 5] rfl (by decide) (ci := 5) (q0 := 3) rfl rfl) rfl rfl hl.1 rfl (lv_room (Nat.le_of_ble_eq_true rfl)) dX5_findOut_62 ⟨Nat.le_of_ble_eq_true rfl, Nat.le_of_ble_eq_true rfl⟩) hP hD hS hA [3, 4, 5] [0, 1, 2] rfl rfl (by decide) (by decide) ?_
  clear hP hD hS H locs
  refine fun u H locs hq hP hD hS => ?_
  replace hP : va_P D vwCl [(h1, .inr (8, [.ref h6, .int 4])), (h2, .inr (8, [.ref h7, .int wp30406])), (h7, .inl (y 1, 200, .inr (.inl (vp_updL (vp_updL (vp_updL (vp_updL wf30407 ((0 : Int32).toNatClampNeg) 0) ((1 : Int32).toNatClampNeg) 0) ((2 : Int32).toNatClampNeg) 0) ((3 : Int32).toNatClampNeg) 0)))), (h0, .inr (5, [.ref h1, .ref h2, .ref h3, .ref h4, .int 4])), (h4, .inr (8, [.ref h10, .int wp30408])), (h10, .inl (y 1, 3, .inr (.inl (fun _ => 0))))] H := hP
  replace hD : va_D A [(h1, .inr (8, [.ref h6, .int 4])), (h2, .inr (8, [.ref h7, .int wp30406])), (h7, .inl (y 1, 200, .inr (.inl (vp_updL (vp_updL (vp_updL (vp_updL wf30407 ((0 : Int32).toNatClampNeg) 0) ((1 : Int32).toNatClampNeg) 0) ((2 : Int32).toNatClampNeg) 0) ((3 : Int32).toNatClampNeg) 0)))), (h0, .inr (5, [.ref h1, .ref h2, .ref h3, .ref h4, .int 4])), (h4, .inr (8, [.ref h10, .int wp30408])), (h10, .inl (y 1, 3, .inr (.inl (fun _ => 0))))] := hD
  refine lv_iinc (v := 3) (lv' := [(2, .int 3), (1, .int 2), (0, .ref h0)]) hx hb dX5_findOut_65 hl (k := 0) rfl (by decide +kernel) (by decide) rfl ?_
  clear hl
  clear ls
  intro ls hl
  refine lv_goto (tgt := 54) hx hb dX5_findOut_68 (by decide) ?_
  refine lv_iload_n hx hb dX5_findOut_54 rfl (lv_at hl 0 rfl) ?_
  refine lv_iconst (v := 3) hx hb dX5_findOut_55 (by decide) ?_
  refine lv_icmp_ge (tgt := 71) hx hb dX5_findOut_56 (by decide) (fun _ => ?_) (fun c9 => absurd c9 (by decide +kernel))
  refine lv_iinc (v := 3) (lv' := [(1, .int 3), (2, .int 3), (0, .ref h0)]) hx hb dX5_findOut_71 hl (k := 1) rfl (by decide +kernel) (by decide) rfl ?_
  clear hl
  clear ls
  intro ls hl
  refine lv_goto (tgt := 41) hx hb dX5_findOut_74 (by decide) ?_
  refine lv_iload_n hx hb dX5_findOut_41 rfl (lv_at hl 0 rfl) ?_
  refine lv_aload_n hx hb dX5_findOut_42 rfl (lv_at hl 2 rfl) ?_
  refine gm_get (D := D) (ci := 5) (v := .ref h1) (C := RX5) (T := TX5) (N := 5) hx hb hg inlX5 hown hK.1 hP 3 rfl rfl 0 (by decide) tX5_0 (hg _ gw_138) rfl dX5_findOut_43 ?_
  refine gm_get (D := D) (ci := 8) (v := .int 4) (C := RX8) (T := TX8) (N := 2) hx hb hg inlX8 hown hK.1 hP 0 rfl rfl 1 (by decide) tX8_1 (hg _ gw_1441) rfl dX5_findOut_46 ?_
  refine lv_icmp_ge (tgt := 77) hx hb dX5_findOut_49 (by decide) (fun c9 => absurd c9 (by decide +kernel)) (fun _ => ?_)
  refine lv_iconst (v := 0) hx hb dX5_findOut_52 (by decide) ?_
  refine lv_istore_n (lv' := [(2, .int 0), (1, .int 3), (0, .ref h0)]) hx hb dX5_findOut_53 rfl hl (by decide) rfl ?_
  clear hl
  clear ls
  intro ls hl
  refine lv_iload_n hx hb dX5_findOut_54 rfl (lv_at hl 0 rfl) ?_
  refine lv_iconst (v := 3) hx hb dX5_findOut_55 (by decide) ?_
  refine lv_icmp_ge (tgt := 71) hx hb dX5_findOut_56 (by decide) (fun c9 => absurd c9 (by decide +kernel)) (fun _ => ?_)
  refine lv_aload_n hx hb dX5_findOut_59 rfl (lv_at hl 2 rfl) ?_
  refine lv_iload_n hx hb dX5_findOut_60 rfl (lv_at hl 0 rfl) ?_
  refine lv_iload_n hx hb dX5_findOut_61 rfl (lv_at hl 1 rfl) ?_
  refine g_av (wr := [(h1, .inr (8, [.ref h6, .int 4])), (h2, .inr (8, [.ref h7, .int wp30406])), (h7, .inl (y 1, 200, .inr (.inl (vp_updL (vp_updL (vp_updL (vp_updL wf30407 ((0 : Int32).toNatClampNeg) 0) ((1 : Int32).toNatClampNeg) 0) ((2 : Int32).toNatClampNeg) 0) ((3 : Int32).toNatClampNeg) 0))))]) (va_runV (As := [.int 0, .int 3]) (rest := []) ⟨hx, hb, hml, hown, hg⟩ (k_X5_find_9 l D y aS H.size h0 h1 h2 h3 h4 4 h10 wp30408) (cwV 2 hg ggV_RX5_54_X5_find rfl rfl rfl (by decide +kernel) ⟨Nat.le_of_ble_eq_true rfl, Nat.le_of_ble_eq_true rfl⟩) (g_preV (q := (RX5, TX5, 5)) hK hP hD [3, 4, 5] rfl (by decide) (ci := 5) (q0 := 3) rfl rfl) rfl rfl hl.1 rfl (lv_room (Nat.le_of_ble_eq_true rfl)) dX5_findOut_62 ⟨Nat.le_of_ble_eq_true rfl, Nat.le_of_ble_eq_true rfl⟩) hP hD hS hA [3, 4, 5] [0, 1, 2] rfl rfl (by decide) (by decide) ?_
  clear hP hD hS H locs
  refine fun u H locs hq hP hD hS => ?_
  replace hP : va_P D vwCl [(h1, .inr (8, [.ref h6, .int 4])), (h2, .inr (8, [.ref h7, .int wp30406])), (h7, .inl (y 1, 200, .inr (.inl (vp_updL (vp_updL (vp_updL (vp_updL wf30407 ((0 : Int32).toNatClampNeg) 0) ((1 : Int32).toNatClampNeg) 0) ((2 : Int32).toNatClampNeg) 0) ((3 : Int32).toNatClampNeg) 0)))), (h0, .inr (5, [.ref h1, .ref h2, .ref h3, .ref h4, .int 4])), (h4, .inr (8, [.ref h10, .int wp30408])), (h10, .inl (y 1, 3, .inr (.inl (fun _ => 0))))] H := hP
  replace hD : va_D A [(h1, .inr (8, [.ref h6, .int 4])), (h2, .inr (8, [.ref h7, .int wp30406])), (h7, .inl (y 1, 200, .inr (.inl (vp_updL (vp_updL (vp_updL (vp_updL wf30407 ((0 : Int32).toNatClampNeg) 0) ((1 : Int32).toNatClampNeg) 0) ((2 : Int32).toNatClampNeg) 0) ((3 : Int32).toNatClampNeg) 0)))), (h0, .inr (5, [.ref h1, .ref h2, .ref h3, .ref h4, .int 4])), (h4, .inr (8, [.ref h10, .int wp30408])), (h10, .inl (y 1, 3, .inr (.inl (fun _ => 0))))] := hD
  refine lv_iinc (v := 1) (lv' := [(2, .int 1), (1, .int 3), (0, .ref h0)]) hx hb dX5_findOut_65 hl (k := 0) rfl (by decide +kernel) (by decide) rfl ?_
  clear hl
  clear ls
  intro ls hl
  refine lv_goto (tgt := 54) hx hb dX5_findOut_68 (by decide) ?_
  refine lv_iload_n hx hb dX5_findOut_54 rfl (lv_at hl 0 rfl) ?_
  refine lv_iconst (v := 3) hx hb dX5_findOut_55 (by decide) ?_
  refine lv_icmp_ge (tgt := 71) hx hb dX5_findOut_56 (by decide) (fun c9 => absurd c9 (by decide +kernel)) (fun _ => ?_)
  refine lv_aload_n hx hb dX5_findOut_59 rfl (lv_at hl 2 rfl) ?_
  refine lv_iload_n hx hb dX5_findOut_60 rfl (lv_at hl 0 rfl) ?_
  refine lv_iload_n hx hb dX5_findOut_61 rfl (lv_at hl 1 rfl) ?_
  refine g_av (wr := [(h1, .inr (8, [.ref h6, .int 4])), (h2, .inr (8, [.ref h7, .int wp30406])), (h7, .inl (y 1, 200, .inr (.inl (vp_updL (vp_updL (vp_updL (vp_updL wf30407 ((0 : Int32).toNatClampNeg) 0) ((1 : Int32).toNatClampNeg) 0) ((2 : Int32).toNatClampNeg) 0) ((3 : Int32).toNatClampNeg) 0))))]) (va_runV (As := [.int 1, .int 3]) (rest := []) ⟨hx, hb, hml, hown, hg⟩ (k_X5_find_10 l D y aS H.size h0 h1 h2 h3 h4 4 h10 wp30408) (cwV 2 hg ggV_RX5_54_X5_find rfl rfl rfl (by decide +kernel) ⟨Nat.le_of_ble_eq_true rfl, Nat.le_of_ble_eq_true rfl⟩) (g_preV (q := (RX5, TX5, 5)) hK hP hD [3, 4, 5] rfl (by decide) (ci := 5) (q0 := 3) rfl rfl) rfl rfl hl.1 rfl (lv_room (Nat.le_of_ble_eq_true rfl)) dX5_findOut_62 ⟨Nat.le_of_ble_eq_true rfl, Nat.le_of_ble_eq_true rfl⟩) hP hD hS hA [3, 4, 5] [0, 1, 2] rfl rfl (by decide) (by decide) ?_
  clear hP hD hS H locs
  refine fun u H locs hq hP hD hS => ?_
  replace hP : va_P D vwCl [(h1, .inr (8, [.ref h6, .int 4])), (h2, .inr (8, [.ref h7, .int wp30406])), (h7, .inl (y 1, 200, .inr (.inl (vp_updL (vp_updL (vp_updL (vp_updL wf30407 ((0 : Int32).toNatClampNeg) 0) ((1 : Int32).toNatClampNeg) 0) ((2 : Int32).toNatClampNeg) 0) ((3 : Int32).toNatClampNeg) 0)))), (h0, .inr (5, [.ref h1, .ref h2, .ref h3, .ref h4, .int 4])), (h4, .inr (8, [.ref h10, .int wp30408])), (h10, .inl (y 1, 3, .inr (.inl (fun _ => 0))))] H := hP
  replace hD : va_D A [(h1, .inr (8, [.ref h6, .int 4])), (h2, .inr (8, [.ref h7, .int wp30406])), (h7, .inl (y 1, 200, .inr (.inl (vp_updL (vp_updL (vp_updL (vp_updL wf30407 ((0 : Int32).toNatClampNeg) 0) ((1 : Int32).toNatClampNeg) 0) ((2 : Int32).toNatClampNeg) 0) ((3 : Int32).toNatClampNeg) 0)))), (h0, .inr (5, [.ref h1, .ref h2, .ref h3, .ref h4, .int 4])), (h4, .inr (8, [.ref h10, .int wp30408])), (h10, .inl (y 1, 3, .inr (.inl (fun _ => 0))))] := hD
  refine lv_iinc (v := 2) (lv' := [(2, .int 2), (1, .int 3), (0, .ref h0)]) hx hb dX5_findOut_65 hl (k := 0) rfl (by decide +kernel) (by decide) rfl ?_
  clear hl
  clear ls
  intro ls hl
  refine lv_goto (tgt := 54) hx hb dX5_findOut_68 (by decide) ?_
  refine lv_iload_n hx hb dX5_findOut_54 rfl (lv_at hl 0 rfl) ?_
  refine lv_iconst (v := 3) hx hb dX5_findOut_55 (by decide) ?_
  refine lv_icmp_ge (tgt := 71) hx hb dX5_findOut_56 (by decide) (fun c9 => absurd c9 (by decide +kernel)) (fun _ => ?_)
  refine lv_aload_n hx hb dX5_findOut_59 rfl (lv_at hl 2 rfl) ?_
  refine lv_iload_n hx hb dX5_findOut_60 rfl (lv_at hl 0 rfl) ?_
  refine lv_iload_n hx hb dX5_findOut_61 rfl (lv_at hl 1 rfl) ?_
  refine g_av (wr := [(h1, .inr (8, [.ref h6, .int 4])), (h2, .inr (8, [.ref h7, .int wp30406])), (h7, .inl (y 1, 200, .inr (.inl (vp_updL (vp_updL (vp_updL (vp_updL wf30407 ((0 : Int32).toNatClampNeg) 0) ((1 : Int32).toNatClampNeg) 0) ((2 : Int32).toNatClampNeg) 0) ((3 : Int32).toNatClampNeg) 0))))]) (va_runV (As := [.int 2, .int 3]) (rest := []) ⟨hx, hb, hml, hown, hg⟩ (k_X5_find_11 l D y aS H.size h0 h1 h2 h3 h4 4 h10 wp30408) (cwV 2 hg ggV_RX5_54_X5_find rfl rfl rfl (by decide +kernel) ⟨Nat.le_of_ble_eq_true rfl, Nat.le_of_ble_eq_true rfl⟩) (g_preV (q := (RX5, TX5, 5)) hK hP hD [3, 4, 5] rfl (by decide) (ci := 5) (q0 := 3) rfl rfl) rfl rfl hl.1 rfl (lv_room (Nat.le_of_ble_eq_true rfl)) dX5_findOut_62 ⟨Nat.le_of_ble_eq_true rfl, Nat.le_of_ble_eq_true rfl⟩) hP hD hS hA [3, 4, 5] [0, 1, 2] rfl rfl (by decide) (by decide) ?_
  clear hP hD hS H locs
  refine fun u H locs hq hP hD hS => ?_
  replace hP : va_P D vwCl [(h1, .inr (8, [.ref h6, .int 4])), (h2, .inr (8, [.ref h7, .int wp30406])), (h7, .inl (y 1, 200, .inr (.inl (vp_updL (vp_updL (vp_updL (vp_updL wf30407 ((0 : Int32).toNatClampNeg) 0) ((1 : Int32).toNatClampNeg) 0) ((2 : Int32).toNatClampNeg) 0) ((3 : Int32).toNatClampNeg) 0)))), (h0, .inr (5, [.ref h1, .ref h2, .ref h3, .ref h4, .int 4])), (h4, .inr (8, [.ref h10, .int wp30408])), (h10, .inl (y 1, 3, .inr (.inl (fun _ => 0))))] H := hP
  replace hD : va_D A [(h1, .inr (8, [.ref h6, .int 4])), (h2, .inr (8, [.ref h7, .int wp30406])), (h7, .inl (y 1, 200, .inr (.inl (vp_updL (vp_updL (vp_updL (vp_updL wf30407 ((0 : Int32).toNatClampNeg) 0) ((1 : Int32).toNatClampNeg) 0) ((2 : Int32).toNatClampNeg) 0) ((3 : Int32).toNatClampNeg) 0)))), (h0, .inr (5, [.ref h1, .ref h2, .ref h3, .ref h4, .int 4])), (h4, .inr (8, [.ref h10, .int wp30408])), (h10, .inl (y 1, 3, .inr (.inl (fun _ => 0))))] := hD
  refine lv_iinc (v := 3) (lv' := [(2, .int 3), (1, .int 3), (0, .ref h0)]) hx hb dX5_findOut_65 hl (k := 0) rfl (by decide +kernel) (by decide) rfl ?_
  clear hl
  clear ls
  intro ls hl
  refine lv_goto (tgt := 54) hx hb dX5_findOut_68 (by decide) ?_
  refine lv_iload_n hx hb dX5_findOut_54 rfl (lv_at hl 0 rfl) ?_
  refine lv_iconst (v := 3) hx hb dX5_findOut_55 (by decide) ?_
  refine lv_icmp_ge (tgt := 71) hx hb dX5_findOut_56 (by decide) (fun _ => ?_) (fun c9 => absurd c9 (by decide +kernel))
  refine lv_iinc (v := 4) (lv' := [(1, .int 4), (2, .int 3), (0, .ref h0)]) hx hb dX5_findOut_71 hl (k := 1) rfl (by decide +kernel) (by decide) rfl ?_
  clear hl
  clear ls
  intro ls hl
  refine lv_goto (tgt := 41) hx hb dX5_findOut_74 (by decide) ?_
  refine lv_iload_n hx hb dX5_findOut_41 rfl (lv_at hl 0 rfl) ?_
  refine lv_aload_n hx hb dX5_findOut_42 rfl (lv_at hl 2 rfl) ?_
  refine gm_get (D := D) (ci := 5) (v := .ref h1) (C := RX5) (T := TX5) (N := 5) hx hb hg inlX5 hown hK.1 hP 3 rfl rfl 0 (by decide) tX5_0 (hg _ gw_138) rfl dX5_findOut_43 ?_
  refine gm_get (D := D) (ci := 8) (v := .int 4) (C := RX8) (T := TX8) (N := 2) hx hb hg inlX8 hown hK.1 hP 0 rfl rfl 1 (by decide) tX8_1 (hg _ gw_1441) rfl dX5_findOut_46 ?_
  refine lv_icmp_ge (tgt := 77) hx hb dX5_findOut_49 (by decide) (fun _ => ?_) (fun c9 => absurd c9 (by decide +kernel))
  exact g_vret hx hb hr hlocks () (hP.sub [3, 0, 1, 2, 4, 5] rfl) (hD.sub [3, 0, 1, 2, 4, 5] (by decide +kernel) rfl) hS trivial (Nat.le_of_ble_eq_true rfl) (Nat.le_of_ble_eq_true rfl) dX5_findOut_77
set_option maxRecDepth 100000 in
set_option maxHeartbeats 4000000 in
theorem k_X5_append_3 (l : Launch) (D : va_G) (y : Nat → ClassId) (aS : Nat → Nat) (sz : Nat) (h0 : Nat) (p1 : Int32) (h2 : Nat) (h3 : Nat) (h4 : Nat) (h5 : Nat) (h6 : Nat) (wf30426 : Nat → Int64) (h8 : Nat) (wp30427 : Int32) (wf30428 : Nat → Int64) (h11 : Nat) (wp30429 : Int32) : Met l yX5_append (Cond.code yX5_append cX5_append 6 (some .int) :: wsL_law) ({ frames := 3, cells := 0, slots := 0, locals := 68 } : Room) (va_Pc [.ref h0, .int p1, .int 4] (gI D y aS [(h0, .inr (5, [.ref h2, .ref h3, .ref h4, .ref h5, .int 0])), (h2, .inr (8, [.ref h6, .int 0])), (h6, .inl (y 1, 200, .inr (.inl wf30426))), (h3, .inr (8, [.ref h8, .int wp30427])), (h8, .inl (y 1, 200, .inr (.inl wf30428))), (h5, .inr (8, [.ref h11, .int wp30429])), (h11, .inl (y 1, 3, .inr (.inl (fun _ => 0))))] sz)) (va_Qi (fun (r : Int32) (u : Unit) => 4 = r) (fun u => gO D (va_A [(h0, .inr (5, [.ref h2, .ref h3, .ref h4, .ref h5, .int 0])), (h2, .inr (8, [.ref h6, .int 0])), (h6, .inl (y 1, 200, .inr (.inl wf30426))), (h3, .inr (8, [.ref h8, .int wp30427])), (h8, .inl (y 1, 200, .inr (.inl wf30428))), (h5, .inr (8, [.ref h11, .int wp30429])), (h11, .inl (y 1, 3, .inr (.inl (fun _ => 0))))] sz) [(h0, .inr (5, [.ref h2, .ref h3, .ref h4, .ref h5, .int 4])), (h2, .inr (8, [.ref h6, .int 4])), (h6, .inl (y 1, 200, .inr (.inl (vp_updL (vp_updL (vp_updL (vp_updL (vp_updL (vp_updL (vp_updL (vp_updL wf30426 ((0 : Int32).toNatClampNeg) 0) ((1 : Int32).toNatClampNeg) 0) ((2 : Int32).toNatClampNeg) 0) ((3 : Int32).toNatClampNeg) 0) ((3 : Int32).toNatClampNeg) ((p1 - p1 / 10 * 10).toInt64)) ((2 : Int32).toNatClampNeg) (((p1 / 10) - (p1 / 10) / 10 * 10).toInt64)) ((1 : Int32).toNatClampNeg) ((((p1 / 10) / 10) - ((p1 / 10) / 10) / 10 * 10).toInt64)) ((0 : Int32).toNatClampNeg) (((((p1 / 10) / 10) / 10) - (((p1 / 10) / 10) / 10) / 10 * 10).toInt64))))), (h3, .inr (8, [.ref h8, .int wp30427])), (h8, .inl (y 1, 200, .inr (.inl (vp_updL (vp_updL (vp_updL (vp_updL wf30428 ((0 : Int32).toNatClampNeg) 0) ((1 : Int32).toNatClampNeg) 0) ((2 : Int32).toNatClampNeg) 0) ((3 : Int32).toNatClampNeg) 0)))), (h5, .inr (8, [.ref h11, .int wp30429])), (h11, .inl (y 1, 3, .inr (.inl (fun _ => 0))))]) (va_A [(h0, .inr (5, [.ref h2, .ref h3, .ref h4, .ref h5, .int 0])), (h2, .inr (8, [.ref h6, .int 0])), (h6, .inl (y 1, 200, .inr (.inl wf30426))), (h3, .inr (8, [.ref h8, .int wp30427])), (h8, .inl (y 1, 200, .inr (.inl wf30428))), (h5, .inr (8, [.ref h11, .int wp30429])), (h11, .inl (y 1, 3, .inr (.inl (fun _ => 0))))] sz)) 0 0 (va_A [(h0, .inr (5, [.ref h2, .ref h3, .ref h4, .ref h5, .int 0])), (h2, .inr (8, [.ref h6, .int 0])), (h6, .inl (y 1, 200, .inr (.inl wf30426))), (h3, .inr (8, [.ref h8, .int wp30427])), (h8, .inl (y 1, 200, .inr (.inl wf30428))), (h5, .inr (8, [.ref h11, .int wp30429])), (h11, .inl (y 1, 3, .inr (.inl (fun _ => 0))))] sz) := by
  refine g_of (by decide) (Nat.le_of_ble_eq_true rfl) ?_
  intro p e s m below meth c ls A hx hb hr hml hown hg hlocks hin hsz hK hP hD hS hA hAe hl
  rw [← hAe]
  replace hown : s.vm.findClass RX5 = some m.cls := hown
  replace hl : lv_has ls 6 [(0, .ref h0), (1, .int p1), (2, .int 4)] := hl
  refine lv_aload_n hx hb dX5_append_0 rfl (lv_at hl 0 rfl) ?_
  refine gm_get (D := D) (ci := 5) (v := .ref h2) (C := RX5) (T := TX5) (N := 5) hx hb hg inlX5 hown hK.1 hP 0 rfl rfl 0 (by decide) tX5_0 (hg _ gw_138) rfl dX5_append_1 ?_
  refine gm_get (D := D) (ci := 8) (v := .int 0) (C := RX8) (T := TX8) (N := 2) hx hb hg inlX8 hown hK.1 hP 1 rfl rfl 1 (by decide) tX8_1 (hg _ gw_1441) rfl dX5_append_4 ?_
  refine lv_istore_n (lv' := [(3, .int 0), (0, .ref h0), (1, .int p1), (2, .int 4)]) hx hb dX5_append_7 rfl hl (by decide) rfl ?_
  clear hl
  clear ls
  intro ls hl
  refine lv_aload_n hx hb dX5_append_8 rfl (lv_at hl 1 rfl) ?_
  refine gm_get (D := D) (ci := 5) (v := .ref h2) (C := RX5) (T := TX5) (N := 5) hx hb hg inlX5 hown hK.1 hP 0 rfl rfl 0 (by decide) tX5_0 (hg _ gw_138) rfl dX5_append_9 ?_
  refine lv_iload_n hx hb dX5_append_12 rfl (lv_at hl 3 rfl) ?_
  refine lv_lconst (v := 0) hx hb dX5_append_13 (by decide) ?_
  refine g_av (wr := [(h0, .inr (5, [.ref h2, .ref h3, .ref h4, .ref h5, .int 0])), (h3, .inr (8, [.ref h8, .int wp30427])), (h8, .inl (y 1, 200, .inr (.inl wf30428))), (h5, .inr (8, [.ref h11, .int wp30429])), (h11, .inl (y 1, 3, .inr (.inl (fun _ => 0))))]) (va_runV (As := [.int 4, .long 0]) (rest := []) ⟨hx, hb, hml, hown, hg⟩ (k_X8_addMany_7 l D y aS s.heap.size h2 h6 wf30426) (cwV 2 hg ggV_RX5_44_X8_addMany rfl rfl rfl (by decide +kernel) ⟨Nat.le_of_ble_eq_true rfl, Nat.le_of_ble_eq_true rfl⟩) (g_preV (q := (RX8, TX8, 2)) hK hP hD [1, 2] rfl (by decide) (ci := 8) (q0 := 1) rfl rfl) rfl rfl hl.1 rfl (lv_room (Nat.le_of_ble_eq_true rfl)) dX5_append_14 ⟨Nat.le_of_ble_eq_true rfl, Nat.le_of_ble_eq_true rfl⟩) hP hD hS hA [1, 2] [0, 3, 4, 5, 6] rfl rfl (by decide) (by decide) ?_
  clear hP hD hS
  refine fun u H locs hq hP hD hS => ?_
  replace hP : va_P D vwCl [(h0, .inr (5, [.ref h2, .ref h3, .ref h4, .ref h5, .int 0])), (h3, .inr (8, [.ref h8, .int wp30427])), (h8, .inl (y 1, 200, .inr (.inl wf30428))), (h5, .inr (8, [.ref h11, .int wp30429])), (h11, .inl (y 1, 3, .inr (.inl (fun _ => 0)))), (h2, .inr (8, [.ref h6, .int 4])), (h6, .inl (y 1, 200, .inr (.inl (vp_updL (vp_updL (vp_updL (vp_updL wf30426 ((0 : Int32).toNatClampNeg) 0) ((1 : Int32).toNatClampNeg) 0) ((2 : Int32).toNatClampNeg) 0) ((3 : Int32).toNatClampNeg) 0))))] H := hP
  replace hD : va_D A [(h0, .inr (5, [.ref h2, .ref h3, .ref h4, .ref h5, .int 0])), (h3, .inr (8, [.ref h8, .int wp30427])), (h8, .inl (y 1, 200, .inr (.inl wf30428))), (h5, .inr (8, [.ref h11, .int wp30429])), (h11, .inl (y 1, 3, .inr (.inl (fun _ => 0)))), (h2, .inr (8, [.ref h6, .int 4])), (h6, .inl (y 1, 200, .inr (.inl (vp_updL (vp_updL (vp_updL (vp_updL wf30426 ((0 : Int32).toNatClampNeg) 0) ((1 : Int32).toNatClampNeg) 0) ((2 : Int32).toNatClampNeg) 0) ((3 : Int32).toNatClampNeg) 0))))] := hD
  refine lv_iload_n hx hb dX5_append_17 rfl (lv_at hl 2 rfl) ?_
  refine lv_istore (lv' := [(4, .int p1), (3, .int 0), (0, .ref h0), (1, .int p1), (2, .int 4)]) hx hb dX5_append_18 hl (by decide) rfl ?_
  clear hl
  clear ls
  intro ls hl
  refine lv_iload_n hx hb dX5_append_20 rfl (lv_at hl 1 rfl) ?_
  refine lv_iload_n hx hb dX5_append_21 rfl (lv_at hl 4 rfl) ?_
  refine lv_iadd hx hb dX5_append_22 ?_
  refine g_fi (v := 4) (by decide +kernel) ?_
  refine lv_iconst (v := 1) hx hb dX5_append_23 (by decide) ?_
  refine lv_isub hx hb dX5_append_24 ?_
  refine g_fi (v := 3) (by decide +kernel) ?_
  refine lv_istore (lv' := [(5, .int 3), (4, .int p1), (3, .int 0), (0, .ref h0), (1, .int p1), (2, .int 4)]) hx hb dX5_append_25 hl (by decide) rfl ?_
  clear hl
  clear ls
  intro ls hl
  refine lv_iload hx hb dX5_append_27 (lv_at hl 0 rfl) ?_
  refine lv_iload_n hx hb dX5_append_29 rfl (lv_at hl 2 rfl) ?_
  refine lv_icmp_lt (tgt := 61) hx hb dX5_append_30 (by decide) (fun c9 => absurd c9 (by decide +kernel)) (fun _ => ?_)
  refine lv_aload_n hx hb dX5_append_33 rfl (lv_at hl 3 rfl) ?_
  refine gm_get (D := D) (ci := 5) (v := .ref h2) (C := RX5) (T := TX5) (N := 5) hx hb hg inlX5 hown hK.1 hP 0 rfl rfl 0 (by decide) tX5_0 (hg _ gw_138) rfl dX5_append_34 ?_
  refine lv_iload hx hb dX5_append_37 (lv_at hl 0 rfl) ?_
  refine lv_iload hx hb dX5_append_39 (lv_at hl 1 rfl) ?_
  refine lv_bipush (v := 10) hx hb dX5_append_41 (by decide +kernel) ?_
  refine lv_irem hx hb dX5_append_43 (by decide +kernel) ?_
  refine lv_i2l (v := ((p1 - p1 / 10 * 10).toInt64)) hx hb dX5_append_44 rfl ?_
  refine g_av (wr := [(h0, .inr (5, [.ref h2, .ref h3, .ref h4, .ref h5, .int 0])), (h3, .inr (8, [.ref h8, .int wp30427])), (h8, .inl (y 1, 200, .inr (.inl wf30428))), (h5, .inr (8, [.ref h11, .int wp30429])), (h11, .inl (y 1, 3, .inr (.inl (fun _ => 0))))]) (va_runV (As := [.int 3, .long ((p1 - p1 / 10 * 10).toInt64)]) (rest := []) ⟨hx, hb, hml, hown, hg⟩ (k_X8_set_48 l D y aS H.size h2 ((p1 - p1 / 10 * 10).toInt64) h6 4 (vp_updL (vp_updL (vp_updL (vp_updL wf30426 ((0 : Int32).toNatClampNeg) 0) ((1 : Int32).toNatClampNeg) 0) ((2 : Int32).toNatClampNeg) 0) ((3 : Int32).toNatClampNeg) 0)) (cwV 2 hg ggV_RX5_29_X8_set rfl rfl rfl (by decide +kernel) ⟨Nat.le_of_ble_eq_true rfl, Nat.le_of_ble_eq_true rfl⟩) (g_preV (q := (RX8, TX8, 2)) hK hP hD [5, 6] rfl (by decide) (ci := 8) (q0 := 5) rfl rfl) rfl rfl hl.1 rfl (lv_room (Nat.le_of_ble_eq_true rfl)) dX5_append_45 ⟨Nat.le_of_ble_eq_true rfl, Nat.le_of_ble_eq_true rfl⟩) hP hD hS hA [5, 6] [0, 1, 2, 3, 4] rfl rfl (by decide) (by decide) ?_
  clear hP hD hS H locs
  refine fun u H locs hq hP hD hS => ?_
  replace hP : va_P D vwCl [(h0, .inr (5, [.ref h2, .ref h3, .ref h4, .ref h5, .int 0])), (h3, .inr (8, [.ref h8, .int wp30427])), (h8, .inl (y 1, 200, .inr (.inl wf30428))), (h5, .inr (8, [.ref h11, .int wp30429])), (h11, .inl (y 1, 3, .inr (.inl (fun _ => 0)))), (h2, .inr (8, [.ref h6, .int 4])), (h6, .inl (y 1, 200, .inr (.inl (vp_updL (vp_updL (vp_updL (vp_updL (vp_updL wf30426 ((0 : Int32).toNatClampNeg) 0) ((1 : Int32).toNatClampNeg) 0) ((2 : Int32).toNatClampNeg) 0) ((3 : Int32).toNatClampNeg) 0) ((3 : Int32).toNatClampNeg) ((p1 - p1 / 10 * 10).toInt64)))))] H := hP
  replace hD : va_D A [(h0, .inr (5, [.ref h2, .ref h3, .ref h4, .ref h5, .int 0])), (h3, .inr (8, [.ref h8, .int wp30427])), (h8, .inl (y 1, 200, .inr (.inl wf30428))), (h5, .inr (8, [.ref h11, .int wp30429])), (h11, .inl (y 1, 3, .inr (.inl (fun _ => 0)))), (h2, .inr (8, [.ref h6, .int 4])), (h6, .inl (y 1, 200, .inr (.inl (vp_updL (vp_updL (vp_updL (vp_updL (vp_updL wf30426 ((0 : Int32).toNatClampNeg) 0) ((1 : Int32).toNatClampNeg) 0) ((2 : Int32).toNatClampNeg) 0) ((3 : Int32).toNatClampNeg) 0) ((3 : Int32).toNatClampNeg) ((p1 - p1 / 10 * 10).toInt64)))))] := hD
  refine lv_iload hx hb dX5_append_48 (lv_at hl 1 rfl) ?_
  refine lv_bipush (v := 10) hx hb dX5_append_50 (by decide +kernel) ?_
  refine lv_idiv hx hb dX5_append_52 (by decide +kernel) ?_
  refine lv_istore (lv' := [(4, .int (p1 / 10)), (5, .int 3), (3, .int 0), (0, .ref h0), (1, .int p1), (2, .int 4)]) hx hb dX5_append_53 hl (by decide) rfl ?_
  clear hl
  clear ls
  intro ls hl
  refine lv_iinc (v := 2) (lv' := [(5, .int 2), (4, .int (p1 / 10)), (3, .int 0), (0, .ref h0), (1, .int p1), (2, .int 4)]) hx hb dX5_append_55 hl (k := 1) rfl (by decide +kernel) (by decide) rfl ?_
  clear hl
  clear ls
  intro ls hl
  refine lv_goto (tgt := 27) hx hb dX5_append_58 (by decide) ?_
  refine lv_iload hx hb dX5_append_27 (lv_at hl 0 rfl) ?_
  refine lv_iload_n hx hb dX5_append_29 rfl (lv_at hl 2 rfl) ?_
  refine lv_icmp_lt (tgt := 61) hx hb dX5_append_30 (by decide) (fun c9 => absurd c9 (by decide +kernel)) (fun _ => ?_)
  refine lv_aload_n hx hb dX5_append_33 rfl (lv_at hl 3 rfl) ?_
  refine gm_get (D := D) (ci := 5) (v := .ref h2) (C := RX5) (T := TX5) (N := 5) hx hb hg inlX5 hown hK.1 hP 0 rfl rfl 0 (by decide) tX5_0 (hg _ gw_138) rfl dX5_append_34 ?_
  refine lv_iload hx hb dX5_append_37 (lv_at hl 0 rfl) ?_
  refine lv_iload hx hb dX5_append_39 (lv_at hl 1 rfl) ?_
  refine lv_bipush (v := 10) hx hb dX5_append_41 (by decide +kernel) ?_
  refine lv_irem hx hb dX5_append_43 (by decide +kernel) ?_
  refine lv_i2l (v := (((p1 / 10) - (p1 / 10) / 10 * 10).toInt64)) hx hb dX5_append_44 rfl ?_
  refine g_av (wr := [(h0, .inr (5, [.ref h2, .ref h3, .ref h4, .ref h5, .int 0])), (h3, .inr (8, [.ref h8, .int wp30427])), (h8, .inl (y 1, 200, .inr (.inl wf30428))), (h5, .inr (8, [.ref h11, .int wp30429])), (h11, .inl (y 1, 3, .inr (.inl (fun _ => 0))))]) (va_runV (As := [.int 2, .long (((p1 / 10) - (p1 / 10) / 10 * 10).toInt64)]) (rest := []) ⟨hx, hb, hml, hown, hg⟩ (k_X8_set_47 l D y aS H.size h2 (((p1 / 10) - (p1 / 10) / 10 * 10).toInt64) h6 4 (vp_updL (vp_updL (vp_updL (vp_updL (vp_updL wf30426 ((0 : Int32).toNatClampNeg) 0) ((1 : Int32).toNatClampNeg) 0) ((2 : Int32).toNatClampNeg) 0) ((3 : Int32).toNatClampNeg) 0) ((3 : Int32).toNatClampNeg) ((p1 - p1 / 10 * 10).toInt64))) (cwV 2 hg ggV_RX5_29_X8_set rfl rfl rfl (by decide +kernel) ⟨Nat.le_of_ble_eq_true rfl, Nat.le_of_ble_eq_true rfl⟩) (g_preV (q := (RX8, TX8, 2)) hK hP hD [5, 6] rfl (by decide) (ci := 8) (q0 := 5) rfl rfl) rfl rfl hl.1 rfl (lv_room (Nat.le_of_ble_eq_true rfl)) dX5_append_45 ⟨Nat.le_of_ble_eq_true rfl, Nat.le_of_ble_eq_true rfl⟩) hP hD hS hA [5, 6] [0, 1, 2, 3, 4] rfl rfl (by decide) (by decide) ?_
  clear hP hD hS H locs
  refine fun u H locs hq hP hD hS => ?_
  replace hP : va_P D vwCl [(h0, .inr (5, [.ref h2, .ref h3, .ref h4, .ref h5, .int 0])), (h3, .inr (8, [.ref h8, .int wp30427])), (h8, .inl (y 1, 200, .inr (.inl wf30428))), (h5, .inr (8, [.ref h11, .int wp30429])), (h11, .inl (y 1, 3, .inr (.inl (fun _ => 0)))), (h2, .inr (8, [.ref h6, .int 4])), (h6, .inl (y 1, 200, .inr (.inl (vp_updL (vp_updL (vp_updL (vp_updL (vp_updL (vp_updL wf30426 ((0 : Int32).toNatClampNeg) 0) ((1 : Int32).toNatClampNeg) 0) ((2 : Int32).toNatClampNeg) 0) ((3 : Int32).toNatClampNeg) 0) ((3 : Int32).toNatClampNeg) ((p1 - p1 / 10 * 10).toInt64)) ((2 : Int32).toNatClampNeg) (((p1 / 10) - (p1 / 10) / 10 * 10).toInt64)))))] H := hP
  replace hD : va_D A [(h0, .inr (5, [.ref h2, .ref h3, .ref h4, .ref h5, .int 0])), (h3, .inr (8, [.ref h8, .int wp30427])), (h8, .inl (y 1, 200, .inr (.inl wf30428))), (h5, .inr (8, [.ref h11, .int wp30429])), (h11, .inl (y 1, 3, .inr (.inl (fun _ => 0)))), (h2, .inr (8, [.ref h6, .int 4])), (h6, .inl (y 1, 200, .inr (.inl (vp_updL (vp_updL (vp_updL (vp_updL (vp_updL (vp_updL wf30426 ((0 : Int32).toNatClampNeg) 0) ((1 : Int32).toNatClampNeg) 0) ((2 : Int32).toNatClampNeg) 0) ((3 : Int32).toNatClampNeg) 0) ((3 : Int32).toNatClampNeg) ((p1 - p1 / 10 * 10).toInt64)) ((2 : Int32).toNatClampNeg) (((p1 / 10) - (p1 / 10) / 10 * 10).toInt64)))))] := hD
  refine lv_iload hx hb dX5_append_48 (lv_at hl 1 rfl) ?_
  refine lv_bipush (v := 10) hx hb dX5_append_50 (by decide +kernel) ?_
  refine lv_idiv hx hb dX5_append_52 (by decide +kernel) ?_
  refine lv_istore (lv' := [(4, .int ((p1 / 10) / 10)), (5, .int 2), (3, .int 0), (0, .ref h0), (1, .int p1), (2, .int 4)]) hx hb dX5_append_53 hl (by decide) rfl ?_
  clear hl
  clear ls
  intro ls hl
  refine lv_iinc (v := 1) (lv' := [(5, .int 1), (4, .int ((p1 / 10) / 10)), (3, .int 0), (0, .ref h0), (1, .int p1), (2, .int 4)]) hx hb dX5_append_55 hl (k := 1) rfl (by decide +kernel) (by decide) rfl ?_
  clear hl
  clear ls
  intro ls hl
  refine lv_goto (tgt := 27) hx hb dX5_append_58 (by decide) ?_
  refine lv_iload hx hb dX5_append_27 (lv_at hl 0 rfl) ?_
  refine lv_iload_n hx hb dX5_append_29 rfl (lv_at hl 2 rfl) ?_
  refine lv_icmp_lt (tgt := 61) hx hb dX5_append_30 (by decide) (fun c9 => absurd c9 (by decide +kernel)) (fun _ => ?_)
  refine lv_aload_n hx hb dX5_append_33 rfl (lv_at hl 3 rfl) ?_
  refine gm_get (D := D) (ci := 5) (v := .ref h2) (C := RX5) (T := TX5) (N := 5) hx hb hg inlX5 hown hK.1 hP 0 rfl rfl 0 (by decide) tX5_0 (hg _ gw_138) rfl dX5_append_34 ?_
  refine lv_iload hx hb dX5_append_37 (lv_at hl 0 rfl) ?_
  refine lv_iload hx hb dX5_append_39 (lv_at hl 1 rfl) ?_
  refine lv_bipush (v := 10) hx hb dX5_append_41 (by decide +kernel) ?_
  refine lv_irem hx hb dX5_append_43 (by decide +kernel) ?_
  refine lv_i2l (v := ((((p1 / 10) / 10) - ((p1 / 10) / 10) / 10 * 10).toInt64)) hx hb dX5_append_44 rfl ?_
  refine g_av (wr := [(h0, .inr (5, [.ref h2, .ref h3, .ref h4, .ref h5, .int 0])), (h3, .inr (8, [.ref h8, .int wp30427])), (h8, .inl (y 1, 200, .inr (.inl wf30428))), (h5, .inr (8, [.ref h11, .int wp30429])), (h11, .inl (y 1, 3, .inr (.inl (fun _ => 0))))]) (va_runV (As := [.int 1, .long ((((p1 / 10) / 10) - ((p1 / 10) / 10) / 10 * 10).toInt64)]) (rest := []) ⟨hx, hb, hml, hown, hg⟩ (k_X8_set_46 l D y aS H.size h2 ((((p1 / 10) / 10) - ((p1 / 10) / 10) / 10 * 10).toInt64) h6 4 (vp_updL (vp_updL (vp_updL (vp_updL (vp_updL (vp_updL wf30426 ((0 : Int32).toNatClampNeg) 0) ((1 : Int32).toNatClampNeg) 0) ((2 : Int32).toNatClampNeg) 0) ((3 : Int32).toNatClampNeg) 0) ((3 : Int32).toNatClampNeg) ((p1 - p1 / 10 * 10).toInt64)) ((2 : Int32).toNatClampNeg) (((p1 / 10) - (p1 / 10) / 10 * 10).toInt64))) (cwV 2 hg ggV_RX5_29_X8_set rfl rfl rfl (by decide +kernel) ⟨Nat.le_of_ble_eq_true rfl, Nat.le_of_ble_eq_true rfl⟩) (g_preV (q := (RX8, TX8, 2)) hK hP hD [5, 6] rfl (by decide) (ci := 8) (q0 := 5) rfl rfl) rfl rfl hl.1 rfl (lv_room (Nat.le_of_ble_eq_true rfl)) dX5_append_45 ⟨Nat.le_of_ble_eq_true rfl, Nat.le_of_ble_eq_true rfl⟩) hP hD hS hA [5, 6] [0, 1, 2, 3, 4] rfl rfl (by decide) (by decide) ?_
  clear hP hD hS H locs
  refine fun u H locs hq hP hD hS => ?_
  replace hP : va_P D vwCl [(h0, .inr (5, [.ref h2, .ref h3, .ref h4, .ref h5, .int 0])), (h3, .inr (8, [.ref h8, .int wp30427])), (h8, .inl (y 1, 200, .inr (.inl wf30428))), (h5, .inr (8, [.ref h11, .int wp30429])), (h11, .inl (y 1, 3, .inr (.inl (fun _ => 0)))), (h2, .inr (8, [.ref h6, .int 4])), (h6, .inl (y 1, 200, .inr (.inl (vp_updL (vp_updL (vp_updL (vp_updL (vp_updL (vp_updL (vp_updL wf30426 ((0 : Int32).toNatClampNeg) 0) ((1 : Int32).toNatClampNeg) 0) ((2 : Int32).toNatClampNeg) 0) ((3 : Int32).toNatClampNeg) 0) ((3 : Int32).toNatClampNeg) ((p1 - p1 / 10 * 10).toInt64)) ((2 : Int32).toNatClampNeg) (((p1 / 10) - (p1 / 10) / 10 * 10).toInt64)) ((1 : Int32).toNatClampNeg) ((((p1 / 10) / 10) - ((p1 / 10) / 10) / 10 * 10).toInt64)))))] H := hP
  replace hD : va_D A [(h0, .inr (5, [.ref h2, .ref h3, .ref h4, .ref h5, .int 0])), (h3, .inr (8, [.ref h8, .int wp30427])), (h8, .inl (y 1, 200, .inr (.inl wf30428))), (h5, .inr (8, [.ref h11, .int wp30429])), (h11, .inl (y 1, 3, .inr (.inl (fun _ => 0)))), (h2, .inr (8, [.ref h6, .int 4])), (h6, .inl (y 1, 200, .inr (.inl (vp_updL (vp_updL (vp_updL (vp_updL (vp_updL (vp_updL (vp_updL wf30426 ((0 : Int32).toNatClampNeg) 0) ((1 : Int32).toNatClampNeg) 0) ((2 : Int32).toNatClampNeg) 0) ((3 : Int32).toNatClampNeg) 0) ((3 : Int32).toNatClampNeg) ((p1 - p1 / 10 * 10).toInt64)) ((2 : Int32).toNatClampNeg) (((p1 / 10) - (p1 / 10) / 10 * 10).toInt64)) ((1 : Int32).toNatClampNeg) ((((p1 / 10) / 10) - ((p1 / 10) / 10) / 10 * 10).toInt64)))))] := hD
  refine lv_iload hx hb dX5_append_48 (lv_at hl 1 rfl) ?_
  refine lv_bipush (v := 10) hx hb dX5_append_50 (by decide +kernel) ?_
  refine lv_idiv hx hb dX5_append_52 (by decide +kernel) ?_
  refine lv_istore (lv' := [(4, .int (((p1 / 10) / 10) / 10)), (5, .int 1), (3, .int 0), (0, .ref h0), (1, .int p1), (2, .int 4)]) hx hb dX5_append_53 hl (by decide) rfl ?_
  clear hl
  clear ls
  intro ls hl
  refine lv_iinc (v := 0) (lv' := [(5, .int 0), (4, .int (((p1 / 10) / 10) / 10)), (3, .int 0), (0, .ref h0), (1, .int p1), (2, .int 4)]) hx hb dX5_append_55 hl (k := 1) rfl (by decide +kernel) (by decide) rfl ?_
  clear hl
  clear ls
  intro ls hl
  refine lv_goto (tgt := 27) hx hb dX5_append_58 (by decide) ?_
  refine lv_iload hx hb dX5_append_27 (lv_at hl 0 rfl) ?_
  refine lv_iload_n hx hb dX5_append_29 rfl (lv_at hl 2 rfl) ?_
  refine lv_icmp_lt (tgt := 61) hx hb dX5_append_30 (by decide) (fun c9 => absurd c9 (by decide +kernel)) (fun _ => ?_)
  refine lv_aload_n hx hb dX5_append_33 rfl (lv_at hl 3 rfl) ?_
  refine gm_get (D := D) (ci := 5) (v := .ref h2) (C := RX5) (T := TX5) (N := 5) hx hb hg inlX5 hown hK.1 hP 0 rfl rfl 0 (by decide) tX5_0 (hg _ gw_138) rfl dX5_append_34 ?_
  refine lv_iload hx hb dX5_append_37 (lv_at hl 0 rfl) ?_
  refine lv_iload hx hb dX5_append_39 (lv_at hl 1 rfl) ?_
  refine lv_bipush (v := 10) hx hb dX5_append_41 (by decide +kernel) ?_
  refine lv_irem hx hb dX5_append_43 (by decide +kernel) ?_
  refine lv_i2l (v := (((((p1 / 10) / 10) / 10) - (((p1 / 10) / 10) / 10) / 10 * 10).toInt64)) hx hb dX5_append_44 rfl ?_
  refine g_av (wr := [(h0, .inr (5, [.ref h2, .ref h3, .ref h4, .ref h5, .int 0])), (h3, .inr (8, [.ref h8, .int wp30427])), (h8, .inl (y 1, 200, .inr (.inl wf30428))), (h5, .inr (8, [.ref h11, .int wp30429])), (h11, .inl (y 1, 3, .inr (.inl (fun _ => 0))))]) (va_runV (As := [.int 0, .long (((((p1 / 10) / 10) / 10) - (((p1 / 10) / 10) / 10) / 10 * 10).toInt64)]) (rest := []) ⟨hx, hb, hml, hown, hg⟩ (k_X8_set_45 l D y aS H.size h2 (((((p1 / 10) / 10) / 10) - (((p1 / 10) / 10) / 10) / 10 * 10).toInt64) h6 4 (vp_updL (vp_updL (vp_updL (vp_updL (vp_updL (vp_updL (vp_updL wf30426 ((0 : Int32).toNatClampNeg) 0) ((1 : Int32).toNatClampNeg) 0) ((2 : Int32).toNatClampNeg) 0) ((3 : Int32).toNatClampNeg) 0) ((3 : Int32).toNatClampNeg) ((p1 - p1 / 10 * 10).toInt64)) ((2 : Int32).toNatClampNeg) (((p1 / 10) - (p1 / 10) / 10 * 10).toInt64)) ((1 : Int32).toNatClampNeg) ((((p1 / 10) / 10) - ((p1 / 10) / 10) / 10 * 10).toInt64))) (cwV 2 hg ggV_RX5_29_X8_set rfl rfl rfl (by decide +kernel) ⟨Nat.le_of_ble_eq_true rfl, Nat.le_of_ble_eq_true rfl⟩) (g_preV (q := (RX8, TX8, 2)) hK hP hD [5, 6] rfl (by decide) (ci := 8) (q0 := 5) rfl rfl) rfl rfl hl.1 rfl (lv_room (Nat.le_of_ble_eq_true rfl)) dX5_append_45 ⟨Nat.le_of_ble_eq_true rfl, Nat.le_of_ble_eq_true rfl⟩) hP hD hS hA [5, 6] [0, 1, 2, 3, 4] rfl rfl (by decide) (by decide) ?_
  clear hP hD hS H locs
  refine fun u H locs hq hP hD hS => ?_
  replace hP : va_P D vwCl [(h0, .inr (5, [.ref h2, .ref h3, .ref h4, .ref h5, .int 0])), (h3, .inr (8, [.ref h8, .int wp30427])), (h8, .inl (y 1, 200, .inr (.inl wf30428))), (h5, .inr (8, [.ref h11, .int wp30429])), (h11, .inl (y 1, 3, .inr (.inl (fun _ => 0)))), (h2, .inr (8, [.ref h6, .int 4])), (h6, .inl (y 1, 200, .inr (.inl (vp_updL (vp_updL (vp_updL (vp_updL (vp_updL (vp_updL (vp_updL (vp_updL wf30426 ((0 : Int32).toNatClampNeg) 0) ((1 : Int32).toNatClampNeg) 0) ((2 : Int32).toNatClampNeg) 0) ((3 : Int32).toNatClampNeg) 0) ((3 : Int32).toNatClampNeg) ((p1 - p1 / 10 * 10).toInt64)) ((2 : Int32).toNatClampNeg) (((p1 / 10) - (p1 / 10) / 10 * 10).toInt64)) ((1 : Int32).toNatClampNeg) ((((p1 / 10) / 10) - ((p1 / 10) / 10) / 10 * 10).toInt64)) ((0 : Int32).toNatClampNeg) (((((p1 / 10) / 10) / 10) - (((p1 / 10) / 10) / 10) / 10 * 10).toInt64)))))] H := hP
  replace hD : va_D A [(h0, .inr (5, [.ref h2, .ref h3, .ref h4, .ref h5, .int 0])), (h3, .inr (8, [.ref h8, .int wp30427])), (h8, .inl (y 1, 200, .inr (.inl wf30428))), (h5, .inr (8, [.ref h11, .int wp30429])), (h11, .inl (y 1, 3, .inr (.inl (fun _ => 0)))), (h2, .inr (8, [.ref h6, .int 4])), (h6, .inl (y 1, 200, .inr (.inl (vp_updL (vp_updL (vp_updL (vp_updL (vp_updL (vp_updL (vp_updL (vp_updL wf30426 ((0 : Int32).toNatClampNeg) 0) ((1 : Int32).toNatClampNeg) 0) ((2 : Int32).toNatClampNeg) 0) ((3 : Int32).toNatClampNeg) 0) ((3 : Int32).toNatClampNeg) ((p1 - p1 / 10 * 10).toInt64)) ((2 : Int32).toNatClampNeg) (((p1 / 10) - (p1 / 10) / 10 * 10).toInt64)) ((1 : Int32).toNatClampNeg) ((((p1 / 10) / 10) - ((p1 / 10) / 10) / 10 * 10).toInt64)) ((0 : Int32).toNatClampNeg) (((((p1 / 10) / 10) / 10) - (((p1 / 10) / 10) / 10) / 10 * 10).toInt64)))))] := hD
  refine lv_iload hx hb dX5_append_48 (lv_at hl 1 rfl) ?_
  refine lv_bipush (v := 10) hx hb dX5_append_50 (by decide +kernel) ?_
  refine lv_idiv hx hb dX5_append_52 (by decide +kernel) ?_
  refine lv_istore (lv' := [(4, .int ((((p1 / 10) / 10) / 10) / 10)), (5, .int 0), (3, .int 0), (0, .ref h0), (1, .int p1), (2, .int 4)]) hx hb dX5_append_53 hl (by decide) rfl ?_
  clear hl
  clear ls
  intro ls hl
  refine lv_iinc (v := (-1)) (lv' := [(5, .int (-1)), (4, .int ((((p1 / 10) / 10) / 10) / 10)), (3, .int 0), (0, .ref h0), (1, .int p1), (2, .int 4)]) hx hb dX5_append_55 hl (k := 1) rfl (by decide +kernel) (by decide) rfl ?_
  clear hl
  clear ls
  intro ls hl
  refine lv_goto (tgt := 27) hx hb dX5_append_58 (by decide) ?_
  refine lv_iload hx hb dX5_append_27 (lv_at hl 0 rfl) ?_
  refine lv_iload_n hx hb dX5_append_29 rfl (lv_at hl 2 rfl) ?_
  refine lv_icmp_lt (tgt := 61) hx hb dX5_append_30 (by decide) (fun _ => ?_) (fun c9 => absurd c9 (by decide +kernel))
  refine lv_aload_n hx hb dX5_append_61 rfl (lv_at hl 3 rfl) ?_
  refine g_av (wr := [(h6, .inl (y 1, 200, .inr (.inl (vp_updL (vp_updL (vp_updL (vp_updL (vp_updL (vp_updL (vp_updL (vp_updL wf30426 ((0 : Int32).toNatClampNeg) 0) ((1 : Int32).toNatClampNeg) 0) ((2 : Int32).toNatClampNeg) 0) ((3 : Int32).toNatClampNeg) 0) ((3 : Int32).toNatClampNeg) ((p1 - p1 / 10 * 10).toInt64)) ((2 : Int32).toNatClampNeg) (((p1 / 10) - (p1 / 10) / 10 * 10).toInt64)) ((1 : Int32).toNatClampNeg) ((((p1 / 10) / 10) - ((p1 / 10) / 10) / 10 * 10).toInt64)) ((0 : Int32).toNatClampNeg) (((((p1 / 10) / 10) / 10) - (((p1 / 10) / 10) / 10) / 10 * 10).toInt64)))))]) (va_runV (As := []) (rest := []) ⟨hx, hb, hml, hown, hg⟩ (k_X5_findOut_4 l D y aS H.size h0 h2 h3 h4 h5 0 h6 h8 wp30427 wf30428 h11 wp30429) (cwV 0 hg ggV_RX5_33_X5_findOut rfl rfl rfl (by decide +kernel) ⟨Nat.le_of_ble_eq_true rfl, Nat.le_of_ble_eq_true rfl⟩) (g_preV (q := (RX5, TX5, 5)) hK hP hD [0, 5, 1, 2, 3, 4] rfl (by decide) (ci := 5) (q0 := 0) rfl rfl) rfl rfl hl.1 rfl (lv_room (Nat.le_of_ble_eq_true rfl)) dX5_append_62 ⟨Nat.le_of_ble_eq_true rfl, Nat.le_of_ble_eq_true rfl⟩) hP hD hS hA [0, 5, 1, 2, 3, 4] [6] rfl rfl (by decide) (by decide) ?_
  clear hP hD hS H locs
  refine fun u H locs hq hP hD hS => ?_
  replace hP : va_P D vwCl [(h6, .inl (y 1, 200, .inr (.inl (vp_updL (vp_updL (vp_updL (vp_updL (vp_updL (vp_updL (vp_updL (vp_updL wf30426 ((0 : Int32).toNatClampNeg) 0) ((1 : Int32).toNatClampNeg) 0) ((2 : Int32).toNatClampNeg) 0) ((3 : Int32).toNatClampNeg) 0) ((3 : Int32).toNatClampNeg) ((p1 - p1 / 10 * 10).toInt64)) ((2 : Int32).toNatClampNeg) (((p1 / 10) - (p1 / 10) / 10 * 10).toInt64)) ((1 : Int32).toNatClampNeg) ((((p1 / 10) / 10) - ((p1 / 10) / 10) / 10 * 10).toInt64)) ((0 : Int32).toNatClampNeg) (((((p1 / 10) / 10) / 10) - (((p1 / 10) / 10) / 10) / 10 * 10).toInt64))))), (h0, .inr (5, [.ref h2, .ref h3, .ref h4, .ref h5, .int 4])), (h2, .inr (8, [.ref h6, .int 4])), (h3, .inr (8, [.ref h8, .int wp30427])), (h8, .inl (y 1, 200, .inr (.inl (vp_updL (vp_updL (vp_updL (vp_updL wf30428 ((0 : Int32).toNatClampNeg) 0) ((1 : Int32).toNatClampNeg) 0) ((2 : Int32).toNatClampNeg) 0) ((3 : Int32).toNatClampNeg) 0)))), (h5, .inr (8, [.ref h11, .int wp30429])), (h11, .inl (y 1, 3, .inr (.inl (fun _ => 0))))] H := hP
  replace hD : va_D A [(h6, .inl (y 1, 200, .inr (.inl (vp_updL (vp_updL (vp_updL (vp_updL (vp_updL (vp_updL (vp_updL (vp_updL wf30426 ((0 : Int32).toNatClampNeg) 0) ((1 : Int32).toNatClampNeg) 0) ((2 : Int32).toNatClampNeg) 0) ((3 : Int32).toNatClampNeg) 0) ((3 : Int32).toNatClampNeg) ((p1 - p1 / 10 * 10).toInt64)) ((2 : Int32).toNatClampNeg) (((p1 / 10) - (p1 / 10) / 10 * 10).toInt64)) ((1 : Int32).toNatClampNeg) ((((p1 / 10) / 10) - ((p1 / 10) / 10) / 10 * 10).toInt64)) ((0 : Int32).toNatClampNeg) (((((p1 / 10) / 10) / 10) - (((p1 / 10) / 10) / 10) / 10 * 10).toInt64))))), (h0, .inr (5, [.ref h2, .ref h3, .ref h4, .ref h5, .int 4])), (h2, .inr (8, [.ref h6, .int 4])), (h3, .inr (8, [.ref h8, .int wp30427])), (h8, .inl (y 1, 200, .inr (.inl (vp_updL (vp_updL (vp_updL (vp_updL wf30428 ((0 : Int32).toNatClampNeg) 0) ((1 : Int32).toNatClampNeg) 0) ((2 : Int32).toNatClampNeg) 0) ((3 : Int32).toNatClampNeg) 0)))), (h5, .inr (8, [.ref h11, .int wp30429])), (h11, .inl (y 1, 3, .inr (.inl (fun _ => 0))))] := hD
  refine lv_aload_n hx hb dX5_append_65 rfl (lv_at hl 3 rfl) ?_
  refine gm_get (D := D) (ci := 5) (v := .int 4) (C := RX5) (T := TX5) (N := 5) hx hb hg inlX5 hown hK.1 hP 1 rfl rfl 4 (by decide) tX5_4 (hg _ gw_1442) rfl dX5_append_66 ?_
  exact g_iret hx hb hr hlocks () (hP.sub [1, 2, 0, 3, 4, 5, 6] rfl) (hD.sub [1, 2, 0, 3, 4, 5, 6] (by decide +kernel) rfl) hS rfl rfl (Nat.le_of_ble_eq_true rfl) (Nat.le_of_ble_eq_true rfl) dX5_append_69
set_option maxRecDepth 100000 in
set_option maxHeartbeats 4000000 in
theorem k_X8_add_32 (l : Launch) (D : va_G) (y : Nat → ClassId) (aS : Nat → Nat) (sz : Nat) (h0 : Nat) (h1 : Nat) (wf30445 : Nat → Int64) : Met l yX8_add (Cond.code yX8_add cX8_add 3 none :: wsL_law) ({ frames := 0, cells := 0, slots := 0, locals := 0 } : Room) (va_Pc [.ref h0, .long 0] (gI D y aS [(h0, .inr (8, [.ref h1, .int 4])), (h1, .inl (y 1, 200, .inr (.inl wf30445)))] sz)) (va_Qv (fun (u : Unit) => True) (fun u => gO D (va_A [(h0, .inr (8, [.ref h1, .int 4])), (h1, .inl (y 1, 200, .inr (.inl wf30445)))] sz) [(h0, .inr (8, [.ref h1, .int 5])), (h1, .inl (y 1, 200, .inr (.inl (vp_updL wf30445 ((4 : Int32).toNatClampNeg) 0))))]) (va_A [(h0, .inr (8, [.ref h1, .int 4])), (h1, .inl (y 1, 200, .inr (.inl wf30445)))] sz)) 0 0 (va_A [(h0, .inr (8, [.ref h1, .int 4])), (h1, .inl (y 1, 200, .inr (.inl wf30445)))] sz) := by
  refine g_of (by decide) (Nat.le_of_ble_eq_true rfl) ?_
  intro p e s m below meth c ls A hx hb hr hml hown hg hlocks hin hsz hK hP hD hS hA hAe hl
  rw [← hAe]
  replace hown : s.vm.findClass RX8 = some m.cls := hown
  replace hl : lv_has ls 3 [(0, .ref h0), (1, .long 0)] := hl
  refine lv_aload_n hx hb dX8_add_0 rfl (lv_at hl 0 rfl) ?_
  refine gm_get (D := D) (ci := 8) (v := .int 4) (C := RX8) (T := TX8) (N := 2) hx hb hg inlX8 hown hK.1 hP 0 rfl rfl 1 (by decide) tX8_1 (hg _ gw_155) rfl dX8_add_1 ?_
  refine lv_if_lt (tgt := 39) hx hb dX8_add_4 (by decide) (fun c9 => absurd c9 (by decide +kernel)) (fun _ => ?_)
  refine lv_aload_n hx hb dX8_add_7 rfl (lv_at hl 0 rfl) ?_
  refine gm_get (D := D) (ci := 8) (v := .int 4) (C := RX8) (T := TX8) (N := 2) hx hb hg inlX8 hown hK.1 hP 0 rfl rfl 1 (by decide) tX8_1 (hg _ gw_155) rfl dX8_add_8 ?_
  refine lv_aload_n hx hb dX8_add_11 rfl (lv_at hl 0 rfl) ?_
  refine gm_get (D := D) (ci := 8) (v := .ref h1) (C := RX8) (T := TX8) (N := 2) hx hb hg inlX8 hown hK.1 hP 0 rfl rfl 0 (by decide) tX8_0 (hg _ gw_98) rfl dX8_add_12 ?_
  refine va_alen hx hb hK.1 hP 1 1 rfl rfl (v := 200) rfl dX8_add_15 ?_
  refine lv_icmp_ge (tgt := 39) hx hb dX8_add_16 (by decide) (fun c9 => absurd c9 (by decide +kernel)) (fun _ => ?_)
  refine lv_aload_n hx hb dX8_add_19 rfl (lv_at hl 0 rfl) ?_
  refine gm_get (D := D) (ci := 8) (v := .ref h1) (C := RX8) (T := TX8) (N := 2) hx hb hg inlX8 hown hK.1 hP 0 rfl rfl 0 (by decide) tX8_0 (hg _ gw_98) rfl dX8_add_20 ?_
  refine lv_aload_n hx hb dX8_add_23 rfl (lv_at hl 0 rfl) ?_
  refine gm_get (D := D) (ci := 8) (v := .int 4) (C := RX8) (T := TX8) (N := 2) hx hb hg inlX8 hown hK.1 hP 0 rfl rfl 1 (by decide) tX8_1 (hg _ gw_155) rfl dX8_add_24 ?_
  refine lv_lload_n hx hb dX8_add_27 rfl (lv_at hl 1 rfl) ?_
  refine va_last hx hb hK.1 hP hD hS 1 1 rfl rfl (by unfold vp_in; decide +kernel) dX8_add_28 ?_
  clear hP hD hS
  refine fun H locs (hP : va_P D vwCl [(h0, .inr (8, [.ref h1, .int 4])), (h1, .inl (y 1, 200, .inr (.inl (vp_updL wf30445 ((4 : Int32).toNatClampNeg) 0))))] H) (hD : va_D A [(h0, .inr (8, [.ref h1, .int 4])), (h1, .inl (y 1, 200, .inr (.inl (vp_updL wf30445 ((4 : Int32).toNatClampNeg) 0))))]) hS => ?_
  refine lv_aload_n hx hb dX8_add_29 rfl (lv_at hl 0 rfl) ?_
  refine lv_dup hx hb dX8_add_30 rfl ?_
  refine gm_get (D := D) (ci := 8) (v := .int 4) (C := RX8) (T := TX8) (N := 2) hx hb hg inlX8 hown hK.1 hP 0 rfl rfl 1 (by decide) tX8_1 (hg _ gw_155) rfl dX8_add_31 ?_
  refine lv_iconst (v := 1) hx hb dX8_add_34 (by decide) ?_
  refine lv_iadd hx hb dX8_add_35 ?_
  refine g_fi (v := 5) (by decide +kernel) ?_
  refine gm_put (D := D) (ci := 8) (v := .int 5) (ty := .int) (C := RX8) (T := TX8) (N := 2) hx hb hg inlX8 tyX8 tyX8_ok nmX8 hown hK.1 hP hD hS 0 rfl rfl 1 (by decide) tX8_1 (hg _ gw_155) (by decide +kernel) rfl rfl (Nat.le_of_ble_eq_true rfl) dX8_add_36 ?_
  clear hP hD hS H locs
  refine fun H locs (hP : va_P D vwCl [(h0, .inr (8, [.ref h1, .int 5])), (h1, .inl (y 1, 200, .inr (.inl (vp_updL wf30445 ((4 : Int32).toNatClampNeg) 0))))] H) (hD : va_D A [(h0, .inr (8, [.ref h1, .int 5])), (h1, .inl (y 1, 200, .inr (.inl (vp_updL wf30445 ((4 : Int32).toNatClampNeg) 0))))]) hS => ?_
  exact g_vret hx hb hr hlocks () hP hD hS trivial (Nat.le_of_ble_eq_true rfl) (Nat.le_of_ble_eq_true rfl) dX8_add_39
set_option maxRecDepth 100000 in
set_option maxHeartbeats 4000000 in
theorem k_X8_addMany_8 (l : Launch) (D : va_G) (y : Nat → ClassId) (aS : Nat → Nat) (sz : Nat) (h0 : Nat) (h1 : Nat) (wf30447 : Nat → Int64) : Met l yX8_addMany (Cond.code yX8_addMany cX8_addMany 5 none :: wsL_law) ({ frames := 1, cells := 0, slots := 0, locals := 22 } : Room) (va_Pc [.ref h0, .int 5, .long 0] (gI D y aS [(h0, .inr (8, [.ref h1, .int 0])), (h1, .inl (y 1, 200, .inr (.inl wf30447)))] sz)) (va_Qv (fun (u : Unit) => True) (fun u => gO D (va_A [(h0, .inr (8, [.ref h1, .int 0])), (h1, .inl (y 1, 200, .inr (.inl wf30447)))] sz) [(h0, .inr (8, [.ref h1, .int 5])), (h1, .inl (y 1, 200, .inr (.inl (vp_updL (vp_updL (vp_updL (vp_updL (vp_updL wf30447 ((0 : Int32).toNatClampNeg) 0) ((1 : Int32).toNatClampNeg) 0) ((2 : Int32).toNatClampNeg) 0) ((3 : Int32).toNatClampNeg) 0) ((4 : Int32).toNatClampNeg) 0))))]) (va_A [(h0, .inr (8, [.ref h1, .int 0])), (h1, .inl (y 1, 200, .inr (.inl wf30447)))] sz)) 0 0 (va_A [(h0, .inr (8, [.ref h1, .int 0])), (h1, .inl (y 1, 200, .inr (.inl wf30447)))] sz) := by
  refine g_of (by decide) (Nat.le_of_ble_eq_true rfl) ?_
  intro p e s m below meth c ls A hx hb hr hml hown hg hlocks hin hsz hK hP hD hS hA hAe hl
  rw [← hAe]
  replace hown : s.vm.findClass RX8 = some m.cls := hown
  replace hl : lv_has ls 5 [(0, .ref h0), (1, .int 5), (2, .long 0)] := hl
  refine lv_iconst (v := 0) hx hb dX8_addMany_0 (by decide) ?_
  refine lv_istore (lv' := [(4, .int 0), (0, .ref h0), (1, .int 5), (2, .long 0)]) hx hb dX8_addMany_1 hl (by decide) rfl ?_
  clear hl
  clear ls
  intro ls hl
  refine lv_iload hx hb dX8_addMany_3 (lv_at hl 0 rfl) ?_
  refine lv_iload_n hx hb dX8_addMany_5 rfl (lv_at hl 2 rfl) ?_
  refine lv_icmp_ge (tgt := 30) hx hb dX8_addMany_6 (by decide) (fun c9 => absurd c9 (by decide +kernel)) (fun _ => ?_)
  refine lv_iload hx hb dX8_addMany_9 (lv_at hl 0 rfl) ?_
  refine lv_aload_n hx hb dX8_addMany_11 rfl (lv_at hl 1 rfl) ?_
  refine gm_get (D := D) (ci := 8) (v := .ref h1) (C := RX8) (T := TX8) (N := 2) hx hb hg inlX8 hown hK.1 hP 0 rfl rfl 0 (by decide) tX8_0 (hg _ gw_98) rfl dX8_addMany_12 ?_
  refine va_alen hx hb hK.1 hP 1 1 rfl rfl (v := 200) rfl dX8_addMany_15 ?_
  refine lv_icmp_ge (tgt := 30) hx hb dX8_addMany_16 (by decide) (fun c9 => absurd c9 (by decide +kernel)) (fun _ => ?_)
  refine lv_aload_n hx hb dX8_addMany_19 rfl (lv_at hl 1 rfl) ?_
  refine lv_lload_n hx hb dX8_addMany_20 rfl (lv_at hl 3 rfl) ?_
  refine g_av (wr := []) (va_runV (As := [.long 0]) (rest := []) ⟨hx, hb, hml, hown, hg⟩ (k_X8_add_28 l D y aS s.heap.size h0 h1 wf30447) (cwV 1 hg ggV_RX8_19_X8_add rfl rfl rfl (by decide +kernel) ⟨Nat.le_of_ble_eq_true rfl, Nat.le_of_ble_eq_true rfl⟩) (g_preV (q := (RX8, TX8, 2)) hK hP hD [0, 1] rfl (by decide) (ci := 8) (q0 := 0) rfl rfl) rfl rfl hl.1 rfl (lv_room (Nat.le_of_ble_eq_true rfl)) dX8_addMany_21 ⟨Nat.le_of_ble_eq_true rfl, Nat.le_of_ble_eq_true rfl⟩) hP hD hS hA [0, 1] [] rfl rfl (by decide) (by decide) ?_
  clear hP hD hS
  refine fun u H locs hq hP hD hS => ?_
  replace hP : va_P D vwCl [(h0, .inr (8, [.ref h1, .int 1])), (h1, .inl (y 1, 200, .inr (.inl (vp_updL wf30447 ((0 : Int32).toNatClampNeg) 0))))] H := hP
  replace hD : va_D A [(h0, .inr (8, [.ref h1, .int 1])), (h1, .inl (y 1, 200, .inr (.inl (vp_updL wf30447 ((0 : Int32).toNatClampNeg) 0))))] := hD
  refine lv_iinc (v := 1) (lv' := [(4, .int 1), (0, .ref h0), (1, .int 5), (2, .long 0)]) hx hb dX8_addMany_24 hl (k := 0) rfl (by decide +kernel) (by decide) rfl ?_
  clear hl
  clear ls
  intro ls hl
  refine lv_goto (tgt := 3) hx hb dX8_addMany_27 (by decide) ?_
  refine lv_iload hx hb dX8_addMany_3 (lv_at hl 0 rfl) ?_
  refine lv_iload_n hx hb dX8_addMany_5 rfl (lv_at hl 2 rfl) ?_
  refine lv_icmp_ge (tgt := 30) hx hb dX8_addMany_6 (by decide) (fun c9 => absurd c9 (by decide +kernel)) (fun _ => ?_)
  refine lv_iload hx hb dX8_addMany_9 (lv_at hl 0 rfl) ?_
  refine lv_aload_n hx hb dX8_addMany_11 rfl (lv_at hl 1 rfl) ?_
  refine gm_get (D := D) (ci := 8) (v := .ref h1) (C := RX8) (T := TX8) (N := 2) hx hb hg inlX8 hown hK.1 hP 0 rfl rfl 0 (by decide) tX8_0 (hg _ gw_98) rfl dX8_addMany_12 ?_
  refine va_alen hx hb hK.1 hP 1 1 rfl rfl (v := 200) rfl dX8_addMany_15 ?_
  refine lv_icmp_ge (tgt := 30) hx hb dX8_addMany_16 (by decide) (fun c9 => absurd c9 (by decide +kernel)) (fun _ => ?_)
  refine lv_aload_n hx hb dX8_addMany_19 rfl (lv_at hl 1 rfl) ?_
  refine lv_lload_n hx hb dX8_addMany_20 rfl (lv_at hl 3 rfl) ?_
  refine g_av (wr := []) (va_runV (As := [.long 0]) (rest := []) ⟨hx, hb, hml, hown, hg⟩ (k_X8_add_29 l D y aS H.size h0 h1 (vp_updL wf30447 ((0 : Int32).toNatClampNeg) 0)) (cwV 1 hg ggV_RX8_19_X8_add rfl rfl rfl (by decide +kernel) ⟨Nat.le_of_ble_eq_true rfl, Nat.le_of_ble_eq_true rfl⟩) (g_preV (q := (RX8, TX8, 2)) hK hP hD [0, 1] rfl (by decide) (ci := 8) (q0 := 0) rfl rfl) rfl rfl hl.1 rfl (lv_room (Nat.le_of_ble_eq_true rfl)) dX8_addMany_21 ⟨Nat.le_of_ble_eq_true rfl, Nat.le_of_ble_eq_true rfl⟩) hP hD hS hA [0, 1] [] rfl rfl (by decide) (by decide) ?_
  clear hP hD hS H locs
  refine fun u H locs hq hP hD hS => ?_
  replace hP : va_P D vwCl [(h0, .inr (8, [.ref h1, .int 2])), (h1, .inl (y 1, 200, .inr (.inl (vp_updL (vp_updL wf30447 ((0 : Int32).toNatClampNeg) 0) ((1 : Int32).toNatClampNeg) 0))))] H := hP
  replace hD : va_D A [(h0, .inr (8, [.ref h1, .int 2])), (h1, .inl (y 1, 200, .inr (.inl (vp_updL (vp_updL wf30447 ((0 : Int32).toNatClampNeg) 0) ((1 : Int32).toNatClampNeg) 0))))] := hD
  refine lv_iinc (v := 2) (lv' := [(4, .int 2), (0, .ref h0), (1, .int 5), (2, .long 0)]) hx hb dX8_addMany_24 hl (k := 0) rfl (by decide +kernel) (by decide) rfl ?_
  clear hl
  clear ls
  intro ls hl
  refine lv_goto (tgt := 3) hx hb dX8_addMany_27 (by decide) ?_
  refine lv_iload hx hb dX8_addMany_3 (lv_at hl 0 rfl) ?_
  refine lv_iload_n hx hb dX8_addMany_5 rfl (lv_at hl 2 rfl) ?_
  refine lv_icmp_ge (tgt := 30) hx hb dX8_addMany_6 (by decide) (fun c9 => absurd c9 (by decide +kernel)) (fun _ => ?_)
  refine lv_iload hx hb dX8_addMany_9 (lv_at hl 0 rfl) ?_
  refine lv_aload_n hx hb dX8_addMany_11 rfl (lv_at hl 1 rfl) ?_
  refine gm_get (D := D) (ci := 8) (v := .ref h1) (C := RX8) (T := TX8) (N := 2) hx hb hg inlX8 hown hK.1 hP 0 rfl rfl 0 (by decide) tX8_0 (hg _ gw_98) rfl dX8_addMany_12 ?_
  refine va_alen hx hb hK.1 hP 1 1 rfl rfl (v := 200) rfl dX8_addMany_15 ?_
  refine lv_icmp_ge (tgt := 30) hx hb dX8_addMany_16 (by decide) (fun c9 => absurd c9 (by decide +kernel)) (fun _ => ?_)
  refine lv_aload_n hx hb dX8_addMany_19 rfl (lv_at hl 1 rfl) ?_
  refine lv_lload_n hx hb dX8_addMany_20 rfl (lv_at hl 3 rfl) ?_
  refine g_av (wr := []) (va_runV (As := [.long 0]) (rest := []) ⟨hx, hb, hml, hown, hg⟩ (k_X8_add_30 l D y aS H.size h0 h1 (vp_updL (vp_updL wf30447 ((0 : Int32).toNatClampNeg) 0) ((1 : Int32).toNatClampNeg) 0)) (cwV 1 hg ggV_RX8_19_X8_add rfl rfl rfl (by decide +kernel) ⟨Nat.le_of_ble_eq_true rfl, Nat.le_of_ble_eq_true rfl⟩) (g_preV (q := (RX8, TX8, 2)) hK hP hD [0, 1] rfl (by decide) (ci := 8) (q0 := 0) rfl rfl) rfl rfl hl.1 rfl (lv_room (Nat.le_of_ble_eq_true rfl)) dX8_addMany_21 ⟨Nat.le_of_ble_eq_true rfl, Nat.le_of_ble_eq_true rfl⟩) hP hD hS hA [0, 1] [] rfl rfl (by decide) (by decide) ?_
  clear hP hD hS H locs
  refine fun u H locs hq hP hD hS => ?_
  replace hP : va_P D vwCl [(h0, .inr (8, [.ref h1, .int 3])), (h1, .inl (y 1, 200, .inr (.inl (vp_updL (vp_updL (vp_updL wf30447 ((0 : Int32).toNatClampNeg) 0) ((1 : Int32).toNatClampNeg) 0) ((2 : Int32).toNatClampNeg) 0))))] H := hP
  replace hD : va_D A [(h0, .inr (8, [.ref h1, .int 3])), (h1, .inl (y 1, 200, .inr (.inl (vp_updL (vp_updL (vp_updL wf30447 ((0 : Int32).toNatClampNeg) 0) ((1 : Int32).toNatClampNeg) 0) ((2 : Int32).toNatClampNeg) 0))))] := hD
  refine lv_iinc (v := 3) (lv' := [(4, .int 3), (0, .ref h0), (1, .int 5), (2, .long 0)]) hx hb dX8_addMany_24 hl (k := 0) rfl (by decide +kernel) (by decide) rfl ?_
  clear hl
  clear ls
  intro ls hl
  refine lv_goto (tgt := 3) hx hb dX8_addMany_27 (by decide) ?_
  refine lv_iload hx hb dX8_addMany_3 (lv_at hl 0 rfl) ?_
  refine lv_iload_n hx hb dX8_addMany_5 rfl (lv_at hl 2 rfl) ?_
  refine lv_icmp_ge (tgt := 30) hx hb dX8_addMany_6 (by decide) (fun c9 => absurd c9 (by decide +kernel)) (fun _ => ?_)
  refine lv_iload hx hb dX8_addMany_9 (lv_at hl 0 rfl) ?_
  refine lv_aload_n hx hb dX8_addMany_11 rfl (lv_at hl 1 rfl) ?_
  refine gm_get (D := D) (ci := 8) (v := .ref h1) (C := RX8) (T := TX8) (N := 2) hx hb hg inlX8 hown hK.1 hP 0 rfl rfl 0 (by decide) tX8_0 (hg _ gw_98) rfl dX8_addMany_12 ?_
  refine va_alen hx hb hK.1 hP 1 1 rfl rfl (v := 200) rfl dX8_addMany_15 ?_
  refine lv_icmp_ge (tgt := 30) hx hb dX8_addMany_16 (by decide) (fun c9 => absurd c9 (by decide +kernel)) (fun _ => ?_)
  refine lv_aload_n hx hb dX8_addMany_19 rfl (lv_at hl 1 rfl) ?_
  refine lv_lload_n hx hb dX8_addMany_20 rfl (lv_at hl 3 rfl) ?_
  refine g_av (wr := []) (va_runV (As := [.long 0]) (rest := []) ⟨hx, hb, hml, hown, hg⟩ (k_X8_add_31 l D y aS H.size h0 h1 (vp_updL (vp_updL (vp_updL wf30447 ((0 : Int32).toNatClampNeg) 0) ((1 : Int32).toNatClampNeg) 0) ((2 : Int32).toNatClampNeg) 0)) (cwV 1 hg ggV_RX8_19_X8_add rfl rfl rfl (by decide +kernel) ⟨Nat.le_of_ble_eq_true rfl, Nat.le_of_ble_eq_true rfl⟩) (g_preV (q := (RX8, TX8, 2)) hK hP hD [0, 1] rfl (by decide) (ci := 8) (q0 := 0) rfl rfl) rfl rfl hl.1 rfl (lv_room (Nat.le_of_ble_eq_true rfl)) dX8_addMany_21 ⟨Nat.le_of_ble_eq_true rfl, Nat.le_of_ble_eq_true rfl⟩) hP hD hS hA [0, 1] [] rfl rfl (by decide) (by decide) ?_
  clear hP hD hS H locs
  refine fun u H locs hq hP hD hS => ?_
  replace hP : va_P D vwCl [(h0, .inr (8, [.ref h1, .int 4])), (h1, .inl (y 1, 200, .inr (.inl (vp_updL (vp_updL (vp_updL (vp_updL wf30447 ((0 : Int32).toNatClampNeg) 0) ((1 : Int32).toNatClampNeg) 0) ((2 : Int32).toNatClampNeg) 0) ((3 : Int32).toNatClampNeg) 0))))] H := hP
  replace hD : va_D A [(h0, .inr (8, [.ref h1, .int 4])), (h1, .inl (y 1, 200, .inr (.inl (vp_updL (vp_updL (vp_updL (vp_updL wf30447 ((0 : Int32).toNatClampNeg) 0) ((1 : Int32).toNatClampNeg) 0) ((2 : Int32).toNatClampNeg) 0) ((3 : Int32).toNatClampNeg) 0))))] := hD
  refine lv_iinc (v := 4) (lv' := [(4, .int 4), (0, .ref h0), (1, .int 5), (2, .long 0)]) hx hb dX8_addMany_24 hl (k := 0) rfl (by decide +kernel) (by decide) rfl ?_
  clear hl
  clear ls
  intro ls hl
  refine lv_goto (tgt := 3) hx hb dX8_addMany_27 (by decide) ?_
  refine lv_iload hx hb dX8_addMany_3 (lv_at hl 0 rfl) ?_
  refine lv_iload_n hx hb dX8_addMany_5 rfl (lv_at hl 2 rfl) ?_
  refine lv_icmp_ge (tgt := 30) hx hb dX8_addMany_6 (by decide) (fun c9 => absurd c9 (by decide +kernel)) (fun _ => ?_)
  refine lv_iload hx hb dX8_addMany_9 (lv_at hl 0 rfl) ?_
  refine lv_aload_n hx hb dX8_addMany_11 rfl (lv_at hl 1 rfl) ?_
  refine gm_get (D := D) (ci := 8) (v := .ref h1) (C := RX8) (T := TX8) (N := 2) hx hb hg inlX8 hown hK.1 hP 0 rfl rfl 0 (by decide) tX8_0 (hg _ gw_98) rfl dX8_addMany_12 ?_
  refine va_alen hx hb hK.1 hP 1 1 rfl rfl (v := 200) rfl dX8_addMany_15 ?_
  refine lv_icmp_ge (tgt := 30) hx hb dX8_addMany_16 (by decide) (fun c9 => absurd c9 (by decide +kernel)) (fun _ => ?_)
  refine lv_aload_n hx hb dX8_addMany_19 rfl (lv_at hl 1 rfl) ?_
  refine lv_lload_n hx hb dX8_addMany_20 rfl (lv_at hl 3 rfl) ?_
  refine g_av (wr := []) (va_runV (As := [.long 0]) (rest := []) ⟨hx, hb, hml, hown, hg⟩ (k_X8_add_32 l D y aS H.size h0 h1 (vp_updL (vp_updL (vp_updL (vp_updL wf30447 ((0 : Int32).toNatClampNeg) 0) ((1 : Int32).toNatClampNeg) 0) ((2 : Int32).toNatClampNeg) 0) ((3 : Int32).toNatClampNeg) 0)) (cwV 1 hg ggV_RX8_19_X8_add rfl rfl rfl (by decide +kernel) ⟨Nat.le_of_ble_eq_true rfl, Nat.le_of_ble_eq_true rfl⟩) (g_preV (q := (RX8, TX8, 2)) hK hP hD [0, 1] rfl (by decide) (ci := 8) (q0 := 0) rfl rfl) rfl rfl hl.1 rfl (lv_room (Nat.le_of_ble_eq_true rfl)) dX8_addMany_21 ⟨Nat.le_of_ble_eq_true rfl, Nat.le_of_ble_eq_true rfl⟩) hP hD hS hA [0, 1] [] rfl rfl (by decide) (by decide) ?_
  clear hP hD hS H locs
  refine fun u H locs hq hP hD hS => ?_
  replace hP : va_P D vwCl [(h0, .inr (8, [.ref h1, .int 5])), (h1, .inl (y 1, 200, .inr (.inl (vp_updL (vp_updL (vp_updL (vp_updL (vp_updL wf30447 ((0 : Int32).toNatClampNeg) 0) ((1 : Int32).toNatClampNeg) 0) ((2 : Int32).toNatClampNeg) 0) ((3 : Int32).toNatClampNeg) 0) ((4 : Int32).toNatClampNeg) 0))))] H := hP
  replace hD : va_D A [(h0, .inr (8, [.ref h1, .int 5])), (h1, .inl (y 1, 200, .inr (.inl (vp_updL (vp_updL (vp_updL (vp_updL (vp_updL wf30447 ((0 : Int32).toNatClampNeg) 0) ((1 : Int32).toNatClampNeg) 0) ((2 : Int32).toNatClampNeg) 0) ((3 : Int32).toNatClampNeg) 0) ((4 : Int32).toNatClampNeg) 0))))] := hD
  refine lv_iinc (v := 5) (lv' := [(4, .int 5), (0, .ref h0), (1, .int 5), (2, .long 0)]) hx hb dX8_addMany_24 hl (k := 0) rfl (by decide +kernel) (by decide) rfl ?_
  clear hl
  clear ls
  intro ls hl
  refine lv_goto (tgt := 3) hx hb dX8_addMany_27 (by decide) ?_
  refine lv_iload hx hb dX8_addMany_3 (lv_at hl 0 rfl) ?_
  refine lv_iload_n hx hb dX8_addMany_5 rfl (lv_at hl 2 rfl) ?_
  refine lv_icmp_ge (tgt := 30) hx hb dX8_addMany_6 (by decide) (fun _ => ?_) (fun c9 => absurd c9 (by decide +kernel))
  exact g_vret hx hb hr hlocks () hP hD hS trivial (Nat.le_of_ble_eq_true rfl) (Nat.le_of_ble_eq_true rfl) dX8_addMany_30
set_option maxRecDepth 100000 in
set_option maxHeartbeats 4000000 in
theorem k_X8_set_49 (l : Launch) (D : va_G) (y : Nat → ClassId) (aS : Nat → Nat) (sz : Nat) (h0 : Nat) (p1 : Int64) (h2 : Nat) (wp30455 : Int32) (wf30456 : Nat → Int64) : Met l yX8_set (Cond.code yX8_set cX8_set 4 none :: wsL_law) ({ frames := 0, cells := 0, slots := 0, locals := 0 } : Room) (va_Pc [.ref h0, .int 4, .long p1] (gI D y aS [(h0, .inr (8, [.ref h2, .int wp30455])), (h2, .inl (y 1, 200, .inr (.inl wf30456)))] sz)) (va_Qv (fun (u : Unit) => True) (fun u => gO D (va_A [(h0, .inr (8, [.ref h2, .int wp30455])), (h2, .inl (y 1, 200, .inr (.inl wf30456)))] sz) [(h0, .inr (8, [.ref h2, .int wp30455])), (h2, .inl (y 1, 200, .inr (.inl (vp_updL wf30456 ((4 : Int32).toNatClampNeg) p1))))]) (va_A [(h0, .inr (8, [.ref h2, .int wp30455])), (h2, .inl (y 1, 200, .inr (.inl wf30456)))] sz)) 0 0 (va_A [(h0, .inr (8, [.ref h2, .int wp30455])), (h2, .inl (y 1, 200, .inr (.inl wf30456)))] sz) := by
  refine g_of (by decide) (Nat.le_of_ble_eq_true rfl) ?_
  intro p e s m below meth c ls A hx hb hr hml hown hg hlocks hin hsz hK hP hD hS hA hAe hl
  rw [← hAe]
  replace hown : s.vm.findClass RX8 = some m.cls := hown
  replace hl : lv_has ls 4 [(0, .ref h0), (1, .int 4), (2, .long p1)] := hl
  refine lv_iload_n hx hb dX8_set_0 rfl (lv_at hl 1 rfl) ?_
  refine lv_if_lt (tgt := 20) hx hb dX8_set_1 (by decide) (fun c9 => absurd c9 (by decide +kernel)) (fun _ => ?_)
  refine lv_iload_n hx hb dX8_set_4 rfl (lv_at hl 1 rfl) ?_
  refine lv_aload_n hx hb dX8_set_5 rfl (lv_at hl 0 rfl) ?_
  refine gm_get (D := D) (ci := 8) (v := .ref h2) (C := RX8) (T := TX8) (N := 2) hx hb hg inlX8 hown hK.1 hP 0 rfl rfl 0 (by decide) tX8_0 (hg _ gw_98) rfl dX8_set_6 ?_
  refine va_alen hx hb hK.1 hP 1 1 rfl rfl (v := 200) rfl dX8_set_9 ?_
  refine lv_icmp_ge (tgt := 20) hx hb dX8_set_10 (by decide) (fun c9 => absurd c9 (by decide +kernel)) (fun _ => ?_)
  refine lv_aload_n hx hb dX8_set_13 rfl (lv_at hl 0 rfl) ?_
  refine gm_get (D := D) (ci := 8) (v := .ref h2) (C := RX8) (T := TX8) (N := 2) hx hb hg inlX8 hown hK.1 hP 0 rfl rfl 0 (by decide) tX8_0 (hg _ gw_98) rfl dX8_set_14 ?_
  refine lv_iload_n hx hb dX8_set_17 rfl (lv_at hl 1 rfl) ?_
  refine lv_lload_n hx hb dX8_set_18 rfl (lv_at hl 2 rfl) ?_
  refine va_last hx hb hK.1 hP hD hS 1 1 rfl rfl (by unfold vp_in; decide +kernel) dX8_set_19 ?_
  clear hP hD hS
  refine fun H locs (hP : va_P D vwCl [(h0, .inr (8, [.ref h2, .int wp30455])), (h2, .inl (y 1, 200, .inr (.inl (vp_updL wf30456 ((4 : Int32).toNatClampNeg) p1))))] H) (hD : va_D A [(h0, .inr (8, [.ref h2, .int wp30455])), (h2, .inl (y 1, 200, .inr (.inl (vp_updL wf30456 ((4 : Int32).toNatClampNeg) p1))))]) hS => ?_
  exact g_vret hx hb hr hlocks () hP hD hS trivial (Nat.le_of_ble_eq_true rfl) (Nat.le_of_ble_eq_true rfl) dX8_set_20
set_option maxRecDepth 100000 in
set_option maxHeartbeats 4000000 in
theorem k_X5_find_12 (l : Launch) (D : va_G) (y : Nat → ClassId) (aS : Nat → Nat) (sz : Nat) (h0 : Nat) (h1 : Nat) (h2 : Nat) (h3 : Nat) (h4 : Nat) (wp30480 : Int32) (h6 : Nat) (wp30481 : Int32) : Met l yX5_find (Cond.code yX5_find cX5_find 6 none :: wsL_law) ({ frames := 1, cells := 0, slots := 0, locals := 21 } : Room) (va_Pc [.ref h0, .int 0, .int 4] (gI D y aS [(h0, .inr (5, [.ref h1, .ref h2, .ref h3, .ref h4, .int wp30480])), (h4, .inr (8, [.ref h6, .int wp30481])), (h6, .inl (y 1, 3, .inr (.inl (fun _ => 0))))] sz)) (va_Qv (fun (u : Unit) => True) (fun u => gO D (va_A [(h0, .inr (5, [.ref h1, .ref h2, .ref h3, .ref h4, .int wp30480])), (h4, .inr (8, [.ref h6, .int wp30481])), (h6, .inl (y 1, 3, .inr (.inl (fun _ => 0))))] sz) [(h0, .inr (5, [.ref h1, .ref h2, .ref h3, .ref h4, .int wp30480])), (h4, .inr (8, [.ref h6, .int wp30481])), (h6, .inl (y 1, 3, .inr (.inl (fun _ => 0))))]) (va_A [(h0, .inr (5, [.ref h1, .ref h2, .ref h3, .ref h4, .int wp30480])), (h4, .inr (8, [.ref h6, .int wp30481])), (h6, .inl (y 1, 3, .inr (.inl (fun _ => 0))))] sz)) 0 0 (va_A [(h0, .inr (5, [.ref h1, .ref h2, .ref h3, .ref h4, .int wp30480])), (h4, .inr (8, [.ref h6, .int wp30481])), (h6, .inl (y 1, 3, .inr (.inl (fun _ => 0))))] sz) := by
  refine g_of (by decide) (Nat.le_of_ble_eq_true rfl) ?_
  intro p e s m below meth c ls A hx hb hr hml hown hg hlocks hin hsz hK hP hD hS hA hAe hl
  rw [← hAe]
  replace hown : s.vm.findClass RX5 = some m.cls := hown
  replace hl : lv_has ls 6 [(0, .ref h0), (1, .int 0), (2, .int 4)] := hl
  refine lv_aload_n hx hb dX5_find_0 rfl (lv_at hl 0 rfl) ?_
  refine gm_get (D := D) (ci := 5) (v := .ref h4) (C := RX5) (T := TX5) (N := 5) hx hb hg inlX5 hown hK.1 hP 0 rfl rfl 3 (by decide) tX5_3 (hg _ gw_141) rfl dX5_find_1 ?_
  refine lv_iload_n hx hb dX5_find_4 rfl (lv_at hl 1 rfl) ?_
  refine g_ai (wr := [(h0, .inr (5, [.ref h1, .ref h2, .ref h3, .ref h4, .int wp30480]))]) (va_runV (As := [.int 0]) (rest := []) ⟨hx, hb, hml, hown, hg⟩ (k_X8_whole_27 l D y aS s.heap.size h4 h6 wp30481) (cwV 1 hg ggV_RX5_50_X8_whole rfl rfl rfl (by decide +kernel) ⟨Nat.le_of_ble_eq_true rfl, Nat.le_of_ble_eq_true rfl⟩) (g_preV (q := (RX8, TX8, 2)) hK hP hD [1, 2] rfl (by decide) (ci := 8) (q0 := 1) rfl rfl) rfl rfl hl.1 rfl (lv_room (Nat.le_of_ble_eq_true rfl)) dX5_find_5 ⟨Nat.le_of_ble_eq_true rfl, Nat.le_of_ble_eq_true rfl⟩) hP hD hS hA [1, 2] [0] rfl rfl (by decide) (by decide) ?_
  clear hP hD hS
  refine fun r30482 u H locs hq hP hD hS => ?_
  subst hq
  replace hP : va_P D vwCl [(h0, .inr (5, [.ref h1, .ref h2, .ref h3, .ref h4, .int wp30480])), (h4, .inr (8, [.ref h6, .int wp30481])), (h6, .inl (y 1, 3, .inr (.inl (fun _ => 0))))] H := hP
  replace hD : va_D A [(h0, .inr (5, [.ref h1, .ref h2, .ref h3, .ref h4, .int wp30480])), (h4, .inr (8, [.ref h6, .int wp30481])), (h6, .inl (y 1, 3, .inr (.inl (fun _ => 0))))] := hD
  refine lv_istore_n (lv' := [(3, .int 0), (0, .ref h0), (1, .int 0), (2, .int 4)]) hx hb dX5_find_8 rfl hl (by decide) rfl ?_
  clear hl
  clear ls
  intro ls hl
  refine lv_iconst (v := 0) hx hb dX5_find_9 (by decide) ?_
  refine lv_istore (lv' := [(4, .int 0), (3, .int 0), (0, .ref h0), (1, .int 0), (2, .int 4)]) hx hb dX5_find_10 hl (by decide) rfl ?_
  clear hl
  clear ls
  intro ls hl
  refine lv_iload hx hb dX5_find_12 (lv_at hl 0 rfl) ?_
  refine lv_iload_n hx hb dX5_find_14 rfl (lv_at hl 1 rfl) ?_
  refine lv_icmp_ge (tgt := 67) hx hb dX5_find_15 (by decide) (fun _ => ?_) (fun c9 => absurd c9 (by decide +kernel))
  refine lv_iload_n hx hb dX5_find_67 rfl (lv_at hl 1 rfl) ?_
  refine lv_if_le (tgt := 107) hx hb dX5_find_68 (by decide) (fun _ => ?_) (fun c9 => absurd c9 (by decide +kernel))
  refine lv_iload hx hb dX5_find_107 (lv_at hl 0 rfl) ?_
  refine lv_if_le (tgt := 139) hx hb dX5_find_109 (by decide) (fun _ => ?_) (fun c9 => absurd c9 (by decide +kernel))
  exact g_vret hx hb hr hlocks () hP hD hS trivial (Nat.le_of_ble_eq_true rfl) (Nat.le_of_ble_eq_true rfl) dX5_find_139
set_option maxRecDepth 100000 in
set_option maxHeartbeats 4000000 in
theorem k_X5_find_13 (l : Launch) (D : va_G) (y : Nat → ClassId) (aS : Nat → Nat) (sz : Nat) (h0 : Nat) (h1 : Nat) (h2 : Nat) (h3 : Nat) (h4 : Nat) (wp30485 : Int32) (h6 : Nat) (wp30486 : Int32) : Met l yX5_find (Cond.code yX5_find cX5_find 6 none :: wsL_law) ({ frames := 1, cells := 0, slots := 0, locals := 21 } : Room) (va_Pc [.ref h0, .int 1, .int 4] (gI D y aS [(h0, .inr (5, [.ref h1, .ref h2, .ref h3, .ref h4, .int wp30485])), (h4, .inr (8, [.ref h6, .int wp30486])), (h6, .inl (y 1, 3, .inr (.inl (fun _ => 0))))] sz)) (va_Qv (fun (u : Unit) => True) (fun u => gO D (va_A [(h0, .inr (5, [.ref h1, .ref h2, .ref h3, .ref h4, .int wp30485])), (h4, .inr (8, [.ref h6, .int wp30486])), (h6, .inl (y 1, 3, .inr (.inl (fun _ => 0))))] sz) [(h0, .inr (5, [.ref h1, .ref h2, .ref h3, .ref h4, .int wp30485])), (h4, .inr (8, [.ref h6, .int wp30486])), (h6, .inl (y 1, 3, .inr (.inl (fun _ => 0))))]) (va_A [(h0, .inr (5, [.ref h1, .ref h2, .ref h3, .ref h4, .int wp30485])), (h4, .inr (8, [.ref h6, .int wp30486])), (h6, .inl (y 1, 3, .inr (.inl (fun _ => 0))))] sz)) 0 0 (va_A [(h0, .inr (5, [.ref h1, .ref h2, .ref h3, .ref h4, .int wp30485])), (h4, .inr (8, [.ref h6, .int wp30486])), (h6, .inl (y 1, 3, .inr (.inl (fun _ => 0))))] sz) := by
  refine g_of (by decide) (Nat.le_of_ble_eq_true rfl) ?_
  intro p e s m below meth c ls A hx hb hr hml hown hg hlocks hin hsz hK hP hD hS hA hAe hl
  rw [← hAe]
  replace hown : s.vm.findClass RX5 = some m.cls := hown
  replace hl : lv_has ls 6 [(0, .ref h0), (1, .int 1), (2, .int 4)] := hl
  refine lv_aload_n hx hb dX5_find_0 rfl (lv_at hl 0 rfl) ?_
  refine gm_get (D := D) (ci := 5) (v := .ref h4) (C := RX5) (T := TX5) (N := 5) hx hb hg inlX5 hown hK.1 hP 0 rfl rfl 3 (by decide) tX5_3 (hg _ gw_141) rfl dX5_find_1 ?_
  refine lv_iload_n hx hb dX5_find_4 rfl (lv_at hl 1 rfl) ?_
  refine g_ai (wr := [(h0, .inr (5, [.ref h1, .ref h2, .ref h3, .ref h4, .int wp30485]))]) (va_runV (As := [.int 1]) (rest := []) ⟨hx, hb, hml, hown, hg⟩ (k_X8_whole_28 l D y aS s.heap.size h4 h6 wp30486) (cwV 1 hg ggV_RX5_50_X8_whole rfl rfl rfl (by decide +kernel) ⟨Nat.le_of_ble_eq_true rfl, Nat.le_of_ble_eq_true rfl⟩) (g_preV (q := (RX8, TX8, 2)) hK hP hD [1, 2] rfl (by decide) (ci := 8) (q0 := 1) rfl rfl) rfl rfl hl.1 rfl (lv_room (Nat.le_of_ble_eq_true rfl)) dX5_find_5 ⟨Nat.le_of_ble_eq_true rfl, Nat.le_of_ble_eq_true rfl⟩) hP hD hS hA [1, 2] [0] rfl rfl (by decide) (by decide) ?_
  clear hP hD hS
  refine fun r30487 u H locs hq hP hD hS => ?_
  subst hq
  replace hP : va_P D vwCl [(h0, .inr (5, [.ref h1, .ref h2, .ref h3, .ref h4, .int wp30485])), (h4, .inr (8, [.ref h6, .int wp30486])), (h6, .inl (y 1, 3, .inr (.inl (fun _ => 0))))] H := hP
  replace hD : va_D A [(h0, .inr (5, [.ref h1, .ref h2, .ref h3, .ref h4, .int wp30485])), (h4, .inr (8, [.ref h6, .int wp30486])), (h6, .inl (y 1, 3, .inr (.inl (fun _ => 0))))] := hD
  refine lv_istore_n (lv' := [(3, .int 0), (0, .ref h0), (1, .int 1), (2, .int 4)]) hx hb dX5_find_8 rfl hl (by decide) rfl ?_
  clear hl
  clear ls
  intro ls hl
  refine lv_iconst (v := 0) hx hb dX5_find_9 (by decide) ?_
  refine lv_istore (lv' := [(4, .int 0), (3, .int 0), (0, .ref h0), (1, .int 1), (2, .int 4)]) hx hb dX5_find_10 hl (by decide) rfl ?_
  clear hl
  clear ls
  intro ls hl
  refine lv_iload hx hb dX5_find_12 (lv_at hl 0 rfl) ?_
  refine lv_iload_n hx hb dX5_find_14 rfl (lv_at hl 1 rfl) ?_
  refine lv_icmp_ge (tgt := 67) hx hb dX5_find_15 (by decide) (fun _ => ?_) (fun c9 => absurd c9 (by decide +kernel))
  refine lv_iload_n hx hb dX5_find_67 rfl (lv_at hl 1 rfl) ?_
  refine lv_if_le (tgt := 107) hx hb dX5_find_68 (by decide) (fun _ => ?_) (fun c9 => absurd c9 (by decide +kernel))
  refine lv_iload hx hb dX5_find_107 (lv_at hl 0 rfl) ?_
  refine lv_if_le (tgt := 139) hx hb dX5_find_109 (by decide) (fun _ => ?_) (fun c9 => absurd c9 (by decide +kernel))
  exact g_vret hx hb hr hlocks () hP hD hS trivial (Nat.le_of_ble_eq_true rfl) (Nat.le_of_ble_eq_true rfl) dX5_find_139
set_option maxRecDepth 100000 in
set_option maxHeartbeats 4000000 in
theorem k_X5_find_14 (l : Launch) (D : va_G) (y : Nat → ClassId) (aS : Nat → Nat) (sz : Nat) (h0 : Nat) (h1 : Nat) (h2 : Nat) (h3 : Nat) (h4 : Nat) (wp30490 : Int32) (h6 : Nat) (wp30491 : Int32) : Met l yX5_find (Cond.code yX5_find cX5_find 6 none :: wsL_law) ({ frames := 1, cells := 0, slots := 0, locals := 21 } : Room) (va_Pc [.ref h0, .int 2, .int 4] (gI D y aS [(h0, .inr (5, [.ref h1, .ref h2, .ref h3, .ref h4, .int wp30490])), (h4, .inr (8, [.ref h6, .int wp30491])), (h6, .inl (y 1, 3, .inr (.inl (fun _ => 0))))] sz)) (va_Qv (fun (u : Unit) => True) (fun u => gO D (va_A [(h0, .inr (5, [.ref h1, .ref h2, .ref h3, .ref h4, .int wp30490])), (h4, .inr (8, [.ref h6, .int wp30491])), (h6, .inl (y 1, 3, .inr (.inl (fun _ => 0))))] sz) [(h0, .inr (5, [.ref h1, .ref h2, .ref h3, .ref h4, .int wp30490])), (h4, .inr (8, [.ref h6, .int wp30491])), (h6, .inl (y 1, 3, .inr (.inl (fun _ => 0))))]) (va_A [(h0, .inr (5, [.ref h1, .ref h2, .ref h3, .ref h4, .int wp30490])), (h4, .inr (8, [.ref h6, .int wp30491])), (h6, .inl (y 1, 3, .inr (.inl (fun _ => 0))))] sz)) 0 0 (va_A [(h0, .inr (5, [.ref h1, .ref h2, .ref h3, .ref h4, .int wp30490])), (h4, .inr (8, [.ref h6, .int wp30491])), (h6, .inl (y 1, 3, .inr (.inl (fun _ => 0))))] sz) := by
  refine g_of (by decide) (Nat.le_of_ble_eq_true rfl) ?_
  intro p e s m below meth c ls A hx hb hr hml hown hg hlocks hin hsz hK hP hD hS hA hAe hl
  rw [← hAe]
  replace hown : s.vm.findClass RX5 = some m.cls := hown
  replace hl : lv_has ls 6 [(0, .ref h0), (1, .int 2), (2, .int 4)] := hl
  refine lv_aload_n hx hb dX5_find_0 rfl (lv_at hl 0 rfl) ?_
  refine gm_get (D := D) (ci := 5) (v := .ref h4) (C := RX5) (T := TX5) (N := 5) hx hb hg inlX5 hown hK.1 hP 0 rfl rfl 3 (by decide) tX5_3 (hg _ gw_141) rfl dX5_find_1 ?_
  refine lv_iload_n hx hb dX5_find_4 rfl (lv_at hl 1 rfl) ?_
  refine g_ai (wr := [(h0, .inr (5, [.ref h1, .ref h2, .ref h3, .ref h4, .int wp30490]))]) (va_runV (As := [.int 2]) (rest := []) ⟨hx, hb, hml, hown, hg⟩ (k_X8_whole_29 l D y aS s.heap.size h4 h6 wp30491) (cwV 1 hg ggV_RX5_50_X8_whole rfl rfl rfl (by decide +kernel) ⟨Nat.le_of_ble_eq_true rfl, Nat.le_of_ble_eq_true rfl⟩) (g_preV (q := (RX8, TX8, 2)) hK hP hD [1, 2] rfl (by decide) (ci := 8) (q0 := 1) rfl rfl) rfl rfl hl.1 rfl (lv_room (Nat.le_of_ble_eq_true rfl)) dX5_find_5 ⟨Nat.le_of_ble_eq_true rfl, Nat.le_of_ble_eq_true rfl⟩) hP hD hS hA [1, 2] [0] rfl rfl (by decide) (by decide) ?_
  clear hP hD hS
  refine fun r30492 u H locs hq hP hD hS => ?_
  subst hq
  replace hP : va_P D vwCl [(h0, .inr (5, [.ref h1, .ref h2, .ref h3, .ref h4, .int wp30490])), (h4, .inr (8, [.ref h6, .int wp30491])), (h6, .inl (y 1, 3, .inr (.inl (fun _ => 0))))] H := hP
  replace hD : va_D A [(h0, .inr (5, [.ref h1, .ref h2, .ref h3, .ref h4, .int wp30490])), (h4, .inr (8, [.ref h6, .int wp30491])), (h6, .inl (y 1, 3, .inr (.inl (fun _ => 0))))] := hD
  refine lv_istore_n (lv' := [(3, .int 0), (0, .ref h0), (1, .int 2), (2, .int 4)]) hx hb dX5_find_8 rfl hl (by decide) rfl ?_
  clear hl
  clear ls
  intro ls hl
  refine lv_iconst (v := 0) hx hb dX5_find_9 (by decide) ?_
  refine lv_istore (lv' := [(4, .int 0), (3, .int 0), (0, .ref h0), (1, .int 2), (2, .int 4)]) hx hb dX5_find_10 hl (by decide) rfl ?_
  clear hl
  clear ls
  intro ls hl
  refine lv_iload hx hb dX5_find_12 (lv_at hl 0 rfl) ?_
  refine lv_iload_n hx hb dX5_find_14 rfl (lv_at hl 1 rfl) ?_
  refine lv_icmp_ge (tgt := 67) hx hb dX5_find_15 (by decide) (fun _ => ?_) (fun c9 => absurd c9 (by decide +kernel))
  refine lv_iload_n hx hb dX5_find_67 rfl (lv_at hl 1 rfl) ?_
  refine lv_if_le (tgt := 107) hx hb dX5_find_68 (by decide) (fun _ => ?_) (fun c9 => absurd c9 (by decide +kernel))
  refine lv_iload hx hb dX5_find_107 (lv_at hl 0 rfl) ?_
  refine lv_if_le (tgt := 139) hx hb dX5_find_109 (by decide) (fun _ => ?_) (fun c9 => absurd c9 (by decide +kernel))
  exact g_vret hx hb hr hlocks () hP hD hS trivial (Nat.le_of_ble_eq_true rfl) (Nat.le_of_ble_eq_true rfl) dX5_find_139
set_option maxRecDepth 100000 in
set_option maxHeartbeats 4000000 in
theorem k_X5_findOut_5 (l : Launch) (D : va_G) (y : Nat → ClassId) (aS : Nat → Nat) (sz : Nat) (h0 : Nat) (h1 : Nat) (h2 : Nat) (h3 : Nat) (h4 : Nat) (wp30494 : Int32) (h6 : Nat) (h7 : Nat) (wp30495 : Int32) (wf30496 : Nat → Int64) (h10 : Nat) (wp30497 : Int32) : Met l yX5_findOut (Cond.code yX5_findOut cX5_findOut 3 none :: wsL_law) ({ frames := 2, cells := 0, slots := 0, locals := 46 } : Room) (va_Pc [.ref h0] (gI D y aS [(h0, .inr (5, [.ref h1, .ref h2, .ref h3, .ref h4, .int wp30494])), (h1, .inr (8, [.ref h6, .int 5])), (h2, .inr (8, [.ref h7, .int wp30495])), (h7, .inl (y 1, 200, .inr (.inl wf30496))), (h4, .inr (8, [.ref h10, .int wp30497])), (h10, .inl (y 1, 3, .inr (.inl (fun _ => 0))))] sz)) (va_Qv (fun (u : Unit) => True) (fun u => gO D (va_A [(h0, .inr (5, [.ref h1, .ref h2, .ref h3, .ref h4, .int wp30494])), (h1, .inr (8, [.ref h6, .int 5])), (h2, .inr (8, [.ref h7, .int wp30495])), (h7, .inl (y 1, 200, .inr (.inl wf30496))), (h4, .inr (8, [.ref h10, .int wp30497])), (h10, .inl (y 1, 3, .inr (.inl (fun _ => 0))))] sz) [(h0, .inr (5, [.ref h1, .ref h2, .ref h3, .ref h4, .int 5])), (h1, .inr (8, [.ref h6, .int 5])), (h2, .inr (8, [.ref h7, .int wp30495])), (h7, .inl (y 1, 200, .inr (.inl (vp_updL (vp_updL (vp_updL (vp_updL (vp_updL wf30496 ((0 : Int32).toNatClampNeg) 0) ((1 : Int32).toNatClampNeg) 0) ((2 : Int32).toNatClampNeg) 0) ((3 : Int32).toNatClampNeg) 0) ((4 : Int32).toNatClampNeg) 0)))), (h4, .inr (8, [.ref h10, .int wp30497])), (h10, .inl (y 1, 3, .inr (.inl (fun _ => 0))))]) (va_A [(h0, .inr (5, [.ref h1, .ref h2, .ref h3, .ref h4, .int wp30494])), (h1, .inr (8, [.ref h6, .int 5])), (h2, .inr (8, [.ref h7, .int wp30495])), (h7, .inl (y 1, 200, .inr (.inl wf30496))), (h4, .inr (8, [.ref h10, .int wp30497])), (h10, .inl (y 1, 3, .inr (.inl (fun _ => 0))))] sz)) 0 0 (va_A [(h0, .inr (5, [.ref h1, .ref h2, .ref h3, .ref h4, .int wp30494])), (h1, .inr (8, [.ref h6, .int 5])), (h2, .inr (8, [.ref h7, .int wp30495])), (h7, .inl (y 1, 200, .inr (.inl wf30496))), (h4, .inr (8, [.ref h10, .int wp30497])), (h10, .inl (y 1, 3, .inr (.inl (fun _ => 0))))] sz) := by
  refine g_of (by decide) (Nat.le_of_ble_eq_true rfl) ?_
  intro p e s m below meth c ls A hx hb hr hml hown hg hlocks hin hsz hK hP hD hS hA hAe hl
  rw [← hAe]
  replace hown : s.vm.findClass RX5 = some m.cls := hown
  replace hl : lv_has ls 3 [(0, .ref h0)] := hl
  refine lv_aload_n hx hb dX5_findOut_0 rfl (lv_at hl 0 rfl) ?_
  refine lv_aload_n hx hb dX5_findOut_1 rfl (lv_at hl 0 rfl) ?_
  refine gm_get (D := D) (ci := 5) (v := .ref h1) (C := RX5) (T := TX5) (N := 5) hx hb hg inlX5 hown hK.1 hP 0 rfl rfl 0 (by decide) tX5_0 (hg _ gw_138) rfl dX5_findOut_2 ?_
  refine gm_get (D := D) (ci := 8) (v := .int 5) (C := RX8) (T := TX8) (N := 2) hx hb hg inlX8 hown hK.1 hP 1 rfl rfl 1 (by decide) tX8_1 (hg _ gw_1441) rfl dX5_findOut_5 ?_
  refine gm_put (D := D) (ci := 5) (v := .int 5) (ty := .int) (C := RX5) (T := TX5) (N := 5) hx hb hg inlX5 tyX5 tyX5_ok nmX5 hown hK.1 hP hD hS 0 rfl rfl 4 (by decide) tX5_4 (hg _ gw_1442) (by decide +kernel) rfl rfl (Nat.le_of_ble_eq_true rfl) dX5_findOut_8 ?_
  clear hP hD hS
  refine fun H locs (hP : va_P D vwCl [(h0, .inr (5, [.ref h1, .ref h2, .ref h3, .ref h4, .int 5])), (h1, .inr (8, [.ref h6, .int 5])), (h2, .inr (8, [.ref h7, .int wp30495])), (h7, .inl (y 1, 200, .inr (.inl wf30496))), (h4, .inr (8, [.ref h10, .int wp30497])), (h10, .inl (y 1, 3, .inr (.inl (fun _ => 0))))] H) (hD : va_D A [(h0, .inr (5, [.ref h1, .ref h2, .ref h3, .ref h4, .int 5])), (h1, .inr (8, [.ref h6, .int 5])), (h2, .inr (8, [.ref h7, .int wp30495])), (h7, .inl (y 1, 200, .inr (.inl wf30496))), (h4, .inr (8, [.ref h10, .int wp30497])), (h10, .inl (y 1, 3, .inr (.inl (fun _ => 0))))]) hS => ?_
  refine lv_iconst (v := 0) hx hb dX5_findOut_11 (by decide) ?_
  refine lv_istore_n (lv' := [(1, .int 0), (0, .ref h0)]) hx hb dX5_findOut_12 rfl hl (by decide) rfl ?_
  clear hl
  clear ls
  intro ls hl
  refine lv_iload_n hx hb dX5_findOut_13 rfl (lv_at hl 0 rfl) ?_
  refine lv_aload_n hx hb dX5_findOut_14 rfl (lv_at hl 1 rfl) ?_
  refine gm_get (D := D) (ci := 5) (v := .ref h1) (C := RX5) (T := TX5) (N := 5) hx hb hg inlX5 hown hK.1 hP 0 rfl rfl 0 (by decide) tX5_0 (hg _ gw_138) rfl dX5_findOut_15 ?_
  refine gm_get (D := D) (ci := 8) (v := .int 5) (C := RX8) (T := TX8) (N := 2) hx hb hg inlX8 hown hK.1 hP 1 rfl rfl 1 (by decide) tX8_1 (hg _ gw_1441) rfl dX5_findOut_18 ?_
  refine lv_icmp_ge (tgt := 39) hx hb dX5_findOut_21 (by decide) (fun c9 => absurd c9 (by decide +kernel)) (fun _ => ?_)
  refine lv_aload_n hx hb dX5_findOut_24 rfl (lv_at hl 1 rfl) ?_
  refine gm_get (D := D) (ci := 5) (v := .ref h2) (C := RX5) (T := TX5) (N := 5) hx hb hg inlX5 hown hK.1 hP 0 rfl rfl 1 (by decide) tX5_1 (hg _ gw_139) rfl dX5_findOut_25 ?_
  refine lv_iload_n hx hb dX5_findOut_28 rfl (lv_at hl 0 rfl) ?_
  refine lv_lconst (v := 0) hx hb dX5_findOut_29 (by decide) ?_
  refine g_av (wr := [(h0, .inr (5, [.ref h1, .ref h2, .ref h3, .ref h4, .int 5])), (h1, .inr (8, [.ref h6, .int 5])), (h4, .inr (8, [.ref h10, .int wp30497])), (h10, .inl (y 1, 3, .inr (.inl (fun _ => 0))))]) (va_runV (As := [.int 0, .long 0]) (rest := []) ⟨hx, hb, hml, hown, hg⟩ (k_X8_set_45 l D y aS H.size h2 0 h7 wp30495 wf30496) (cwV 2 hg ggV_RX5_29_X8_set rfl rfl rfl (by decide +kernel) ⟨Nat.le_of_ble_eq_true rfl, Nat.le_of_ble_eq_true rfl⟩) (g_preV (q := (RX8, TX8, 2)) hK hP hD [2, 3] rfl (by decide) (ci := 8) (q0 := 2) rfl rfl) rfl rfl hl.1 rfl (lv_room (Nat.le_of_ble_eq_true rfl)) dX5_findOut_30 ⟨Nat.le_of_ble_eq_true rfl, Nat.le_of_ble_eq_true rfl⟩) hP hD hS hA [2, 3] [0, 1, 4, 5] rfl rfl (by decide) (by decide) ?_
  clear hP hD hS H locs
  refine fun u H locs hq hP hD hS => ?_
  replace hP : va_P D vwCl [(h0, .inr (5, [.ref h1, .ref h2, .ref h3, .ref h4, .int 5])), (h1, .inr (8, [.ref h6, .int 5])), (h4, .inr (8, [.ref h10, .int wp30497])), (h10, .inl (y 1, 3, .inr (.inl (fun _ => 0)))), (h2, .inr (8, [.ref h7, .int wp30495])), (h7, .inl (y 1, 200, .inr (.inl (vp_updL wf30496 ((0 : Int32).toNatClampNeg) 0))))] H := hP
  replace hD : va_D A [(h0, .inr (5, [.ref h1, .ref h2, .ref h3, .ref h4, .int 5])), (h1, .inr (8, [.ref h6, .int 5])), (h4, .inr (8, [.ref h10, .int wp30497])), (h10, .inl (y 1, 3, .inr (.inl (fun _ => 0)))), (h2, .inr (8, [.ref h7, .int wp30495])), (h7, .inl (y 1, 200, .inr (.inl (vp_updL wf30496 ((0 : Int32).toNatClampNeg) 0))))] := hD
  refine lv_iinc (v := 1) (lv' := [(1, .int 1), (0, .ref h0)]) hx hb dX5_findOut_33 hl (k := 0) rfl (by decide +kernel) (by decide) rfl ?_
  clear hl
  clear ls
  intro ls hl
  refine lv_goto (tgt := 13) hx hb dX5_findOut_36 (by decide) ?_
  refine lv_iload_n hx hb dX5_findOut_13 rfl (lv_at hl 0 rfl) ?_
  refine lv_aload_n hx hb dX5_findOut_14 rfl (lv_at hl 1 rfl) ?_
  refine gm_get (D := D) (ci := 5) (v := .ref h1) (C := RX5) (T := TX5) (N := 5) hx hb hg inlX5 hown hK.1 hP 0 rfl rfl 0 (by decide) tX5_0 (hg _ gw_138) rfl dX5_findOut_15 ?_
  refine gm_get (D := D) (ci := 8) (v := .int 5) (C := RX8) (T := TX8) (N := 2) hx hb hg inlX8 hown hK.1 hP 1 rfl rfl 1 (by decide) tX8_1 (hg _ gw_1441) rfl dX5_findOut_18 ?_
  refine lv_icmp_ge (tgt := 39) hx hb dX5_findOut_21 (by decide) (fun c9 => absurd c9 (by decide +kernel)) (fun _ => ?_)
  refine lv_aload_n hx hb dX5_findOut_24 rfl (lv_at hl 1 rfl) ?_
  refine gm_get (D := D) (ci := 5) (v := .ref h2) (C := RX5) (T := TX5) (N := 5) hx hb hg inlX5 hown hK.1 hP 0 rfl rfl 1 (by decide) tX5_1 (hg _ gw_139) rfl dX5_findOut_25 ?_
  refine lv_iload_n hx hb dX5_findOut_28 rfl (lv_at hl 0 rfl) ?_
  refine lv_lconst (v := 0) hx hb dX5_findOut_29 (by decide) ?_
  refine g_av (wr := [(h0, .inr (5, [.ref h1, .ref h2, .ref h3, .ref h4, .int 5])), (h1, .inr (8, [.ref h6, .int 5])), (h4, .inr (8, [.ref h10, .int wp30497])), (h10, .inl (y 1, 3, .inr (.inl (fun _ => 0))))]) (va_runV (As := [.int 1, .long 0]) (rest := []) ⟨hx, hb, hml, hown, hg⟩ (k_X8_set_46 l D y aS H.size h2 0 h7 wp30495 (vp_updL wf30496 ((0 : Int32).toNatClampNeg) 0)) (cwV 2 hg ggV_RX5_29_X8_set rfl rfl rfl (by decide +kernel) ⟨Nat.le_of_ble_eq_true rfl, Nat.le_of_ble_eq_true rfl⟩) (g_preV (q := (RX8, TX8, 2)) hK hP hD [4, 5] rfl (by decide) (ci := 8) (q0 := 4) rfl rfl) rfl rfl hl.1 rfl (lv_room (Nat.le_of_ble_eq_true rfl)) dX5_findOut_30 ⟨Nat.le_of_ble_eq_true rfl, Nat.le_of_ble_eq_true rfl⟩) hP hD hS hA [4, 5] [0, 1, 2, 3] rfl rfl (by decide) (by decide) ?_
  clear hP hD hS H locs
  refine fun u H locs hq hP hD hS => ?_
  replace hP : va_P D vwCl [(h0, .inr (5, [.ref h1, .ref h2, .ref h3, .ref h4, .int 5])), (h1, .inr (8, [.ref h6, .int 5])), (h4, .inr (8, [.ref h10, .int wp30497])), (h10, .inl (y 1, 3, .inr (.inl (fun _ => 0)))), (h2, .inr (8, [.ref h7, .int wp30495])), (h7, .inl (y 1, 200, .inr (.inl (vp_updL (vp_updL wf30496 ((0 : Int32).toNatClampNeg) 0) ((1 : Int32).toNatClampNeg) 0))))] H := hP
  replace hD : va_D A [(h0, .inr (5, [.ref h1, .ref h2, .ref h3, .ref h4, .int 5])), (h1, .inr (8, [.ref h6, .int 5])), (h4, .inr (8, [.ref h10, .int wp30497])), (h10, .inl (y 1, 3, .inr (.inl (fun _ => 0)))), (h2, .inr (8, [.ref h7, .int wp30495])), (h7, .inl (y 1, 200, .inr (.inl (vp_updL (vp_updL wf30496 ((0 : Int32).toNatClampNeg) 0) ((1 : Int32).toNatClampNeg) 0))))] := hD
  refine lv_iinc (v := 2) (lv' := [(1, .int 2), (0, .ref h0)]) hx hb dX5_findOut_33 hl (k := 0) rfl (by decide +kernel) (by decide) rfl ?_
  clear hl
  clear ls
  intro ls hl
  refine lv_goto (tgt := 13) hx hb dX5_findOut_36 (by decide) ?_
  refine lv_iload_n hx hb dX5_findOut_13 rfl (lv_at hl 0 rfl) ?_
  refine lv_aload_n hx hb dX5_findOut_14 rfl (lv_at hl 1 rfl) ?_
  refine gm_get (D := D) (ci := 5) (v := .ref h1) (C := RX5) (T := TX5) (N := 5) hx hb hg inlX5 hown hK.1 hP 0 rfl rfl 0 (by decide) tX5_0 (hg _ gw_138) rfl dX5_findOut_15 ?_
  refine gm_get (D := D) (ci := 8) (v := .int 5) (C := RX8) (T := TX8) (N := 2) hx hb hg inlX8 hown hK.1 hP 1 rfl rfl 1 (by decide) tX8_1 (hg _ gw_1441) rfl dX5_findOut_18 ?_
  refine lv_icmp_ge (tgt := 39) hx hb dX5_findOut_21 (by decide) (fun c9 => absurd c9 (by decide +kernel)) (fun _ => ?_)
  refine lv_aload_n hx hb dX5_findOut_24 rfl (lv_at hl 1 rfl) ?_
  refine gm_get (D := D) (ci := 5) (v := .ref h2) (C := RX5) (T := TX5) (N := 5) hx hb hg inlX5 hown hK.1 hP 0 rfl rfl 1 (by decide) tX5_1 (hg _ gw_139) rfl dX5_findOut_25 ?_
  refine lv_iload_n hx hb dX5_findOut_28 rfl (lv_at hl 0 rfl) ?_
  refine lv_lconst (v := 0) hx hb dX5_findOut_29 (by decide) ?_
  refine g_av (wr := [(h0, .inr (5, [.ref h1, .ref h2, .ref h3, .ref h4, .int 5])), (h1, .inr (8, [.ref h6, .int 5])), (h4, .inr (8, [.ref h10, .int wp30497])), (h10, .inl (y 1, 3, .inr (.inl (fun _ => 0))))]) (va_runV (As := [.int 2, .long 0]) (rest := []) ⟨hx, hb, hml, hown, hg⟩ (k_X8_set_47 l D y aS H.size h2 0 h7 wp30495 (vp_updL (vp_updL wf30496 ((0 : Int32).toNatClampNeg) 0) ((1 : Int32).toNatClampNeg) 0)) (cwV 2 hg ggV_RX5_29_X8_set rfl rfl rfl (by decide +kernel) ⟨Nat.le_of_ble_eq_true rfl, Nat.le_of_ble_eq_true rfl⟩) (g_preV (q := (RX8, TX8, 2)) hK hP hD [4, 5] rfl (by decide) (ci := 8) (q0 := 4) rfl rfl) rfl rfl hl.1 rfl (lv_room (Nat.le_of_ble_eq_true rfl)) dX5_findOut_30 ⟨Nat.le_of_ble_eq_true rfl, Nat.le_of_ble_eq_true rfl⟩) hP hD hS hA [4, 5] [0, 1, 2, 3] rfl rfl (by decide) (by decide) ?_
  clear hP hD hS H locs
  refine fun u H locs hq hP hD hS => ?_
  replace hP : va_P D vwCl [(h0, .inr (5, [.ref h1, .ref h2, .ref h3, .ref h4, .int 5])), (h1, .inr (8, [.ref h6, .int 5])), (h4, .inr (8, [.ref h10, .int wp30497])), (h10, .inl (y 1, 3, .inr (.inl (fun _ => 0)))), (h2, .inr (8, [.ref h7, .int wp30495])), (h7, .inl (y 1, 200, .inr (.inl (vp_updL (vp_updL (vp_updL wf30496 ((0 : Int32).toNatClampNeg) 0) ((1 : Int32).toNatClampNeg) 0) ((2 : Int32).toNatClampNeg) 0))))] H := hP
  replace hD : va_D A [(h0, .inr (5, [.ref h1, .ref h2, .ref h3, .ref h4, .int 5])), (h1, .inr (8, [.ref h6, .int 5])), (h4, .inr (8, [.ref h10, .int wp30497])), (h10, .inl (y 1, 3, .inr (.inl (fun _ => 0)))), (h2, .inr (8, [.ref h7, .int wp30495])), (h7, .inl (y 1, 200, .inr (.inl (vp_updL (vp_updL (vp_updL wf30496 ((0 : Int32).toNatClampNeg) 0) ((1 : Int32).toNatClampNeg) 0) ((2 : Int32).toNatClampNeg) 0))))] := hD
  refine lv_iinc (v := 3) (lv' := [(1, .int 3), (0, .ref h0)]) hx hb dX5_findOut_33 hl (k := 0) rfl (by decide +kernel) (by decide) rfl ?_
  clear hl
  clear ls
  intro ls hl
  refine lv_goto (tgt := 13) hx hb dX5_findOut_36 (by decide) ?_
  refine lv_iload_n hx hb dX5_findOut_13 rfl (lv_at hl 0 rfl) ?_
  refine lv_aload_n hx hb dX5_findOut_14 rfl (lv_at hl 1 rfl) ?_
  refine gm_get (D := D) (ci := 5) (v := .ref h1) (C := RX5) (T := TX5) (N := 5) hx hb hg inlX5 hown hK.1 hP 0 rfl rfl 0 (by decide) tX5_0 (hg _ gw_138) rfl dX5_findOut_15 ?_
  refine gm_get (D := D) (ci := 8) (v := .int 5) (C := RX8) (T := TX8) (N := 2) hx hb hg inlX8 hown hK.1 hP 1 rfl rfl 1 (by decide) tX8_1 (hg _ gw_1441) rfl dX5_findOut_18 ?_
  refine lv_icmp_ge (tgt := 39) hx hb dX5_findOut_21 (by decide) (fun c9 => absurd c9 (by decide +kernel)) (fun _ => ?_)
  refine lv_aload_n hx hb dX5_findOut_24 rfl (lv_at hl 1 rfl) ?_
  refine gm_get (D := D) (ci := 5) (v := .ref h2) (C := RX5) (T := TX5) (N := 5) hx hb hg inlX5 hown hK.1 hP 0 rfl rfl 1 (by decide) tX5_1 (hg _ gw_139) rfl dX5_findOut_25 ?_
  refine lv_iload_n hx hb dX5_findOut_28 rfl (lv_at hl 0 rfl) ?_
  refine lv_lconst (v := 0) hx hb dX5_findOut_29 (by decide) ?_
  refine g_av (wr := [(h0, .inr (5, [.ref h1, .ref h2, .ref h3, .ref h4, .int 5])), (h1, .inr (8, [.ref h6, .int 5])), (h4, .inr (8, [.ref h10, .int wp30497])), (h10, .inl (y 1, 3, .inr (.inl (fun _ => 0))))]) (va_runV (As := [.int 3, .long 0]) (rest := []) ⟨hx, hb, hml, hown, hg⟩ (k_X8_set_48 l D y aS H.size h2 0 h7 wp30495 (vp_updL (vp_updL (vp_updL wf30496 ((0 : Int32).toNatClampNeg) 0) ((1 : Int32).toNatClampNeg) 0) ((2 : Int32).toNatClampNeg) 0)) (cwV 2 hg ggV_RX5_29_X8_set rfl rfl rfl (by decide +kernel) ⟨Nat.le_of_ble_eq_true rfl, Nat.le_of_ble_eq_true rfl⟩) (g_preV (q := (RX8, TX8, 2)) hK hP hD [4, 5] rfl (by decide) (ci := 8) (q0 := 4) rfl rfl) rfl rfl hl.1 rfl (lv_room (Nat.le_of_ble_eq_true rfl)) dX5_findOut_30 ⟨Nat.le_of_ble_eq_true rfl, Nat.le_of_ble_eq_true rfl⟩) hP hD hS hA [4, 5] [0, 1, 2, 3] rfl rfl (by decide) (by decide) ?_
  clear hP hD hS H locs
  refine fun u H locs hq hP hD hS => ?_
  replace hP : va_P D vwCl [(h0, .inr (5, [.ref h1, .ref h2, .ref h3, .ref h4, .int 5])), (h1, .inr (8, [.ref h6, .int 5])), (h4, .inr (8, [.ref h10, .int wp30497])), (h10, .inl (y 1, 3, .inr (.inl (fun _ => 0)))), (h2, .inr (8, [.ref h7, .int wp30495])), (h7, .inl (y 1, 200, .inr (.inl (vp_updL (vp_updL (vp_updL (vp_updL wf30496 ((0 : Int32).toNatClampNeg) 0) ((1 : Int32).toNatClampNeg) 0) ((2 : Int32).toNatClampNeg) 0) ((3 : Int32).toNatClampNeg) 0))))] H := hP
  replace hD : va_D A [(h0, .inr (5, [.ref h1, .ref h2, .ref h3, .ref h4, .int 5])), (h1, .inr (8, [.ref h6, .int 5])), (h4, .inr (8, [.ref h10, .int wp30497])), (h10, .inl (y 1, 3, .inr (.inl (fun _ => 0)))), (h2, .inr (8, [.ref h7, .int wp30495])), (h7, .inl (y 1, 200, .inr (.inl (vp_updL (vp_updL (vp_updL (vp_updL wf30496 ((0 : Int32).toNatClampNeg) 0) ((1 : Int32).toNatClampNeg) 0) ((2 : Int32).toNatClampNeg) 0) ((3 : Int32).toNatClampNeg) 0))))] := hD
  refine lv_iinc (v := 4) (lv' := [(1, .int 4), (0, .ref h0)]) hx hb dX5_findOut_33 hl (k := 0) rfl (by decide +kernel) (by decide) rfl ?_
  clear hl
  clear ls
  intro ls hl
  refine lv_goto (tgt := 13) hx hb dX5_findOut_36 (by decide) ?_
  refine lv_iload_n hx hb dX5_findOut_13 rfl (lv_at hl 0 rfl) ?_
  refine lv_aload_n hx hb dX5_findOut_14 rfl (lv_at hl 1 rfl) ?_
  refine gm_get (D := D) (ci := 5) (v := .ref h1) (C := RX5) (T := TX5) (N := 5) hx hb hg inlX5 hown hK.1 hP 0 rfl rfl 0 (by decide) tX5_0 (hg _ gw_138) rfl dX5_findOut_15 ?_
  refine gm_get (D := D) (ci := 8) (v := .int 5) (C := RX8) (T := TX8) (N := 2) hx hb hg inlX8 hown hK.1 hP 1 rfl rfl 1 (by decide) tX8_1 (hg _ gw_1441) rfl dX5_findOut_18 ?_
  refine lv_icmp_ge (tgt := 39) hx hb dX5_findOut_21 (by decide) (fun c9 => absurd c9 (by decide +kernel)) (fun _ => ?_)
  refine lv_aload_n hx hb dX5_findOut_24 rfl (lv_at hl 1 rfl) ?_
  refine gm_get (D := D) (ci := 5) (v := .ref h2) (C := RX5) (T := TX5) (N := 5) hx hb hg inlX5 hown hK.1 hP 0 rfl rfl 1 (by decide) tX5_1 (hg _ gw_139) rfl dX5_findOut_25 ?_
  refine lv_iload_n hx hb dX5_findOut_28 rfl (lv_at hl 0 rfl) ?_
  refine lv_lconst (v := 0) hx hb dX5_findOut_29 (by decide) ?_
  refine g_av (wr := [(h0, .inr (5, [.ref h1, .ref h2, .ref h3, .ref h4, .int 5])), (h1, .inr (8, [.ref h6, .int 5])), (h4, .inr (8, [.ref h10, .int wp30497])), (h10, .inl (y 1, 3, .inr (.inl (fun _ => 0))))]) (va_runV (As := [.int 4, .long 0]) (rest := []) ⟨hx, hb, hml, hown, hg⟩ (k_X8_set_49 l D y aS H.size h2 0 h7 wp30495 (vp_updL (vp_updL (vp_updL (vp_updL wf30496 ((0 : Int32).toNatClampNeg) 0) ((1 : Int32).toNatClampNeg) 0) ((2 : Int32).toNatClampNeg) 0) ((3 : Int32).toNatClampNeg) 0)) (cwV 2 hg ggV_RX5_29_X8_set rfl rfl rfl (by decide +kernel) ⟨Nat.le_of_ble_eq_true rfl, Nat.le_of_ble_eq_true rfl⟩) (g_preV (q := (RX8, TX8, 2)) hK hP hD [4, 5] rfl (by decide) (ci := 8) (q0 := 4) rfl rfl) rfl rfl hl.1 rfl (lv_room (Nat.le_of_ble_eq_true rfl)) dX5_findOut_30 ⟨Nat.le_of_ble_eq_true rfl, Nat.le_of_ble_eq_true rfl⟩) hP hD hS hA [4, 5] [0, 1, 2, 3] rfl rfl (by decide) (by decide) ?_
  clear hP hD hS H locs
  refine fun u H locs hq hP hD hS => ?_
  replace hP : va_P D vwCl [(h0, .inr (5, [.ref h1, .ref h2, .ref h3, .ref h4, .int 5])), (h1, .inr (8, [.ref h6, .int 5])), (h4, .inr (8, [.ref h10, .int wp30497])), (h10, .inl (y 1, 3, .inr (.inl (fun _ => 0)))), (h2, .inr (8, [.ref h7, .int wp30495])), (h7, .inl (y 1, 200, .inr (.inl (vp_updL (vp_updL (vp_updL (vp_updL (vp_updL wf30496 ((0 : Int32).toNatClampNeg) 0) ((1 : Int32).toNatClampNeg) 0) ((2 : Int32).toNatClampNeg) 0) ((3 : Int32).toNatClampNeg) 0) ((4 : Int32).toNatClampNeg) 0))))] H := hP
  replace hD : va_D A [(h0, .inr (5, [.ref h1, .ref h2, .ref h3, .ref h4, .int 5])), (h1, .inr (8, [.ref h6, .int 5])), (h4, .inr (8, [.ref h10, .int wp30497])), (h10, .inl (y 1, 3, .inr (.inl (fun _ => 0)))), (h2, .inr (8, [.ref h7, .int wp30495])), (h7, .inl (y 1, 200, .inr (.inl (vp_updL (vp_updL (vp_updL (vp_updL (vp_updL wf30496 ((0 : Int32).toNatClampNeg) 0) ((1 : Int32).toNatClampNeg) 0) ((2 : Int32).toNatClampNeg) 0) ((3 : Int32).toNatClampNeg) 0) ((4 : Int32).toNatClampNeg) 0))))] := hD
  refine lv_iinc (v := 5) (lv' := [(1, .int 5), (0, .ref h0)]) hx hb dX5_findOut_33 hl (k := 0) rfl (by decide +kernel) (by decide) rfl ?_
  clear hl
  clear ls
  intro ls hl
  refine lv_goto (tgt := 13) hx hb dX5_findOut_36 (by decide) ?_
  refine lv_iload_n hx hb dX5_findOut_13 rfl (lv_at hl 0 rfl) ?_
  refine lv_aload_n hx hb dX5_findOut_14 rfl (lv_at hl 1 rfl) ?_
  refine gm_get (D := D) (ci := 5) (v := .ref h1) (C := RX5) (T := TX5) (N := 5) hx hb hg inlX5 hown hK.1 hP 0 rfl rfl 0 (by decide) tX5_0 (hg _ gw_138) rfl dX5_findOut_15 ?_
  refine gm_get (D := D) (ci := 8) (v := .int 5) (C := RX8) (T := TX8) (N := 2) hx hb hg inlX8 hown hK.1 hP 1 rfl rfl 1 (by decide) tX8_1 (hg _ gw_1441) rfl dX5_findOut_18 ?_
  refine lv_icmp_ge (tgt := 39) hx hb dX5_findOut_21 (by decide) (fun _ => ?_) (fun c9 => absurd c9 (by decide +kernel))
  refine lv_iconst (v := 0) hx hb dX5_findOut_39 (by decide) ?_
  refine lv_istore_n (lv' := [(1, .int 0), (0, .ref h0)]) hx hb dX5_findOut_40 rfl hl (by decide) rfl ?_
  clear hl
  clear ls
  intro ls hl
  refine lv_iload_n hx hb dX5_findOut_41 rfl (lv_at hl 0 rfl) ?_
  refine lv_aload_n hx hb dX5_findOut_42 rfl (lv_at hl 1 rfl) ?_
  refine gm_get (D := D) (ci := 5) (v := .ref h1) (C := RX5) (T := TX5) (N := 5) hx hb hg inlX5 hown hK.1 hP 0 rfl rfl 0 (by decide) tX5_0 (hg _ gw_138) rfl dX5_findOut_43 ?_
  refine gm_get (D := D) (ci := 8) (v := .int 5) (C := RX8) (T := TX8) (N := 2) hx hb hg inlX8 hown hK.1 hP 1 rfl rfl 1 (by decide) tX8_1 (hg _ gw_1441) rfl dX5_findOut_46 ?_
  refine lv_icmp_ge (tgt := 77) hx hb dX5_findOut_49 (by decide) (fun c9 => absurd c9 (by decide +kernel)) (fun _ => ?_)
  refine lv_iconst (v := 0) hx hb dX5_findOut_52 (by decide) ?_
  refine lv_istore_n (lv' := [(2, .int 0), (1, .int 0), (0, .ref h0)]) hx hb dX5_findOut_53 rfl hl (by decide) rfl ?_
  clear hl
  clear ls
  intro ls hl
  refine lv_iload_n hx hb dX5_findOut_54 rfl (lv_at hl 0 rfl) ?_
  refine lv_iconst (v := 3) hx hb dX5_findOut_55 (by decide) ?_
  refine lv_icmp_ge (tgt := 71) hx hb dX5_findOut_56 (by decide) (fun c9 => absurd c9 (by decide +kernel)) (fun _ => ?_)
  refine lv_aload_n hx hb dX5_findOut_59 rfl (lv_at hl 2 rfl) ?_
  refine lv_iload_n hx hb dX5_findOut_60 rfl (lv_at hl 0 rfl) ?_
  refine lv_iload_n hx hb dX5_findOut_61 rfl (lv_at hl 1 rfl) ?_
  refine g_av (wr := [(h1, .inr (8, [.ref h6, .int 5])), (h2, .inr (8, [.ref h7, .int wp30495])), (h7, .inl (y 1, 200, .inr (.inl (vp_updL (vp_updL (vp_updL (vp_updL (vp_updL wf30496 ((0 : Int32).toNatClampNeg) 0) ((1 : Int32).toNatClampNeg) 0) ((2 : Int32).toNatClampNeg) 0) ((3 : Int32).toNatClampNeg) 0) ((4 : Int32).toNatClampNeg) 0))))]) (va_runV (As := [.int 0, .int 0]) (rest := []) ⟨hx, hb, hml, hown, hg⟩ (k_X5_find_0 l D y aS H.size h0 h1 h2 h3 h4 5 h10 wp30497) (cwV 2 hg ggV_RX5_54_X5_find rfl rfl rfl (by decide +kernel) ⟨Nat.le_of_ble_eq_true rfl, Nat.le_of_ble_eq_true rfl⟩) (g_preV (q := (RX5, TX5, 5)) hK hP hD [0, 2, 3] rfl (by decide) (ci := 5) (q0 := 0) rfl rfl) rfl rfl hl.1 rfl (lv_room (Nat.le_of_ble_eq_true rfl)) dX5_findOut_62 ⟨Nat.le_of_ble_eq_true rfl, Nat.le_of_ble_eq_true rfl⟩) hP hD hS hA [0, 2, 3] [1, 4, 5] rfl rfl (by decide) (by decide) ?_
  clear hP hD hS H locs
  refine fun u H locs hq hP hD hS => ?_
  replace hP : va_P D vwCl [(h1, .inr (8, [.ref h6, .int 5])), (h2, .inr (8, [.ref h7, .int wp30495])), (h7, .inl (y 1, 200, .inr (.inl (vp_updL (vp_updL (vp_updL (vp_updL (vp_updL wf30496 ((0 : Int32).toNatClampNeg) 0) ((1 : Int32).toNatClampNeg) 0) ((2 : Int32).toNatClampNeg) 0) ((3 : Int32).toNatClampNeg) 0) ((4 : Int32).toNatClampNeg) 0)))), (h0, .inr (5, [.ref h1, .ref h2, .ref h3, .ref h4, .int 5])), (h4, .inr (8, [.ref h10, .int wp30497])), (h10, .inl (y 1, 3, .inr (.inl (fun _ => 0))))] H := hP
  replace hD : va_D A [(h1, .inr (8, [.ref h6, .int 5])), (h2, .inr (8, [.ref h7, .int wp30495])), (h7, .inl (y 1, 200, .inr (.inl (vp_updL (vp_updL (vp_updL (vp_updL (vp_updL wf30496 ((0 : Int32).toNatClampNeg) 0) ((1 : Int32).toNatClampNeg) 0) ((2 : Int32).toNatClampNeg) 0) ((3 : Int32).toNatClampNeg) 0) ((4 : Int32).toNatClampNeg) 0)))), (h0, .inr (5, [.ref h1, .ref h2, .ref h3, .ref h4, .int 5])), (h4, .inr (8, [.ref h10, .int wp30497])), (h10, .inl (y 1, 3, .inr (.inl (fun _ => 0))))] := hD
  refine lv_iinc (v := 1) (lv' := [(2, .int 1), (1, .int 0), (0, .ref h0)]) hx hb dX5_findOut_65 hl (k := 0) rfl (by decide +kernel) (by decide) rfl ?_
  clear hl
  clear ls
  intro ls hl
  refine lv_goto (tgt := 54) hx hb dX5_findOut_68 (by decide) ?_
  refine lv_iload_n hx hb dX5_findOut_54 rfl (lv_at hl 0 rfl) ?_
  refine lv_iconst (v := 3) hx hb dX5_findOut_55 (by decide) ?_
  refine lv_icmp_ge (tgt := 71) hx hb dX5_findOut_56 (by decide) (fun c9 => absurd c9 (by decide +kernel)) (fun _ => ?_)
  refine lv_aload_n hx hb dX5_findOut_59 rfl (lv_at hl 2 rfl) ?_
  refine lv_iload_n hx hb dX5_findOut_60 rfl (lv_at hl 0 rfl) ?_
  refine lv_iload_n hx hb dX5_findOut_61 rfl (lv_at hl 1 rfl) ?_
  refine g_av (wr := [(h1, .inr (8, [.ref h6, .int 5])), (h2, .inr (8, [.ref h7, .int wp30495])), (h7, .inl (y 1, 200, .inr (.inl (vp_updL (vp_updL (vp_updL (vp_updL (vp_updL wf30496 ((0 : Int32).toNatClampNeg) 0) ((1 : Int32).toNatClampNeg) 0) ((2 : Int32).toNatClampNeg) 0) ((3 : Int32).toNatClampNeg) 0) ((4 : Int32).toNatClampNeg) 0))))]) (va_runV (As := [.int 1, .int 0]) (rest := []) ⟨hx, hb, hml, hown, hg⟩ (k_X5_find_1 l D y aS H.size h0 h1 h2 h3 h4 5 h10 wp30497) (cwV 2 hg ggV_RX5_54_X5_find rfl rfl rfl (by decide +kernel) ⟨Nat.le_of_ble_eq_true rfl, Nat.le_of_ble_eq_true rfl⟩) (g_preV (q := (RX5, TX5, 5)) hK hP hD [3, 4, 5] rfl (by decide) (ci := 5) (q0 := 3) rfl rfl) rfl rfl hl.1 rfl (lv_room (Nat.le_of_ble_eq_true rfl)) dX5_findOut_62 ⟨Nat.le_of_ble_eq_true rfl, Nat.le_of_ble_eq_true rfl⟩) hP hD hS hA [3, 4, 5] [0, 1, 2] rfl rfl (by decide) (by decide) ?_
  clear hP hD hS H locs
  refine fun u H locs hq hP hD hS => ?_
  replace hP : va_P D vwCl [(h1, .inr (8, [.ref h6, .int 5])), (h2, .inr (8, [.ref h7, .int wp30495])), (h7, .inl (y 1, 200, .inr (.inl (vp_updL (vp_updL (vp_updL (vp_updL (vp_updL wf30496 ((0 : Int32).toNatClampNeg) 0) ((1 : Int32).toNatClampNeg) 0) ((2 : Int32).toNatClampNeg) 0) ((3 : Int32).toNatClampNeg) 0) ((4 : Int32).toNatClampNeg) 0)))), (h0, .inr (5, [.ref h1, .ref h2, .ref h3, .ref h4, .int 5])), (h4, .inr (8, [.ref h10, .int wp30497])), (h10, .inl (y 1, 3, .inr (.inl (fun _ => 0))))] H := hP
  replace hD : va_D A [(h1, .inr (8, [.ref h6, .int 5])), (h2, .inr (8, [.ref h7, .int wp30495])), (h7, .inl (y 1, 200, .inr (.inl (vp_updL (vp_updL (vp_updL (vp_updL (vp_updL wf30496 ((0 : Int32).toNatClampNeg) 0) ((1 : Int32).toNatClampNeg) 0) ((2 : Int32).toNatClampNeg) 0) ((3 : Int32).toNatClampNeg) 0) ((4 : Int32).toNatClampNeg) 0)))), (h0, .inr (5, [.ref h1, .ref h2, .ref h3, .ref h4, .int 5])), (h4, .inr (8, [.ref h10, .int wp30497])), (h10, .inl (y 1, 3, .inr (.inl (fun _ => 0))))] := hD
  refine lv_iinc (v := 2) (lv' := [(2, .int 2), (1, .int 0), (0, .ref h0)]) hx hb dX5_findOut_65 hl (k := 0) rfl (by decide +kernel) (by decide) rfl ?_
  clear hl
  clear ls
  intro ls hl
  refine lv_goto (tgt := 54) hx hb dX5_findOut_68 (by decide) ?_
  refine lv_iload_n hx hb dX5_findOut_54 rfl (lv_at hl 0 rfl) ?_
  refine lv_iconst (v := 3) hx hb dX5_findOut_55 (by decide) ?_
  refine lv_icmp_ge (tgt := 71) hx hb dX5_findOut_56 (by decide) (fun c9 => absurd c9 (by decide +kernel)) (fun _ => ?_)
  refine lv_aload_n hx hb dX5_findOut_59 rfl (lv_at hl 2 rfl) ?_
  refine lv_iload_n hx hb dX5_findOut_60 rfl (lv_at hl 0 rfl) ?_
  refine lv_iload_n hx hb dX5_findOut_61 rfl (lv_at hl 1 rfl) ?_
  refine g_av (wr := [(h1, .inr (8, [.ref h6, .int 5])), (h2, .inr (8, [.ref h7, .int wp30495])), (h7, .inl (y 1, 200, .inr (.inl (vp_updL (vp_updL (vp_updL (vp_updL (vp_updL wf30496 ((0 : Int32).toNatClampNeg) 0) ((1 : Int32).toNatClampNeg) 0) ((2 : Int32).toNatClampNeg) 0) ((3 : Int32).toNatClampNeg) 0) ((4 : Int32).toNatClampNeg) 0))))]) (va_runV (As := [.int 2, .int 0]) (rest := []) ⟨hx, hb, hml, hown, hg⟩ (k_X5_find_2 l D y aS H.size h0 h1 h2 h3 h4 5 h10 wp30497) (cwV 2 hg ggV_RX5_54_X5_find rfl rfl rfl (by decide +kernel) ⟨Nat.le_of_ble_eq_true rfl, Nat.le_of_ble_eq_true rfl⟩) (g_preV (q := (RX5, TX5, 5)) hK hP hD [3, 4, 5] rfl (by decide) (ci := 5) (q0 := 3) rfl rfl) rfl rfl hl.1 rfl (lv_room (Nat.le_of_ble_eq_true rfl)) dX5_findOut_62 ⟨Nat.le_of_ble_eq_true rfl, Nat.le_of_ble_eq_true rfl⟩) hP hD hS hA [3, 4, 5] [0, 1, 2] rfl rfl (by decide) (by decide) ?_
  clear hP hD hS H locs
  refine fun u H locs hq hP hD hS => ?_
  replace hP : va_P D vwCl [(h1, .inr (8, [.ref h6, .int 5])), (h2, .inr (8, [.ref h7, .int wp30495])), (h7, .inl (y 1, 200, .inr (.inl (vp_updL (vp_updL (vp_updL (vp_updL (vp_updL wf30496 ((0 : Int32).toNatClampNeg) 0) ((1 : Int32).toNatClampNeg) 0) ((2 : Int32).toNatClampNeg) 0) ((3 : Int32).toNatClampNeg) 0) ((4 : Int32).toNatClampNeg) 0)))), (h0, .inr (5, [.ref h1, .ref h2, .ref h3, .ref h4, .int 5])), (h4, .inr (8, [.ref h10, .int wp30497])), (h10, .inl (y 1, 3, .inr (.inl (fun _ => 0))))] H := hP
  replace hD : va_D A [(h1, .inr (8, [.ref h6, .int 5])), (h2, .inr (8, [.ref h7, .int wp30495])), (h7, .inl (y 1, 200, .inr (.inl (vp_updL (vp_updL (vp_updL (vp_updL (vp_updL wf30496 ((0 : Int32).toNatClampNeg) 0) ((1 : Int32).toNatClampNeg) 0) ((2 : Int32).toNatClampNeg) 0) ((3 : Int32).toNatClampNeg) 0) ((4 : Int32).toNatClampNeg) 0)))), (h0, .inr (5, [.ref h1, .ref h2, .ref h3, .ref h4, .int 5])), (h4, .inr (8, [.ref h10, .int wp30497])), (h10, .inl (y 1, 3, .inr (.inl (fun _ => 0))))] := hD
  refine lv_iinc (v := 3) (lv' := [(2, .int 3), (1, .int 0), (0, .ref h0)]) hx hb dX5_findOut_65 hl (k := 0) rfl (by decide +kernel) (by decide) rfl ?_
  clear hl
  clear ls
  intro ls hl
  refine lv_goto (tgt := 54) hx hb dX5_findOut_68 (by decide) ?_
  refine lv_iload_n hx hb dX5_findOut_54 rfl (lv_at hl 0 rfl) ?_
  refine lv_iconst (v := 3) hx hb dX5_findOut_55 (by decide) ?_
  refine lv_icmp_ge (tgt := 71) hx hb dX5_findOut_56 (by decide) (fun _ => ?_) (fun c9 => absurd c9 (by decide +kernel))
  refine lv_iinc (v := 1) (lv' := [(1, .int 1), (2, .int 3), (0, .ref h0)]) hx hb dX5_findOut_71 hl (k := 1) rfl (by decide +kernel) (by decide) rfl ?_
  clear hl
  clear ls
  intro ls hl
  refine lv_goto (tgt := 41) hx hb dX5_findOut_74 (by decide) ?_
  refine lv_iload_n hx hb dX5_findOut_41 rfl (lv_at hl 0 rfl) ?_
  refine lv_aload_n hx hb dX5_findOut_42 rfl (lv_at hl 2 rfl) ?_
  refine gm_get (D := D) (ci := 5) (v := .ref h1) (C := RX5) (T := TX5) (N := 5) hx hb hg inlX5 hown hK.1 hP 3 rfl rfl 0 (by decide) tX5_0 (hg _ gw_138) rfl dX5_findOut_43 ?_
  refine gm_get (D := D) (ci := 8) (v := .int 5) (C := RX8) (T := TX8) (N := 2) hx hb hg inlX8 hown hK.1 hP 0 rfl rfl 1 (by decide) tX8_1 (hg _ gw_1441) rfl dX5_findOut_46 ?_
  refine lv_icmp_ge (tgt := 77) hx hb dX5_findOut_49 (by decide) (fun c9 => absurd c9 (by decide +kernel)) (fun _ => ?_)
  refine lv_iconst (v := 0) hx hb dX5_findOut_52 (by decide) ?_
  refine lv_istore_n (lv' := [(2, .int 0), (1, .int 1), (0, .ref h0)]) hx hb dX5_findOut_53 rfl hl (by decide) rfl ?_
  clear hl
  clear ls
  intro ls hl
  refine lv_iload_n hx hb dX5_findOut_54 rfl (lv_at hl 0 rfl) ?_
  refine lv_iconst (v := 3) hx hb dX5_findOut_55 (by decide) ?_
  refine lv_icmp_ge (tgt := 71) hx hb dX5_findOut_56 (by decide) (fun c9 => absurd c9 (by decide +kernel)) (fun _ => ?_)
  refine lv_aload_n hx hb dX5_findOut_59 rfl (lv_at hl 2 rfl) ?_
  refine lv_iload_n hx hb dX5_findOut_60 rfl (lv_at hl 0 rfl) ?_
  refine lv_iload_n hx hb dX5_findOut_61 rfl (lv_at hl 1 rfl) ?_
  refine g_av (wr := [(h1, .inr (8, [.ref h6, .int 5])), (h2, .inr (8, [.ref h7, .int wp30495])), (h7, .inl (y 1, 200, .inr (.inl (vp_updL (vp_updL (vp_updL (vp_updL (vp_updL wf30496 ((0 : Int32).toNatClampNeg) 0) ((1 : Int32).toNatClampNeg) 0) ((2 : Int32).toNatClampNeg) 0) ((3 : Int32).toNatClampNeg) 0) ((4 : Int32).toNatClampNeg) 0))))]) (va_runV (As := [.int 0, .int 1]) (rest := []) ⟨hx, hb, hml, hown, hg⟩ (k_X5_find_3 l D y aS H.size h0 h1 h2 h3 h4 5 h10 wp30497) (cwV 2 hg ggV_RX5_54_X5_find rfl rfl rfl (by decide +kernel) ⟨Nat.le_of_ble_eq_true rfl, Nat.le_of_ble_eq_true rfl⟩) (g_preV (q := (RX5, TX5, 5)) hK hP hD [3, 4, 5] rfl (by decide) (ci := 5) (q0 := 3) rfl rfl) rfl rfl hl.1 rfl (lv_room (Nat.le_of_ble_eq_true rfl)) dX5_findOut_62 ⟨Nat.le_of_ble_eq_true rfl, Nat.le_of_ble_eq_true rfl⟩) hP hD hS hA [3, 4, 5] [0, 1, 2] rfl rfl (by decide) (by decide) ?_
  clear hP hD hS H locs
  refine fun u H locs hq hP hD hS => ?_
  replace hP : va_P D vwCl [(h1, .inr (8, [.ref h6, .int 5])), (h2, .inr (8, [.ref h7, .int wp30495])), (h7, .inl (y 1, 200, .inr (.inl (vp_updL (vp_updL (vp_updL (vp_updL (vp_updL wf30496 ((0 : Int32).toNatClampNeg) 0) ((1 : Int32).toNatClampNeg) 0) ((2 : Int32).toNatClampNeg) 0) ((3 : Int32).toNatClampNeg) 0) ((4 : Int32).toNatClampNeg) 0)))), (h0, .inr (5, [.ref h1, .ref h2, .ref h3, .ref h4, .int 5])), (h4, .inr (8, [.ref h10, .int wp30497])), (h10, .inl (y 1, 3, .inr (.inl (fun _ => 0))))] H := hP
  replace hD : va_D A [(h1, .inr (8, [.ref h6, .int 5])), (h2, .inr (8, [.ref h7, .int wp30495])), (h7, .inl (y 1, 200, .inr (.inl (vp_updL (vp_updL (vp_updL (vp_updL (vp_updL wf30496 ((0 : Int32).toNatClampNeg) 0) ((1 : Int32).toNatClampNeg) 0) ((2 : Int32).toNatClampNeg) 0) ((3 : Int32).toNatClampNeg) 0) ((4 : Int32).toNatClampNeg) 0)))), (h0, .inr (5, [.ref h1, .ref h2, .ref h3, .ref h4, .int 5])), (h4, .inr (8, [.ref h10, .int wp30497])), (h10, .inl (y 1, 3, .inr (.inl (fun _ => 0))))] := hD
  refine lv_iinc (v := 1) (lv' := [(2, .int 1), (1, .int 1), (0, .ref h0)]) hx hb dX5_findOut_65 hl (k := 0) rfl (by decide +kernel) (by decide) rfl ?_
  clear hl
  clear ls
  intro ls hl
  refine lv_goto (tgt := 54) hx hb dX5_findOut_68 (by decide) ?_
  refine lv_iload_n hx hb dX5_findOut_54 rfl (lv_at hl 0 rfl) ?_
  refine lv_iconst (v := 3) hx hb dX5_findOut_55 (by decide) ?_
  refine lv_icmp_ge (tgt := 71) hx hb dX5_findOut_56 (by decide) (fun c9 => absurd c9 (by decide +kernel)) (fun _ => ?_)
  refine lv_aload_n hx hb dX5_findOut_59 rfl (lv_at hl 2 rfl) ?_
  refine lv_iload_n hx hb dX5_findOut_60 rfl (lv_at hl 0 rfl) ?_
  refine lv_iload_n hx hb dX5_findOut_61 rfl (lv_at hl 1 rfl) ?_
  refine g_av (wr := [(h1, .inr (8, [.ref h6, .int 5])), (h2, .inr (8, [.ref h7, .int wp30495])), (h7, .inl (y 1, 200, .inr (.inl (vp_updL (vp_updL (vp_updL (vp_updL (vp_updL wf30496 ((0 : Int32).toNatClampNeg) 0) ((1 : Int32).toNatClampNeg) 0) ((2 : Int32).toNatClampNeg) 0) ((3 : Int32).toNatClampNeg) 0) ((4 : Int32).toNatClampNeg) 0))))]) (va_runV (As := [.int 1, .int 1]) (rest := []) ⟨hx, hb, hml, hown, hg⟩ (k_X5_find_4 l D y aS H.size h0 h1 h2 h3 h4 5 h10 wp30497) (cwV 2 hg ggV_RX5_54_X5_find rfl rfl rfl (by decide +kernel) ⟨Nat.le_of_ble_eq_true rfl, Nat.le_of_ble_eq_true rfl⟩) (g_preV (q := (RX5, TX5, 5)) hK hP hD [3, 4, 5] rfl (by decide) (ci := 5) (q0 := 3) rfl rfl) rfl rfl hl.1 rfl (lv_room (Nat.le_of_ble_eq_true rfl)) dX5_findOut_62 ⟨Nat.le_of_ble_eq_true rfl, Nat.le_of_ble_eq_true rfl⟩) hP hD hS hA [3, 4, 5] [0, 1, 2] rfl rfl (by decide) (by decide) ?_
  clear hP hD hS H locs
  refine fun u H locs hq hP hD hS => ?_
  replace hP : va_P D vwCl [(h1, .inr (8, [.ref h6, .int 5])), (h2, .inr (8, [.ref h7, .int wp30495])), (h7, .inl (y 1, 200, .inr (.inl (vp_updL (vp_updL (vp_updL (vp_updL (vp_updL wf30496 ((0 : Int32).toNatClampNeg) 0) ((1 : Int32).toNatClampNeg) 0) ((2 : Int32).toNatClampNeg) 0) ((3 : Int32).toNatClampNeg) 0) ((4 : Int32).toNatClampNeg) 0)))), (h0, .inr (5, [.ref h1, .ref h2, .ref h3, .ref h4, .int 5])), (h4, .inr (8, [.ref h10, .int wp30497])), (h10, .inl (y 1, 3, .inr (.inl (fun _ => 0))))] H := hP
  replace hD : va_D A [(h1, .inr (8, [.ref h6, .int 5])), (h2, .inr (8, [.ref h7, .int wp30495])), (h7, .inl (y 1, 200, .inr (.inl (vp_updL (vp_updL (vp_updL (vp_updL (vp_updL wf30496 ((0 : Int32).toNatClampNeg) 0) ((1 : Int32).toNatClampNeg) 0) ((2 : Int32).toNatClampNeg) 0) ((3 : Int32).toNatClampNeg) 0) ((4 : Int32).toNatClampNeg) 0)))), (h0, .inr (5, [.ref h1, .ref h2, .ref h3, .ref h4, .int 5])), (h4, .inr (8, [.ref h10, .int wp30497])), (h10, .inl (y 1, 3, .inr (.inl (fun _ => 0))))] := hD
  refine lv_iinc (v := 2) (lv' := [(2, .int 2), (1, .int 1), (0, .ref h0)]) hx hb dX5_findOut_65 hl (k := 0) rfl (by decide +kernel) (by decide) rfl ?_
  clear hl
  clear ls
  intro ls hl
  refine lv_goto (tgt := 54) hx hb dX5_findOut_68 (by decide) ?_
  refine lv_iload_n hx hb dX5_findOut_54 rfl (lv_at hl 0 rfl) ?_
  refine lv_iconst (v := 3) hx hb dX5_findOut_55 (by decide) ?_
  refine lv_icmp_ge (tgt := 71) hx hb dX5_findOut_56 (by decide) (fun c9 => absurd c9 (by decide +kernel)) (fun _ => ?_)
  refine lv_aload_n hx hb dX5_findOut_59 rfl (lv_at hl 2 rfl) ?_
  refine lv_iload_n hx hb dX5_findOut_60 rfl (lv_at hl 0 rfl) ?_
  refine lv_iload_n hx hb dX5_findOut_61 rfl (lv_at hl 1 rfl) ?_
  refine g_av (wr := [(h1, .inr (8, [.ref h6, .int 5])), (h2, .inr (8, [.ref h7, .int wp30495])), (h7, .inl (y 1, 200, .inr (.inl (vp_updL (vp_updL (vp_updL (vp_updL (vp_updL wf30496 ((0 : Int32).toNatClampNeg) 0) ((1 : Int32).toNatClampNeg) 0) ((2 : Int32).toNatClampNeg) 0) ((3 : Int32).toNatClampNeg) 0) ((4 : Int32).toNatClampNeg) 0))))]) (va_runV (As := [.int 2, .int 1]) (rest := []) ⟨hx, hb, hml, hown, hg⟩ (k_X5_find_5 l D y aS H.size h0 h1 h2 h3 h4 5 h10 wp30497) (cwV 2 hg ggV_RX5_54_X5_find rfl rfl rfl (by decide +kernel) ⟨Nat.le_of_ble_eq_true rfl, Nat.le_of_ble_eq_true rfl⟩) (g_preV (q := (RX5, TX5, 5)) hK hP hD [3, 4, 5] rfl (by decide) (ci := 5) (q0 := 3) rfl rfl) rfl rfl hl.1 rfl (lv_room (Nat.le_of_ble_eq_true rfl)) dX5_findOut_62 ⟨Nat.le_of_ble_eq_true rfl, Nat.le_of_ble_eq_true rfl⟩) hP hD hS hA [3, 4, 5] [0, 1, 2] rfl rfl (by decide) (by decide) ?_
  clear hP hD hS H locs
  refine fun u H locs hq hP hD hS => ?_
  replace hP : va_P D vwCl [(h1, .inr (8, [.ref h6, .int 5])), (h2, .inr (8, [.ref h7, .int wp30495])), (h7, .inl (y 1, 200, .inr (.inl (vp_updL (vp_updL (vp_updL (vp_updL (vp_updL wf30496 ((0 : Int32).toNatClampNeg) 0) ((1 : Int32).toNatClampNeg) 0) ((2 : Int32).toNatClampNeg) 0) ((3 : Int32).toNatClampNeg) 0) ((4 : Int32).toNatClampNeg) 0)))), (h0, .inr (5, [.ref h1, .ref h2, .ref h3, .ref h4, .int 5])), (h4, .inr (8, [.ref h10, .int wp30497])), (h10, .inl (y 1, 3, .inr (.inl (fun _ => 0))))] H := hP
  replace hD : va_D A [(h1, .inr (8, [.ref h6, .int 5])), (h2, .inr (8, [.ref h7, .int wp30495])), (h7, .inl (y 1, 200, .inr (.inl (vp_updL (vp_updL (vp_updL (vp_updL (vp_updL wf30496 ((0 : Int32).toNatClampNeg) 0) ((1 : Int32).toNatClampNeg) 0) ((2 : Int32).toNatClampNeg) 0) ((3 : Int32).toNatClampNeg) 0) ((4 : Int32).toNatClampNeg) 0)))), (h0, .inr (5, [.ref h1, .ref h2, .ref h3, .ref h4, .int 5])), (h4, .inr (8, [.ref h10, .int wp30497])), (h10, .inl (y 1, 3, .inr (.inl (fun _ => 0))))] := hD
  refine lv_iinc (v := 3) (lv' := [(2, .int 3), (1, .int 1), (0, .ref h0)]) hx hb dX5_findOut_65 hl (k := 0) rfl (by decide +kernel) (by decide) rfl ?_
  clear hl
  clear ls
  intro ls hl
  refine lv_goto (tgt := 54) hx hb dX5_findOut_68 (by decide) ?_
  refine lv_iload_n hx hb dX5_findOut_54 rfl (lv_at hl 0 rfl) ?_
  refine lv_iconst (v := 3) hx hb dX5_findOut_55 (by decide) ?_
  refine lv_icmp_ge (tgt := 71) hx hb dX5_findOut_56 (by decide) (fun _ => ?_) (fun c9 => absurd c9 (by decide +kernel))
  refine lv_iinc (v := 2) (lv' := [(1, .int 2), (2, .int 3), (0, .ref h0)]) hx hb dX5_findOut_71 hl (k := 1) rfl (by decide +kernel) (by decide) rfl ?_
  clear hl
  clear ls
  intro ls hl
  refine lv_goto (tgt := 41) hx hb dX5_findOut_74 (by decide) ?_
  refine lv_iload_n hx hb dX5_findOut_41 rfl (lv_at hl 0 rfl) ?_
  refine lv_aload_n hx hb dX5_findOut_42 rfl (lv_at hl 2 rfl) ?_
  refine gm_get (D := D) (ci := 5) (v := .ref h1) (C := RX5) (T := TX5) (N := 5) hx hb hg inlX5 hown hK.1 hP 3 rfl rfl 0 (by decide) tX5_0 (hg _ gw_138) rfl dX5_findOut_43 ?_
  refine gm_get (D := D) (ci := 8) (v := .int 5) (C := RX8) (T := TX8) (N := 2) hx hb hg inlX8 hown hK.1 hP 0 rfl rfl 1 (by decide) tX8_1 (hg _ gw_1441) rfl dX5_findOut_46 ?_
  refine lv_icmp_ge (tgt := 77) hx hb dX5_findOut_49 (by decide) (fun c9 => absurd c9 (by decide +kernel)) (fun _ => ?_)
  refine lv_iconst (v := 0) hx hb dX5_findOut_52 (by decide) ?_
  refine lv_istore_n (lv' := [(2, .int 0), (1, .int 2), (0, .ref h0)]) hx hb dX5_findOut_53 rfl hl (by decide) rfl ?_
  clear hl
  clear ls
  intro ls hl
  refine lv_iload_n hx hb dX5_findOut_54 rfl (lv_at hl 0 rfl) ?_
  refine lv_iconst (v := 3) hx hb dX5_findOut_55 (by decide) ?_
  refine lv_icmp_ge (tgt := 71) hx hb dX5_findOut_56 (by decide) (fun c9 => absurd c9 (by decide +kernel)) (fun _ => ?_)
  refine lv_aload_n hx hb dX5_findOut_59 rfl (lv_at hl 2 rfl) ?_
  refine lv_iload_n hx hb dX5_findOut_60 rfl (lv_at hl 0 rfl) ?_
  refine lv_iload_n hx hb dX5_findOut_61 rfl (lv_at hl 1 rfl) ?_
  refine g_av (wr := [(h1, .inr (8, [.ref h6, .int 5])), (h2, .inr (8, [.ref h7, .int wp30495])), (h7, .inl (y 1, 200, .inr (.inl (vp_updL (vp_updL (vp_updL (vp_updL (vp_updL wf30496 ((0 : Int32).toNatClampNeg) 0) ((1 : Int32).toNatClampNeg) 0) ((2 : Int32).toNatClampNeg) 0) ((3 : Int32).toNatClampNeg) 0) ((4 : Int32).toNatClampNeg) 0))))]) (va_runV (As := [.int 0, .int 2]) (rest := []) ⟨hx, hb, hml, hown, hg⟩ (k_X5_find_6 l D y aS H.size h0 h1 h2 h3 h4 5 h10 wp30497) (cwV 2 hg ggV_RX5_54_X5_find rfl rfl rfl (by decide +kernel) ⟨Nat.le_of_ble_eq_true rfl, Nat.le_of_ble_eq_true rfl⟩) (g_preV (q := (RX5, TX5, 5)) hK hP hD [3, 4, 5] rfl (by decide) (ci := 5) (q0 := 3) rfl rfl) rfl rfl hl.1 rfl (lv_room (Nat.le_of_ble_eq_true rfl)) dX5_findOut_62 ⟨Nat.le_of_ble_eq_true rfl, Nat.le_of_ble_eq_true rfl⟩) hP hD hS hA [3, 4, 5] [0, 1, 2] rfl rfl (by decide) (by decide) ?_
  clear hP hD hS H locs
  refine fun u H locs hq hP hD hS => ?_
  replace hP : va_P D vwCl [(h1, .inr (8, [.ref h6, .int 5])), (h2, .inr (8, [.ref h7, .int wp30495])), (h7, .inl (y 1, 200, .inr (.inl (vp_updL (vp_updL (vp_updL (vp_updL (vp_updL wf30496 ((0 : Int32).toNatClampNeg) 0) ((1 : Int32).toNatClampNeg) 0) ((2 : Int32).toNatClampNeg) 0) ((3 : Int32).toNatClampNeg) 0) ((4 : Int32).toNatClampNeg) 0)))), (h0, .inr (5, [.ref h1, .ref h2, .ref h3, .ref h4, .int 5])), (h4, .inr (8, [.ref h10, .int wp30497])), (h10, .inl (y 1, 3, .inr (.inl (fun _ => 0))))] H := hP
  replace hD : va_D A [(h1, .inr (8, [.ref h6, .int 5])), (h2, .inr (8, [.ref h7, .int wp30495])), (h7, .inl (y 1, 200, .inr (.inl (vp_updL (vp_updL (vp_updL (vp_updL (vp_updL wf30496 ((0 : Int32).toNatClampNeg) 0) ((1 : Int32).toNatClampNeg) 0) ((2 : Int32).toNatClampNeg) 0) ((3 : Int32).toNatClampNeg) 0) ((4 : Int32).toNatClampNeg) 0)))), (h0, .inr (5, [.ref h1, .ref h2, .ref h3, .ref h4, .int 5])), (h4, .inr (8, [.ref h10, .int wp30497])), (h10, .inl (y 1, 3, .inr (.inl (fun _ => 0))))] := hD
  refine lv_iinc (v := 1) (lv' := [(2, .int 1), (1, .int 2), (0, .ref h0)]) hx hb dX5_findOut_65 hl (k := 0) rfl (by decide +kernel) (by decide) rfl ?_
  clear hl
  clear ls
  intro ls hl
  refine lv_goto (tgt := 54) hx hb dX5_findOut_68 (by decide) ?_
  refine lv_iload_n hx hb dX5_findOut_54 rfl (lv_at hl 0 rfl) ?_
  refine lv_iconst (v := 3) hx hb dX5_findOut_55 (by decide) ?_
  refine lv_icmp_ge (tgt := 71) hx hb dX5_findOut_56 (by decide) (fun c9 => absurd c9 (by decide +kernel)) (fun _ => ?_)
  refine lv_aload_n hx hb dX5_findOut_59 rfl (lv_at hl 2 rfl) ?_
  refine lv_iload_n hx hb dX5_findOut_60 rfl (lv_at hl 0 rfl) ?_
  refine lv_iload_n hx hb dX5_findOut_61 rfl (lv_at hl 1 rfl) ?_
  refine g_av (wr := [(h1, .inr (8, [.ref h6, .int 5])), (h2, .inr (8, [.ref h7, .int wp30495])), (h7, .inl (y 1, 200, .inr (.inl (vp_updL (vp_updL (vp_updL (vp_updL (vp_updL wf30496 ((0 : Int32).toNatClampNeg) 0) ((1 : Int32).toNatClampNeg) 0) ((2 : Int32).toNatClampNeg) 0) ((3 : Int32).toNatClampNeg) 0) ((4 : Int32).toNatClampNeg) 0))))]) (va_runV (As := [.int 1, .int 2]) (rest := []) ⟨hx, hb, hml, hown, hg⟩ (k_X5_find_7 l D y aS H.size h0 h1 h2 h3 h4 5 h10 wp30497) (cwV 2 hg ggV_RX5_54_X5_find rfl rfl rfl (by decide +kernel) ⟨Nat.le_of_ble_eq_true rfl, Nat.le_of_ble_eq_true rfl⟩) (g_preV (q := (RX5, TX5, 5)) hK hP hD [3, 4, 5] rfl (by decide) (ci := 5) (q0 := 3) rfl rfl) rfl rfl hl.1 rfl (lv_room (Nat.le_of_ble_eq_true rfl)) dX5_findOut_62 ⟨Nat.le_of_ble_eq_true rfl, Nat.le_of_ble_eq_true rfl⟩) hP hD hS hA [3, 4, 5] [0, 1, 2] rfl rfl (by decide) (by decide) ?_
  clear hP hD hS H locs
  refine fun u H locs hq hP hD hS => ?_
  replace hP : va_P D vwCl [(h1, .inr (8, [.ref h6, .int 5])), (h2, .inr (8, [.ref h7, .int wp30495])), (h7, .inl (y 1, 200, .inr (.inl (vp_updL (vp_updL (vp_updL (vp_updL (vp_updL wf30496 ((0 : Int32).toNatClampNeg) 0) ((1 : Int32).toNatClampNeg) 0) ((2 : Int32).toNatClampNeg) 0) ((3 : Int32).toNatClampNeg) 0) ((4 : Int32).toNatClampNeg) 0)))), (h0, .inr (5, [.ref h1, .ref h2, .ref h3, .ref h4, .int 5])), (h4, .inr (8, [.ref h10, .int wp30497])), (h10, .inl (y 1, 3, .inr (.inl (fun _ => 0))))] H := hP
  replace hD : va_D A [(h1, .inr (8, [.ref h6, .int 5])), (h2, .inr (8, [.ref h7, .int wp30495])), (h7, .inl (y 1, 200, .inr (.inl (vp_updL (vp_updL (vp_updL (vp_updL (vp_updL wf30496 ((0 : Int32).toNatClampNeg) 0) ((1 : Int32).toNatClampNeg) 0) ((2 : Int32).toNatClampNeg) 0) ((3 : Int32).toNatClampNeg) 0) ((4 : Int32).toNatClampNeg) 0)))), (h0, .inr (5, [.ref h1, .ref h2, .ref h3, .ref h4, .int 5])), (h4, .inr (8, [.ref h10, .int wp30497])), (h10, .inl (y 1, 3, .inr (.inl (fun _ => 0))))] := hD
  refine lv_iinc (v := 2) (lv' := [(2, .int 2), (1, .int 2), (0, .ref h0)]) hx hb dX5_findOut_65 hl (k := 0) rfl (by decide +kernel) (by decide) rfl ?_
  clear hl
  clear ls
  intro ls hl
  refine lv_goto (tgt := 54) hx hb dX5_findOut_68 (by decide) ?_
  refine lv_iload_n hx hb dX5_findOut_54 rfl (lv_at hl 0 rfl) ?_
  refine lv_iconst (v := 3) hx hb dX5_findOut_55 (by decide) ?_
  refine lv_icmp_ge (tgt := 71) hx hb dX5_findOut_56 (by decide) (fun c9 => absurd c9 (by decide +kernel)) (fun _ => ?_)
  refine lv_aload_n hx hb dX5_findOut_59 rfl (lv_at hl 2 rfl) ?_
  refine lv_iload_n hx hb dX5_findOut_60 rfl (lv_at hl 0 rfl) ?_
  refine lv_iload_n hx hb dX5_findOut_61 rfl (lv_at hl 1 rfl) ?_
  refine g_av (wr := [(h1, .inr (8, [.ref h6, .int 5])), (h2, .inr (8, [.ref h7, .int wp30495])), (h7, .inl (y 1, 200, .inr (.inl (vp_updL (vp_updL (vp_updL (vp_updL (vp_updL wf30496 ((0 : Int32).toNatClampNeg) 0) ((1 : Int32).toNatClampNeg) 0) ((2 : Int32).toNatClampNeg) 0) ((3 : Int32).toNatClampNeg) 0) ((4 : Int32).toNatClampNeg) 0))))]) (va_runV (As := [.int 2, .int 2]) (rest := []) ⟨hx, hb, hml, hown, hg⟩ (k_X5_find_8 l D y aS H.size h0 h1 h2 h3 h4 5 h10 wp30497) (cwV 2 hg ggV_RX5_54_X5_find rfl rfl rfl (by decide +kernel) ⟨Nat.le_of_ble_eq_true rfl, Nat.le_of_ble_eq_true rfl⟩) (g_preV (q := (RX5, TX5, 5)) hK hP hD [3, 4, 5] rfl (by decide) (ci := 5) (q0 := 3) rfl rfl) rfl rfl hl.1 rfl (lv_room (Nat.le_of_ble_eq_true rfl)) dX5_findOut_62 ⟨Nat.le_of_ble_eq_true rfl, Nat.le_of_ble_eq_true rfl⟩) hP hD hS hA [3, 4, 5] [0, 1, 2] rfl rfl (by decide) (by decide) ?_
  clear hP hD hS H locs
  refine fun u H locs hq hP hD hS => ?_
  replace hP : va_P D vwCl [(h1, .inr (8, [.ref h6, .int 5])), (h2, .inr (8, [.ref h7, .int wp30495])), (h7, .inl (y 1, 200, .inr (.inl (vp_updL (vp_updL (vp_updL (vp_updL (vp_updL wf30496 ((0 : Int32).toNatClampNeg) 0) ((1 : Int32).toNatClampNeg) 0) ((2 : Int32).toNatClampNeg) 0) ((3 : Int32).toNatClampNeg) 0) ((4 : Int32).toNatClampNeg) 0)))), (h0, .inr (5, [.ref h1, .ref h2, .ref h3, .ref h4, .int 5])), (h4, .inr (8, [.ref h10, .int wp30497])), (h10, .inl (y 1, 3, .inr (.inl (fun _ => 0))))] H := hP
  replace hD : va_D A [(h1, .inr (8, [.ref h6, .int 5])), (h2, .inr (8, [.ref h7, .int wp30495])), (h7, .inl (y 1, 200, .inr (.inl (vp_updL (vp_updL (vp_updL (vp_updL (vp_updL wf30496 ((0 : Int32).toNatClampNeg) 0) ((1 : Int32).toNatClampNeg) 0) ((2 : Int32).toNatClampNeg) 0) ((3 : Int32).toNatClampNeg) 0) ((4 : Int32).toNatClampNeg) 0)))), (h0, .inr (5, [.ref h1, .ref h2, .ref h3, .ref h4, .int 5])), (h4, .inr (8, [.ref h10, .int wp30497])), (h10, .inl (y 1, 3, .inr (.inl (fun _ => 0))))] := hD
  refine lv_iinc (v := 3) (lv' := [(2, .int 3), (1, .int 2), (0, .ref h0)]) hx hb dX5_findOut_65 hl (k := 0) rfl (by decide +kernel) (by decide) rfl ?_
  clear hl
  clear ls
  intro ls hl
  refine lv_goto (tgt := 54) hx hb dX5_findOut_68 (by decide) ?_
  refine lv_iload_n hx hb dX5_findOut_54 rfl (lv_at hl 0 rfl) ?_
  refine lv_iconst (v := 3) hx hb dX5_findOut_55 (by decide) ?_
  refine lv_icmp_ge (tgt := 71) hx hb dX5_findOut_56 (by decide) (fun _ => ?_) (fun c9 => absurd c9 (by decide +kernel))
  refine lv_iinc (v := 3) (lv' := [(1, .int 3), (2, .int 3), (0, .ref h0)]) hx hb dX5_findOut_71 hl (k := 1) rfl (by decide +kernel) (by decide) rfl ?_
  clear hl
  clear ls
  intro ls hl
  refine lv_goto (tgt := 41) hx hb dX5_findOut_74 (by decide) ?_
  refine lv_iload_n hx hb dX5_findOut_41 rfl (lv_at hl 0 rfl) ?_
  refine lv_aload_n hx hb dX5_findOut_42 rfl (lv_at hl 2 rfl) ?_
  refine gm_get (D := D) (ci := 5) (v := .ref h1) (C := RX5) (T := TX5) (N := 5) hx hb hg inlX5 hown hK.1 hP 3 rfl rfl 0 (by decide) tX5_0 (hg _ gw_138) rfl dX5_findOut_43 ?_
  refine gm_get (D := D) (ci := 8) (v := .int 5) (C := RX8) (T := TX8) (N := 2) hx hb hg inlX8 hown hK.1 hP 0 rfl rfl 1 (by decide) tX8_1 (hg _ gw_1441) rfl dX5_findOut_46 ?_
  refine lv_icmp_ge (tgt := 77) hx hb dX5_findOut_49 (by decide) (fun c9 => absurd c9 (by decide +kernel)) (fun _ => ?_)
  refine lv_iconst (v := 0) hx hb dX5_findOut_52 (by decide) ?_
  refine lv_istore_n (lv' := [(2, .int 0), (1, .int 3), (0, .ref h0)]) hx hb dX5_findOut_53 rfl hl (by decide) rfl ?_
  clear hl
  clear ls
  intro ls hl
  refine lv_iload_n hx hb dX5_findOut_54 rfl (lv_at hl 0 rfl) ?_
  refine lv_iconst (v := 3) hx hb dX5_findOut_55 (by decide) ?_
  refine lv_icmp_ge (tgt := 71) hx hb dX5_findOut_56 (by decide) (fun c9 => absurd c9 (by decide +kernel)) (fun _ => ?_)
  refine lv_aload_n hx hb dX5_findOut_59 rfl (lv_at hl 2 rfl) ?_
  refine lv_iload_n hx hb dX5_findOut_60 rfl (lv_at hl 0 rfl) ?_
  refine lv_iload_n hx hb dX5_findOut_61 rfl (lv_at hl 1 rfl) ?_
  refine g_av (wr := [(h1, .inr (8, [.ref h6, .int 5])), (h2, .inr (8, [.ref h7, .int wp30495])), (h7, .inl (y 1, 200, .inr (.inl (vp_updL (vp_updL (vp_updL (vp_updL (vp_updL wf30496 ((0 : Int32).toNatClampNeg) 0) ((1 : Int32).toNatClampNeg) 0) ((2 : Int32).toNatClampNeg) 0) ((3 : Int32).toNatClampNeg) 0) ((4 : Int32).toNatClampNeg) 0))))]) (va_runV (As := [.int 0, .int 3]) (rest := []) ⟨hx, hb, hml, hown, hg⟩ (k_X5_find_9 l D y aS H.size h0 h1 h2 h3 h4 5 h10 wp30497) (cwV 2 hg ggV_RX5_54_X5_find rfl rfl rfl (by decide +kernel) ⟨Nat.le_of_ble_eq_true rfl, Nat.le_of_ble_eq_true rfl⟩) (g_preV (q := (RX5, TX5, 5)) hK hP hD [3, 4, 5] rfl (by decide) (ci := 5) (q0 := 3) rfl rfl) rfl rfl hl.1 rfl (lv_room (Nat.le_of_ble_eq_true rfl)) dX5_findOut_62 ⟨Nat.le_of_ble_eq_true rfl, Nat.le_of_ble_eq_true rfl⟩) hP hD hS hA [3, 4, 5] [0, 1, 2] rfl rfl (by decide) (by decide) ?_
  clear hP hD hS H locs
  refine fun u H locs hq hP hD hS => ?_
  replace hP : va_P D vwCl [(h1, .inr (8, [.ref h6, .int 5])), (h2, .inr (8, [.ref h7, .int wp30495])), (h7, .inl (y 1, 200, .inr (.inl (vp_updL (vp_updL (vp_updL (vp_updL (vp_updL wf30496 ((0 : Int32).toNatClampNeg) 0) ((1 : Int32).toNatClampNeg) 0) ((2 : Int32).toNatClampNeg) 0) ((3 : Int32).toNatClampNeg) 0) ((4 : Int32).toNatClampNeg) 0)))), (h0, .inr (5, [.ref h1, .ref h2, .ref h3, .ref h4, .int 5])), (h4, .inr (8, [.ref h10, .int wp30497])), (h10, .inl (y 1, 3, .inr (.inl (fun _ => 0))))] H := hP
  replace hD : va_D A [(h1, .inr (8, [.ref h6, .int 5])), (h2, .inr (8, [.ref h7, .int wp30495])), (h7, .inl (y 1, 200, .inr (.inl (vp_updL (vp_updL (vp_updL (vp_updL (vp_updL wf30496 ((0 : Int32).toNatClampNeg) 0) ((1 : Int32).toNatClampNeg) 0) ((2 : Int32).toNatClampNeg) 0) ((3 : Int32).toNatClampNeg) 0) ((4 : Int32).toNatClampNeg) 0)))), (h0, .inr (5, [.ref h1, .ref h2, .ref h3, .ref h4, .int 5])), (h4, .inr (8, [.ref h10, .int wp30497])), (h10, .inl (y 1, 3, .inr (.inl (fun _ => 0))))] := hD
  refine lv_iinc (v := 1) (lv' := [(2, .int 1), (1, .int 3), (0, .ref h0)]) hx hb dX5_findOut_65 hl (k := 0) rfl (by decide +kernel) (by decide) rfl ?_
  clear hl
  clear ls
  intro ls hl
  refine lv_goto (tgt := 54) hx hb dX5_findOut_68 (by decide) ?_
  refine lv_iload_n hx hb dX5_findOut_54 rfl (lv_at hl 0 rfl) ?_
  refine lv_iconst (v := 3) hx hb dX5_findOut_55 (by decide) ?_
  refine lv_icmp_ge (tgt := 71) hx hb dX5_findOut_56 (by decide) (fun c9 => absurd c9 (by decide +kernel)) (fun _ => ?_)
  refine lv_aload_n hx hb dX5_findOut_59 rfl (lv_at hl 2 rfl) ?_
  refine lv_iload_n hx hb dX5_findOut_60 rfl (lv_at hl 0 rfl) ?_
  refine lv_iload_n hx hb dX5_findOut_61 rfl (lv_at hl 1 rfl) ?_
  refine g_av (wr := [(h1, .inr (8, [.ref h6, .int 5])), (h2, .inr (8, [.ref h7, .int wp30495])), (h7, .inl (y 1, 200, .inr (.inl (vp_updL (vp_updL (vp_updL (vp_updL (vp_updL wf30496 ((0 : Int32).toNatClampNeg) 0) ((1 : Int32).toNatClampNeg) 0) ((2 : Int32).toNatClampNeg) 0) ((3 : Int32).toNatClampNeg) 0) ((4 : Int32).toNatClampNeg) 0))))]) (va_runV (As := [.int 1, .int 3]) (rest := []) ⟨hx, hb, hml, hown, hg⟩ (k_X5_find_10 l D y aS H.size h0 h1 h2 h3 h4 5 h10 wp30497) (cwV 2 hg ggV_RX5_54_X5_find rfl rfl rfl (by decide +kernel) ⟨Nat.le_of_ble_eq_true rfl, Nat.le_of_ble_eq_true rfl⟩) (g_preV (q := (RX5, TX5, 5)) hK hP hD [3, 4, 5] rfl (by decide) (ci := 5) (q0 := 3) rfl rfl) rfl rfl hl.1 rfl (lv_room (Nat.le_of_ble_eq_true rfl)) dX5_findOut_62 ⟨Nat.le_of_ble_eq_true rfl, Nat.le_of_ble_eq_true rfl⟩) hP hD hS hA [3, 4, 5] [0, 1, 2] rfl rfl (by decide) (by decide) ?_
  clear hP hD hS H locs
  refine fun u H locs hq hP hD hS => ?_
  replace hP : va_P D vwCl [(h1, .inr (8, [.ref h6, .int 5])), (h2, .inr (8, [.ref h7, .int wp30495])), (h7, .inl (y 1, 200, .inr (.inl (vp_updL (vp_updL (vp_updL (vp_updL (vp_updL wf30496 ((0 : Int32).toNatClampNeg) 0) ((1 : Int32).toNatClampNeg) 0) ((2 : Int32).toNatClampNeg) 0) ((3 : Int32).toNatClampNeg) 0) ((4 : Int32).toNatClampNeg) 0)))), (h0, .inr (5, [.ref h1, .ref h2, .ref h3, .ref h4, .int 5])), (h4, .inr (8, [.ref h10, .int wp30497])), (h10, .inl (y 1, 3, .inr (.inl (fun _ => 0))))] H := hP
  replace hD : va_D A [(h1, .inr (8, [.ref h6, .int 5])), (h2, .inr (8, [.ref h7, .int wp30495])), (h7, .inl (y 1, 200, .inr (.inl (vp_updL (vp_updL (vp_updL (vp_updL (vp_updL wf30496 ((0 : Int32).toNatClampNeg) 0) ((1 : Int32).toNatClampNeg) 0) ((2 : Int32).toNatClampNeg) 0) ((3 : Int32).toNatClampNeg) 0) ((4 : Int32).toNatClampNeg) 0)))), (h0, .inr (5, [.ref h1, .ref h2, .ref h3, .ref h4, .int 5])), (h4, .inr (8, [.ref h10, .int wp30497])), (h10, .inl (y 1, 3, .inr (.inl (fun _ => 0))))] := hD
  refine lv_iinc (v := 2) (lv' := [(2, .int 2), (1, .int 3), (0, .ref h0)]) hx hb dX5_findOut_65 hl (k := 0) rfl (by decide +kernel) (by decide) rfl ?_
  clear hl
  clear ls
  intro ls hl
  refine lv_goto (tgt := 54) hx hb dX5_findOut_68 (by decide) ?_
  refine lv_iload_n hx hb dX5_findOut_54 rfl (lv_at hl 0 rfl) ?_
  refine lv_iconst (v := 3) hx hb dX5_findOut_55 (by decide) ?_
  refine lv_icmp_ge (tgt := 71) hx hb dX5_findOut_56 (by decide) (fun c9 => absurd c9 (by decide +kernel)) (fun _ => ?_)
  refine lv_aload_n hx hb dX5_findOut_59 rfl (lv_at hl 2 rfl) ?_
  refine lv_iload_n hx hb dX5_findOut_60 rfl (lv_at hl 0 rfl) ?_
  refine lv_iload_n hx hb dX5_findOut_61 rfl (lv_at hl 1 rfl) ?_
  refine g_av (wr := [(h1, .inr (8, [.ref h6, .int 5])), (h2, .inr (8, [.ref h7, .int wp30495])), (h7, .inl (y 1, 200, .inr (.inl (vp_updL (vp_updL (vp_updL (vp_updL (vp_updL wf30496 ((0 : Int32).toNatClampNeg) 0) ((1 : Int32).toNatClampNeg) 0) ((2 : Int32).toNatClampNeg) 0) ((3 : Int32).toNatClampNeg) 0) ((4 : Int32).toNatClampNeg) 0))))]) (va_runV (As := [.int 2, .int 3]) (rest := []) ⟨hx, hb, hml, hown, hg⟩ (k_X5_find_11 l D y aS H.size h0 h1 h2 h3 h4 5 h10 wp30497) (cwV 2 hg ggV_RX5_54_X5_find rfl rfl rfl (by decide +kernel) ⟨Nat.le_of_ble_eq_true rfl, Nat.le_of_ble_eq_true rfl⟩) (g_preV (q := (RX5, TX5, 5)) hK hP hD [3, 4, 5] rfl (by decide) (ci := 5) (q0 := 3) rfl rfl) rfl rfl hl.1 rfl (lv_room (Nat.le_of_ble_eq_true rfl)) dX5_findOut_62 ⟨Nat.le_of_ble_eq_true rfl, Nat.le_of_ble_eq_true rfl⟩) hP hD hS hA [3, 4, 5] [0, 1, 2] rfl rfl (by decide) (by decide) ?_
  clear hP hD hS H locs
  refine fun u H locs hq hP hD hS => ?_
  replace hP : va_P D vwCl [(h1, .inr (8, [.ref h6, .int 5])), (h2, .inr (8, [.ref h7, .int wp30495])), (h7, .inl (y 1, 200, .inr (.inl (vp_updL (vp_updL (vp_updL (vp_updL (vp_updL wf30496 ((0 : Int32).toNatClampNeg) 0) ((1 : Int32).toNatClampNeg) 0) ((2 : Int32).toNatClampNeg) 0) ((3 : Int32).toNatClampNeg) 0) ((4 : Int32).toNatClampNeg) 0)))), (h0, .inr (5, [.ref h1, .ref h2, .ref h3, .ref h4, .int 5])), (h4, .inr (8, [.ref h10, .int wp30497])), (h10, .inl (y 1, 3, .inr (.inl (fun _ => 0))))] H := hP
  replace hD : va_D A [(h1, .inr (8, [.ref h6, .int 5])), (h2, .inr (8, [.ref h7, .int wp30495])), (h7, .inl (y 1, 200, .inr (.inl (vp_updL (vp_updL (vp_updL (vp_updL (vp_updL wf30496 ((0 : Int32).toNatClampNeg) 0) ((1 : Int32).toNatClampNeg) 0) ((2 : Int32).toNatClampNeg) 0) ((3 : Int32).toNatClampNeg) 0) ((4 : Int32).toNatClampNeg) 0)))), (h0, .inr (5, [.ref h1, .ref h2, .ref h3, .ref h4, .int 5])), (h4, .inr (8, [.ref h10, .int wp30497])), (h10, .inl (y 1, 3, .inr (.inl (fun _ => 0))))] := hD
  refine lv_iinc (v := 3) (lv' := [(2, .int 3), (1, .int 3), (0, .ref h0)]) hx hb dX5_findOut_65 hl (k := 0) rfl (by decide +kernel) (by decide) rfl ?_
  clear hl
  clear ls
  intro ls hl
  refine lv_goto (tgt := 54) hx hb dX5_findOut_68 (by decide) ?_
  refine lv_iload_n hx hb dX5_findOut_54 rfl (lv_at hl 0 rfl) ?_
  refine lv_iconst (v := 3) hx hb dX5_findOut_55 (by decide) ?_
  refine lv_icmp_ge (tgt := 71) hx hb dX5_findOut_56 (by decide) (fun _ => ?_) (fun c9 => absurd c9 (by decide +kernel))
  refine lv_iinc (v := 4) (lv' := [(1, .int 4), (2, .int 3), (0, .ref h0)]) hx hb dX5_findOut_71 hl (k := 1) rfl (by decide +kernel) (by decide) rfl ?_
  clear hl
  clear ls
  intro ls hl
  refine lv_goto (tgt := 41) hx hb dX5_findOut_74 (by decide) ?_
  refine lv_iload_n hx hb dX5_findOut_41 rfl (lv_at hl 0 rfl) ?_
  refine lv_aload_n hx hb dX5_findOut_42 rfl (lv_at hl 2 rfl) ?_
  refine gm_get (D := D) (ci := 5) (v := .ref h1) (C := RX5) (T := TX5) (N := 5) hx hb hg inlX5 hown hK.1 hP 3 rfl rfl 0 (by decide) tX5_0 (hg _ gw_138) rfl dX5_findOut_43 ?_
  refine gm_get (D := D) (ci := 8) (v := .int 5) (C := RX8) (T := TX8) (N := 2) hx hb hg inlX8 hown hK.1 hP 0 rfl rfl 1 (by decide) tX8_1 (hg _ gw_1441) rfl dX5_findOut_46 ?_
  refine lv_icmp_ge (tgt := 77) hx hb dX5_findOut_49 (by decide) (fun c9 => absurd c9 (by decide +kernel)) (fun _ => ?_)
  refine lv_iconst (v := 0) hx hb dX5_findOut_52 (by decide) ?_
  refine lv_istore_n (lv' := [(2, .int 0), (1, .int 4), (0, .ref h0)]) hx hb dX5_findOut_53 rfl hl (by decide) rfl ?_
  clear hl
  clear ls
  intro ls hl
  refine lv_iload_n hx hb dX5_findOut_54 rfl (lv_at hl 0 rfl) ?_
  refine lv_iconst (v := 3) hx hb dX5_findOut_55 (by decide) ?_
  refine lv_icmp_ge (tgt := 71) hx hb dX5_findOut_56 (by decide) (fun c9 => absurd c9 (by decide +kernel)) (fun _ => ?_)
  refine lv_aload_n hx hb dX5_findOut_59 rfl (lv_at hl 2 rfl) ?_
  refine lv_iload_n hx hb dX5_findOut_60 rfl (lv_at hl 0 rfl) ?_
  refine lv_iload_n hx hb dX5_findOut_61 rfl (lv_at hl 1 rfl) ?_
  refine g_av (wr := [(h1, .inr (8, [.ref h6, .int 5])), (h2, .inr (8, [.ref h7, .int wp30495])), (h7, .inl (y 1, 200, .inr (.inl (vp_updL (vp_updL (vp_updL (vp_updL (vp_updL wf30496 ((0 : Int32).toNatClampNeg) 0) ((1 : Int32).toNatClampNeg) 0) ((2 : Int32).toNatClampNeg) 0) ((3 : Int32).toNatClampNeg) 0) ((4 : Int32).toNatClampNeg) 0))))]) (va_runV (As := [.int 0, .int 4]) (rest := []) ⟨hx, hb, hml, hown, hg⟩ (k_X5_find_12 l D y aS H.size h0 h1 h2 h3 h4 5 h10 wp30497) (cwV 2 hg ggV_RX5_54_X5_find rfl rfl rfl (by decide +kernel) ⟨Nat.le_of_ble_eq_true rfl, Nat.le_of_ble_eq_true rfl⟩) (g_preV (q := (RX5, TX5, 5)) hK hP hD [3, 4, 5] rfl (by decide) (ci := 5) (q0 := 3) rfl rfl) rfl rfl hl.1 rfl (lv_room (Nat.le_of_ble_eq_true rfl)) dX5_findOut_62 ⟨Nat.le_of_ble_eq_true rfl, Nat.le_of_ble_eq_true rfl⟩) hP hD hS hA [3, 4, 5] [0, 1, 2] rfl rfl (by decide) (by decide) ?_
  clear hP hD hS H locs
  refine fun u H locs hq hP hD hS => ?_
  replace hP : va_P D vwCl [(h1, .inr (8, [.ref h6, .int 5])), (h2, .inr (8, [.ref h7, .int wp30495])), (h7, .inl (y 1, 200, .inr (.inl (vp_updL (vp_updL (vp_updL (vp_updL (vp_updL wf30496 ((0 : Int32).toNatClampNeg) 0) ((1 : Int32).toNatClampNeg) 0) ((2 : Int32).toNatClampNeg) 0) ((3 : Int32).toNatClampNeg) 0) ((4 : Int32).toNatClampNeg) 0)))), (h0, .inr (5, [.ref h1, .ref h2, .ref h3, .ref h4, .int 5])), (h4, .inr (8, [.ref h10, .int wp30497])), (h10, .inl (y 1, 3, .inr (.inl (fun _ => 0))))] H := hP
  replace hD : va_D A [(h1, .inr (8, [.ref h6, .int 5])), (h2, .inr (8, [.ref h7, .int wp30495])), (h7, .inl (y 1, 200, .inr (.inl (vp_updL (vp_updL (vp_updL (vp_updL (vp_updL wf30496 ((0 : Int32).toNatClampNeg) 0) ((1 : Int32).toNatClampNeg) 0) ((2 : Int32).toNatClampNeg) 0) ((3 : Int32).toNatClampNeg) 0) ((4 : Int32).toNatClampNeg) 0)))), (h0, .inr (5, [.ref h1, .ref h2, .ref h3, .ref h4, .int 5])), (h4, .inr (8, [.ref h10, .int wp30497])), (h10, .inl (y 1, 3, .inr (.inl (fun _ => 0))))] := hD
  refine lv_iinc (v := 1) (lv' := [(2, .int 1), (1, .int 4), (0, .ref h0)]) hx hb dX5_findOut_65 hl (k := 0) rfl (by decide +kernel) (by decide) rfl ?_
  clear hl
  clear ls
  intro ls hl
  refine lv_goto (tgt := 54) hx hb dX5_findOut_68 (by decide) ?_
  refine lv_iload_n hx hb dX5_findOut_54 rfl (lv_at hl 0 rfl) ?_
  refine lv_iconst (v := 3) hx hb dX5_findOut_55 (by decide) ?_
  refine lv_icmp_ge (tgt := 71) hx hb dX5_findOut_56 (by decide) (fun c9 => absurd c9 (by decide +kernel)) (fun _ => ?_)
  refine lv_aload_n hx hb dX5_findOut_59 rfl (lv_at hl 2 rfl) ?_
  refine lv_iload_n hx hb dX5_findOut_60 rfl (lv_at hl 0 rfl) ?_
  refine lv_iload_n hx hb dX5_findOut_61 rfl (lv_at hl 1 rfl) ?_
  refine g_av (wr := [(h1, .inr (8, [.ref h6, .int 5])), (h2, .inr (8, [.ref h7, .int wp30495])), (h7, .inl (y 1, 200, .inr (.inl (vp_updL (vp_updL (vp_updL (vp_updL (vp_updL wf30496 ((0 : Int32).toNatClampNeg) 0) ((1 : Int32).toNatClampNeg) 0) ((2 : Int32).toNatClampNeg) 0) ((3 : Int32).toNatClampNeg) 0) ((4 : Int32).toNatClampNeg) 0))))]) (va_runV (As := [.int 1, .int 4]) (rest := []) ⟨hx, hb, hml, hown, hg⟩ (k_X5_find_13 l D y aS H.size h0 h1 h2 h3 h4 5 h10 wp30497) (cwV 2 hg ggV_RX5_54_X5_find rfl rfl rfl (by decide +kernel) ⟨Nat.le_of_ble_eq_true rfl, Nat.le_of_ble_eq_true rfl⟩) (g_preV (q := (RX5, TX5, 5)) hK hP hD [3, 4, 5] rfl (by decide) (ci := 5) (q0 := 3) rfl rfl) rfl rfl hl.1 rfl (lv_room (Nat.le_of_ble_eq_true rfl)) dX5_findOut_62 ⟨Nat.le_of_ble_eq_true rfl, Nat.le_of_ble_eq_true rfl⟩) hP hD hS hA [3, 4, 5] [0, 1, 2] rfl rfl (by decide) (by decide) ?_
  clear hP hD hS H locs
  refine fun u H locs hq hP hD hS => ?_
  replace hP : va_P D vwCl [(h1, .inr (8, [.ref h6, .int 5])), (h2, .inr (8, [.ref h7, .int wp30495])), (h7, .inl (y 1, 200, .inr (.inl (vp_updL (vp_updL (vp_updL (vp_updL (vp_updL wf30496 ((0 : Int32).toNatClampNeg) 0) ((1 : Int32).toNatClampNeg) 0) ((2 : Int32).toNatClampNeg) 0) ((3 : Int32).toNatClampNeg) 0) ((4 : Int32).toNatClampNeg) 0)))), (h0, .inr (5, [.ref h1, .ref h2, .ref h3, .ref h4, .int 5])), (h4, .inr (8, [.ref h10, .int wp30497])), (h10, .inl (y 1, 3, .inr (.inl (fun _ => 0))))] H := hP
  replace hD : va_D A [(h1, .inr (8, [.ref h6, .int 5])), (h2, .inr (8, [.ref h7, .int wp30495])), (h7, .inl (y 1, 200, .inr (.inl (vp_updL (vp_updL (vp_updL (vp_updL (vp_updL wf30496 ((0 : Int32).toNatClampNeg) 0) ((1 : Int32).toNatClampNeg) 0) ((2 : Int32).toNatClampNeg) 0) ((3 : Int32).toNatClampNeg) 0) ((4 : Int32).toNatClampNeg) 0)))), (h0, .inr (5, [.ref h1, .ref h2, .ref h3, .ref h4, .int 5])), (h4, .inr (8, [.ref h10, .int wp30497])), (h10, .inl (y 1, 3, .inr (.inl (fun _ => 0))))] := hD
  refine lv_iinc (v := 2) (lv' := [(2, .int 2), (1, .int 4), (0, .ref h0)]) hx hb dX5_findOut_65 hl (k := 0) rfl (by decide +kernel) (by decide) rfl ?_
  clear hl
  clear ls
  intro ls hl
  refine lv_goto (tgt := 54) hx hb dX5_findOut_68 (by decide) ?_
  refine lv_iload_n hx hb dX5_findOut_54 rfl (lv_at hl 0 rfl) ?_
  refine lv_iconst (v := 3) hx hb dX5_findOut_55 (by decide) ?_
  refine lv_icmp_ge (tgt := 71) hx hb dX5_findOut_56 (by decide) (fun c9 => absurd c9 (by decide +kernel)) (fun _ => ?_)
  refine lv_aload_n hx hb dX5_findOut_59 rfl (lv_at hl 2 rfl) ?_
  refine lv_iload_n hx hb dX5_findOut_60 rfl (lv_at hl 0 rfl) ?_
  refine lv_iload_n hx hb dX5_findOut_61 rfl (lv_at hl 1 rfl) ?_
  refine g_av (wr := [(h1, .inr (8, [.ref h6, .int 5])), (h2, .inr (8, [.ref h7, .int wp30495])), (h7, .inl (y 1, 200, .inr (.inl (vp_updL (vp_updL (vp_updL (vp_updL (vp_updL wf30496 ((0 : Int32).toNatClampNeg) 0) ((1 : Int32).toNatClampNeg) 0) ((2 : Int32).toNatClampNeg) 0) ((3 : Int32).toNatClampNeg) 0) ((4 : Int32).toNatClampNeg) 0))))]) (va_runV (As := [.int 2, .int 4]) (rest := []) ⟨hx, hb, hml, hown, hg⟩ (k_X5_find_14 l D y aS H.size h0 h1 h2 h3 h4 5 h10 wp30497) (cwV 2 hg ggV_RX5_54_X5_find rfl rfl rfl (by decide +kernel) ⟨Nat.le_of_ble_eq_true rfl, Nat.le_of_ble_eq_true rfl⟩) (g_preV (q := (RX5, TX5, 5)) hK hP hD [3, 4, 5] rfl (by decide) (ci := 5) (q0 := 3) rfl rfl) rfl rfl hl.1 rfl (lv_room (Nat.le_of_ble_eq_true rfl)) dX5_findOut_62 ⟨Nat.le_of_ble_eq_true rfl, Nat.le_of_ble_eq_true rfl⟩) hP hD hS hA [3, 4, 5] [0, 1, 2] rfl rfl (by decide) (by decide) ?_
  clear hP hD hS H locs
  refine fun u H locs hq hP hD hS => ?_
  replace hP : va_P D vwCl [(h1, .inr (8, [.ref h6, .int 5])), (h2, .inr (8, [.ref h7, .int wp30495])), (h7, .inl (y 1, 200, .inr (.inl (vp_updL (vp_updL (vp_updL (vp_updL (vp_updL wf30496 ((0 : Int32).toNatClampNeg) 0) ((1 : Int32).toNatClampNeg) 0) ((2 : Int32).toNatClampNeg) 0) ((3 : Int32).toNatClampNeg) 0) ((4 : Int32).toNatClampNeg) 0)))), (h0, .inr (5, [.ref h1, .ref h2, .ref h3, .ref h4, .int 5])), (h4, .inr (8, [.ref h10, .int wp30497])), (h10, .inl (y 1, 3, .inr (.inl (fun _ => 0))))] H := hP
  replace hD : va_D A [(h1, .inr (8, [.ref h6, .int 5])), (h2, .inr (8, [.ref h7, .int wp30495])), (h7, .inl (y 1, 200, .inr (.inl (vp_updL (vp_updL (vp_updL (vp_updL (vp_updL wf30496 ((0 : Int32).toNatClampNeg) 0) ((1 : Int32).toNatClampNeg) 0) ((2 : Int32).toNatClampNeg) 0) ((3 : Int32).toNatClampNeg) 0) ((4 : Int32).toNatClampNeg) 0)))), (h0, .inr (5, [.ref h1, .ref h2, .ref h3, .ref h4, .int 5])), (h4, .inr (8, [.ref h10, .int wp30497])), (h10, .inl (y 1, 3, .inr (.inl (fun _ => 0))))] := hD
  refine lv_iinc (v := 3) (lv' := [(2, .int 3), (1, .int 4), (0, .ref h0)]) hx hb dX5_findOut_65 hl (k := 0) rfl (by decide +kernel) (by decide) rfl ?_
  clear hl
  clear ls
  intro ls hl
  refine lv_goto (tgt := 54) hx hb dX5_findOut_68 (by decide) ?_
  refine lv_iload_n hx hb dX5_findOut_54 rfl (lv_at hl 0 rfl) ?_
  refine lv_iconst (v := 3) hx hb dX5_findOut_55 (by decide) ?_
  refine lv_icmp_ge (tgt := 71) hx hb dX5_findOut_56 (by decide) (fun _ => ?_) (fun c9 => absurd c9 (by decide +kernel))
  refine lv_iinc (v := 5) (lv' := [(1, .int 5), (2, .int 3), (0, .ref h0)]) hx hb dX5_findOut_71 hl (k := 1) rfl (by decide +kernel) (by decide) rfl ?_
  clear hl
  clear ls
  intro ls hl
  refine lv_goto (tgt := 41) hx hb dX5_findOut_74 (by decide) ?_
  refine lv_iload_n hx hb dX5_findOut_41 rfl (lv_at hl 0 rfl) ?_
  refine lv_aload_n hx hb dX5_findOut_42 rfl (lv_at hl 2 rfl) ?_
  refine gm_get (D := D) (ci := 5) (v := .ref h1) (C := RX5) (T := TX5) (N := 5) hx hb hg inlX5 hown hK.1 hP 3 rfl rfl 0 (by decide) tX5_0 (hg _ gw_138) rfl dX5_findOut_43 ?_
  refine gm_get (D := D) (ci := 8) (v := .int 5) (C := RX8) (T := TX8) (N := 2) hx hb hg inlX8 hown hK.1 hP 0 rfl rfl 1 (by decide) tX8_1 (hg _ gw_1441) rfl dX5_findOut_46 ?_
  refine lv_icmp_ge (tgt := 77) hx hb dX5_findOut_49 (by decide) (fun _ => ?_) (fun c9 => absurd c9 (by decide +kernel))
  exact g_vret hx hb hr hlocks () (hP.sub [3, 0, 1, 2, 4, 5] rfl) (hD.sub [3, 0, 1, 2, 4, 5] (by decide +kernel) rfl) hS trivial (Nat.le_of_ble_eq_true rfl) (Nat.le_of_ble_eq_true rfl) dX5_findOut_77
set_option maxRecDepth 100000 in
set_option maxHeartbeats 4000000 in
theorem k_X5_append_4 (l : Launch) (D : va_G) (y : Nat → ClassId) (aS : Nat → Nat) (sz : Nat) (h0 : Nat) (p1 : Int32) (h2 : Nat) (h3 : Nat) (h4 : Nat) (h5 : Nat) (h6 : Nat) (wf30519 : Nat → Int64) (h8 : Nat) (wp30520 : Int32) (wf30521 : Nat → Int64) (h11 : Nat) (wp30522 : Int32) : Met l yX5_append (Cond.code yX5_append cX5_append 6 (some .int) :: wsL_law) ({ frames := 3, cells := 0, slots := 0, locals := 68 } : Room) (va_Pc [.ref h0, .int p1, .int 5] (gI D y aS [(h0, .inr (5, [.ref h2, .ref h3, .ref h4, .ref h5, .int 0])), (h2, .inr (8, [.ref h6, .int 0])), (h6, .inl (y 1, 200, .inr (.inl wf30519))), (h3, .inr (8, [.ref h8, .int wp30520])), (h8, .inl (y 1, 200, .inr (.inl wf30521))), (h5, .inr (8, [.ref h11, .int wp30522])), (h11, .inl (y 1, 3, .inr (.inl (fun _ => 0))))] sz)) (va_Qi (fun (r : Int32) (u : Unit) => 5 = r) (fun u => gO D (va_A [(h0, .inr (5, [.ref h2, .ref h3, .ref h4, .ref h5, .int 0])), (h2, .inr (8, [.ref h6, .int 0])), (h6, .inl (y 1, 200, .inr (.inl wf30519))), (h3, .inr (8, [.ref h8, .int wp30520])), (h8, .inl (y 1, 200, .inr (.inl wf30521))), (h5, .inr (8, [.ref h11, .int wp30522])), (h11, .inl (y 1, 3, .inr (.inl (fun _ => 0))))] sz) [(h0, .inr (5, [.ref h2, .ref h3, .ref h4, .ref h5, .int 5])), (h2, .inr (8, [.ref h6, .int 5])), (h6, .inl (y 1, 200, .inr (.inl (vp_updL (vp_updL (vp_updL (vp_updL (vp_updL (vp_updL (vp_updL (vp_updL (vp_updL (vp_updL wf30519 ((0 : Int32).toNatClampNeg) 0) ((1 : Int32).toNatClampNeg) 0) ((2 : Int32).toNatClampNeg) 0) ((3 : Int32).toNatClampNeg) 0) ((4 : Int32).toNatClampNeg) 0) ((4 : Int32).toNatClampNeg) ((p1 - p1 / 10 * 10).toInt64)) ((3 : Int32).toNatClampNeg) (((p1 / 10) - (p1 / 10) / 10 * 10).toInt64)) ((2 : Int32).toNatClampNeg) ((((p1 / 10) / 10) - ((p1 / 10) / 10) / 10 * 10).toInt64)) ((1 : Int32).toNatClampNeg) (((((p1 / 10) / 10) / 10) - (((p1 / 10) / 10) / 10) / 10 * 10).toInt64)) ((0 : Int32).toNatClampNeg) ((((((p1 / 10) / 10) / 10) / 10) - ((((p1 / 10) / 10) / 10) / 10) / 10 * 10).toInt64))))), (h3, .inr (8, [.ref h8, .int wp30520])), (h8, .inl (y 1, 200, .inr (.inl (vp_updL (vp_updL (vp_updL (vp_updL (vp_updL wf30521 ((0 : Int32).toNatClampNeg) 0) ((1 : Int32).toNatClampNeg) 0) ((2 : Int32).toNatClampNeg) 0) ((3 : Int32).toNatClampNeg) 0) ((4 : Int32).toNatClampNeg) 0)))), (h5, .inr (8, [.ref h11, .int wp30522])), (h11, .inl (y 1, 3, .inr (.inl (fun _ => 0))))]) (va_A [(h0, .inr (5, [.ref h2, .ref h3, .ref h4, .ref h5, .int 0])), (h2, .inr (8, [.ref h6, .int 0])), (h6, .inl (y 1, 200, .inr (.inl wf30519))), (h3, .inr (8, [.ref h8, .int wp30520])), (h8, .inl (y 1, 200, .inr (.inl wf30521))), (h5, .inr (8, [.ref h11, .int wp30522])), (h11, .inl (y 1, 3, .inr (.inl (fun _ => 0))))] sz)) 0 0 (va_A [(h0, .inr (5, [.ref h2, .ref h3, .ref h4, .ref h5, .int 0])), (h2, .inr (8, [.ref h6, .int 0])), (h6, .inl (y 1, 200, .inr (.inl wf30519))), (h3, .inr (8, [.ref h8, .int wp30520])), (h8, .inl (y 1, 200, .inr (.inl wf30521))), (h5, .inr (8, [.ref h11, .int wp30522])), (h11, .inl (y 1, 3, .inr (.inl (fun _ => 0))))] sz) := by
  refine g_of (by decide) (Nat.le_of_ble_eq_true rfl) ?_
  intro p e s m below meth c ls A hx hb hr hml hown hg hlocks hin hsz hK hP hD hS hA hAe hl
  rw [← hAe]
  replace hown : s.vm.findClass RX5 = some m.cls := hown
  replace hl : lv_has ls 6 [(0, .ref h0), (1, .int p1), (2, .int 5)] := hl
  refine lv_aload_n hx hb dX5_append_0 rfl (lv_at hl 0 rfl) ?_
  refine gm_get (D := D) (ci := 5) (v := .ref h2) (C := RX5) (T := TX5) (N := 5) hx hb hg inlX5 hown hK.1 hP 0 rfl rfl 0 (by decide) tX5_0 (hg _ gw_138) rfl dX5_append_1 ?_
  refine gm_get (D := D) (ci := 8) (v := .int 0) (C := RX8) (T := TX8) (N := 2) hx hb hg inlX8 hown hK.1 hP 1 rfl rfl 1 (by decide) tX8_1 (hg _ gw_1441) rfl dX5_append_4 ?_
  refine lv_istore_n (lv' := [(3, .int 0), (0, .ref h0), (1, .int p1), (2, .int 5)]) hx hb dX5_append_7 rfl hl (by decide) rfl ?_
  clear hl
  clear ls
  intro ls hl
  refine lv_aload_n hx hb dX5_append_8 rfl (lv_at hl 1 rfl) ?_
  refine gm_get (D := D) (ci := 5) (v := .ref h2) (C := RX5) (T := TX5) (N := 5) hx hb hg inlX5 hown hK.1 hP 0 rfl rfl 0 (by decide) tX5_0 (hg _ gw_138) rfl dX5_append_9 ?_
  refine lv_iload_n hx hb dX5_append_12 rfl (lv_at hl 3 rfl) ?_
  refine lv_lconst (v := 0) hx hb dX5_append_13 (by decide) ?_
  refine g_av (wr := [(h0, .inr (5, [.ref h2, .ref h3, .ref h4, .ref h5, .int 0])), (h3, .inr (8, [.ref h8, .int wp30520])), (h8, .inl (y 1, 200, .inr (.inl wf30521))), (h5, .inr (8, [.ref h11, .int wp30522])), (h11, .inl (y 1, 3, .inr (.inl (fun _ => 0))))]) (va_runV (As := [.int 5, .long 0]) (rest := []) ⟨hx, hb, hml, hown, hg⟩ (k_X8_addMany_8 l D y aS s.heap.size h2 h6 wf30519) (cwV 2 hg ggV_RX5_44_X8_addMany rfl rfl rfl (by decide +kernel) ⟨Nat.le_of_ble_eq_true rfl, Nat.le_of_ble_eq_true rfl⟩) (g_preV (q := (RX8, TX8, 2)) hK hP hD [1, 2] rfl (by decide) (ci := 8) (q0 := 1) rfl rfl) rfl rfl hl.1 rfl (lv_room (Nat.le_of_ble_eq_true rfl)) dX5_append_14 ⟨Nat.le_of_ble_eq_true rfl, Nat.le_of_ble_eq_true rfl⟩) hP hD hS hA [1, 2] [0, 3, 4, 5, 6] rfl rfl (by decide) (by decide) ?_
  clear hP hD hS
  refine fun u H locs hq hP hD hS => ?_
  replace hP : va_P D vwCl [(h0, .inr (5, [.ref h2, .ref h3, .ref h4, .ref h5, .int 0])), (h3, .inr (8, [.ref h8, .int wp30520])), (h8, .inl (y 1, 200, .inr (.inl wf30521))), (h5, .inr (8, [.ref h11, .int wp30522])), (h11, .inl (y 1, 3, .inr (.inl (fun _ => 0)))), (h2, .inr (8, [.ref h6, .int 5])), (h6, .inl (y 1, 200, .inr (.inl (vp_updL (vp_updL (vp_updL (vp_updL (vp_updL wf30519 ((0 : Int32).toNatClampNeg) 0) ((1 : Int32).toNatClampNeg) 0) ((2 : Int32).toNatClampNeg) 0) ((3 : Int32).toNatClampNeg) 0) ((4 : Int32).toNatClampNeg) 0))))] H := hP
  replace hD : va_D A [(h0, .inr (5, [.ref h2, .ref h3, .ref h4, .ref h5, .int 0])), (h3, .inr (8, [.ref h8, .int wp30520])), (h8, .inl (y 1, 200, .inr (.inl wf30521))), (h5, .inr (8, [.ref h11, .int wp30522])), (h11, .inl (y 1, 3, .inr (.inl (fun _ => 0)))), (h2, .inr (8, [.ref h6, .int 5])), (h6, .inl (y 1, 200, .inr (.inl (vp_updL (vp_updL (vp_updL (vp_updL (vp_updL wf30519 ((0 : Int32).toNatClampNeg) 0) ((1 : Int32).toNatClampNeg) 0) ((2 : Int32).toNatClampNeg) 0) ((3 : Int32).toNatClampNeg) 0) ((4 : Int32).toNatClampNeg) 0))))] := hD
  refine lv_iload_n hx hb dX5_append_17 rfl (lv_at hl 2 rfl) ?_
  refine lv_istore (lv' := [(4, .int p1), (3, .int 0), (0, .ref h0), (1, .int p1), (2, .int 5)]) hx hb dX5_append_18 hl (by decide) rfl ?_
  clear hl
  clear ls
  intro ls hl
  refine lv_iload_n hx hb dX5_append_20 rfl (lv_at hl 1 rfl) ?_
  refine lv_iload_n hx hb dX5_append_21 rfl (lv_at hl 4 rfl) ?_
  refine lv_iadd hx hb dX5_append_22 ?_
  refine g_fi (v := 5) (by decide +kernel) ?_
  refine lv_iconst (v := 1) hx hb dX5_append_23 (by decide) ?_
  refine lv_isub hx hb dX5_append_24 ?_
  refine g_fi (v := 4) (by decide +kernel) ?_
  refine lv_istore (lv' := [(5, .int 4), (4, .int p1), (3, .int 0), (0, .ref h0), (1, .int p1), (2, .int 5)]) hx hb dX5_append_25 hl (by decide) rfl ?_
  clear hl
  clear ls
  intro ls hl
  refine lv_iload hx hb dX5_append_27 (lv_at hl 0 rfl) ?_
  refine lv_iload_n hx hb dX5_append_29 rfl (lv_at hl 2 rfl) ?_
  refine lv_icmp_lt (tgt := 61) hx hb dX5_append_30 (by decide) (fun c9 => absurd c9 (by decide +kernel)) (fun _ => ?_)
  refine lv_aload_n hx hb dX5_append_33 rfl (lv_at hl 3 rfl) ?_
  refine gm_get (D := D) (ci := 5) (v := .ref h2) (C := RX5) (T := TX5) (N := 5) hx hb hg inlX5 hown hK.1 hP 0 rfl rfl 0 (by decide) tX5_0 (hg _ gw_138) rfl dX5_append_34 ?_
  refine lv_iload hx hb dX5_append_37 (lv_at hl 0 rfl) ?_
  refine lv_iload hx hb dX5_append_39 (lv_at hl 1 rfl) ?_
  refine lv_bipush (v := 10) hx hb dX5_append_41 (by decide +kernel) ?_
  refine lv_irem hx hb dX5_append_43 (by decide +kernel) ?_
  refine lv_i2l (v := ((p1 - p1 / 10 * 10).toInt64)) hx hb dX5_append_44 rfl ?_
  refine g_av (wr := [(h0, .inr (5, [.ref h2, .ref h3, .ref h4, .ref h5, .int 0])), (h3, .inr (8, [.ref h8, .int wp30520])), (h8, .inl (y 1, 200, .inr (.inl wf30521))), (h5, .inr (8, [.ref h11, .int wp30522])), (h11, .inl (y 1, 3, .inr (.inl (fun _ => 0))))]) (va_runV (As := [.int 4, .long ((p1 - p1 / 10 * 10).toInt64)]) (rest := []) ⟨hx, hb, hml, hown, hg⟩ (k_X8_set_49 l D y aS H.size h2 ((p1 - p1 / 10 * 10).toInt64) h6 5 (vp_updL (vp_updL (vp_updL (vp_updL (vp_updL wf30519 ((0 : Int32).toNatClampNeg) 0) ((1 : Int32).toNatClampNeg) 0) ((2 : Int32).toNatClampNeg) 0) ((3 : Int32).toNatClampNeg) 0) ((4 : Int32).toNatClampNeg) 0)) (cwV 2 hg ggV_RX5_29_X8_set rfl rfl rfl (by decide +kernel) ⟨Nat.le_of_ble_eq_true rfl, Nat.le_of_ble_eq_true rfl⟩) (g_preV (q := (RX8, TX8, 2)) hK hP hD [5, 6] rfl (by decide) (ci := 8) (q0 := 5) rfl rfl) rfl rfl hl.1 rfl (lv_room (Nat.le_of_ble_eq_true rfl)) dX5_append_45 ⟨Nat.le_of_ble_eq_true rfl, Nat.le_of_ble_eq_true rfl⟩) hP hD hS hA [5, 6] [0, 1, 2, 3, 4] rfl rfl (by decide) (by decide) ?_
  clear hP hD hS H locs
  refine fun u H locs hq hP hD hS => ?_
  replace hP : va_P D vwCl [(h0, .inr (5, [.ref h2, .ref h3, .ref h4, .ref h5, .int 0])), (h3, .inr (8, [.ref h8, .int wp30520])), (h8, .inl (y 1, 200, .inr (.inl wf30521))), (h5, .inr (8, [.ref h11, .int wp30522])), (h11, .inl (y 1, 3, .inr (.inl (fun _ => 0)))), (h2, .inr (8, [.ref h6, .int 5])), (h6, .inl (y 1, 200, .inr (.inl (vp_updL (vp_updL (vp_updL (vp_updL (vp_updL (vp_updL wf30519 ((0 : Int32).toNatClampNeg) 0) ((1 : Int32).toNatClampNeg) 0) ((2 : Int32).toNatClampNeg) 0) ((3 : Int32).toNatClampNeg) 0) ((4 : Int32).toNatClampNeg) 0) ((4 : Int32).toNatClampNeg) ((p1 - p1 / 10 * 10).toInt64)))))] H := hP
  replace hD : va_D A [(h0, .inr (5, [.ref h2, .ref h3, .ref h4, .ref h5, .int 0])), (h3, .inr (8, [.ref h8, .int wp30520])), (h8, .inl (y 1, 200, .inr (.inl wf30521))), (h5, .inr (8, [.ref h11, .int wp30522])), (h11, .inl (y 1, 3, .inr (.inl (fun _ => 0)))), (h2, .inr (8, [.ref h6, .int 5])), (h6, .inl (y 1, 200, .inr (.inl (vp_updL (vp_updL (vp_updL (vp_updL (vp_updL (vp_updL wf30519 ((0 : Int32).toNatClampNeg) 0) ((1 : Int32).toNatClampNeg) 0) ((2 : Int32).toNatClampNeg) 0) ((3 : Int32).toNatClampNeg) 0) ((4 : Int32).toNatClampNeg) 0) ((4 : Int32).toNatClampNeg) ((p1 - p1 / 10 * 10).toInt64)))))] := hD
  refine lv_iload hx hb dX5_append_48 (lv_at hl 1 rfl) ?_
  refine lv_bipush (v := 10) hx hb dX5_append_50 (by decide +kernel) ?_
  refine lv_idiv hx hb dX5_append_52 (by decide +kernel) ?_
  refine lv_istore (lv' := [(4, .int (p1 / 10)), (5, .int 4), (3, .int 0), (0, .ref h0), (1, .int p1), (2, .int 5)]) hx hb dX5_append_53 hl (by decide) rfl ?_
  clear hl
  clear ls
  intro ls hl
  refine lv_iinc (v := 3) (lv' := [(5, .int 3), (4, .int (p1 / 10)), (3, .int 0), (0, .ref h0), (1, .int p1), (2, .int 5)]) hx hb dX5_append_55 hl (k := 1) rfl (by decide +kernel) (by decide) rfl ?_
  clear hl
  clear ls
  intro ls hl
  refine lv_goto (tgt := 27) hx hb dX5_append_58 (by decide) ?_
  refine lv_iload hx hb dX5_append_27 (lv_at hl 0 rfl) ?_
  refine lv_iload_n hx hb dX5_append_29 rfl (lv_at hl 2 rfl) ?_
  refine lv_icmp_lt (tgt := 61) hx hb dX5_append_30 (by decide) (fun c9 => absurd c9 (by decide +kernel)) (fun _ => ?_)
  refine lv_aload_n hx hb dX5_append_33 rfl (lv_at hl 3 rfl) ?_
  refine gm_get (D := D) (ci := 5) (v := .ref h2) (C := RX5) (T := TX5) (N := 5) hx hb hg inlX5 hown hK.1 hP 0 rfl rfl 0 (by decide) tX5_0 (hg _ gw_138) rfl dX5_append_34 ?_
  refine lv_iload hx hb dX5_append_37 (lv_at hl 0 rfl) ?_
  refine lv_iload hx hb dX5_append_39 (lv_at hl 1 rfl) ?_
  refine lv_bipush (v := 10) hx hb dX5_append_41 (by decide +kernel) ?_
  refine lv_irem hx hb dX5_append_43 (by decide +kernel) ?_
  refine lv_i2l (v := (((p1 / 10) - (p1 / 10) / 10 * 10).toInt64)) hx hb dX5_append_44 rfl ?_
  refine g_av (wr := [(h0, .inr (5, [.ref h2, .ref h3, .ref h4, .ref h5, .int 0])), (h3, .inr (8, [.ref h8, .int wp30520])), (h8, .inl (y 1, 200, .inr (.inl wf30521))), (h5, .inr (8, [.ref h11, .int wp30522])), (h11, .inl (y 1, 3, .inr (.inl (fun _ => 0))))]) (va_runV (As := [.int 3, .long (((p1 / 10) - (p1 / 10) / 10 * 10).toInt64)]) (rest := []) ⟨hx, hb, hml, hown, hg⟩ (k_X8_set_48 l D y aS H.size h2 (((p1 / 10) - (p1 / 10) / 10 * 10).toInt64) h6 5 (vp_updL (vp_updL (vp_updL (vp_updL (vp_updL (vp_updL wf30519 ((0 : Int32).toNatClampNeg) 0) ((1 : Int32).toNatClampNeg) 0) ((2 : Int32).toNatClampNeg) 0) ((3 : Int32).toNatClampNeg) 0) ((4 : Int32).toNatClampNeg) 0) ((4 : Int32).toNatClampNeg) ((p1 - p1 / 10 * 10).toInt64))) (cwV 2 hg ggV_RX5_29_X8_set rfl rfl rfl (by decide +kernel) ⟨Nat.le_of_ble_eq_true rfl, Nat.le_of_ble_eq_true rfl⟩) (g_preV (q := (RX8, TX8, 2)) hK hP hD [5, 6] rfl (by decide) (ci := 8) (q0 := 5) rfl rfl) rfl rfl hl.1 rfl (lv_room (Nat.le_of_ble_eq_true rfl)) dX5_append_45 ⟨Nat.le_of_ble_eq_true rfl, Nat.le_of_ble_eq_true rfl⟩) hP hD hS hA [5, 6] [0, 1, 2, 3, 4] rfl rfl (by decide) (by decide) ?_
  clear hP hD hS H locs
  refine fun u H locs hq hP hD hS => ?_
  replace hP : va_P D vwCl [(h0, .inr (5, [.ref h2, .ref h3, .ref h4, .ref h5, .int 0])), (h3, .inr (8, [.ref h8, .int wp30520])), (h8, .inl (y 1, 200, .inr (.inl wf30521))), (h5, .inr (8, [.ref h11, .int wp30522])), (h11, .inl (y 1, 3, .inr (.inl (fun _ => 0)))), (h2, .inr (8, [.ref h6, .int 5])), (h6, .inl (y 1, 200, .inr (.inl (vp_updL (vp_updL (vp_updL (vp_updL (vp_updL (vp_updL (vp_updL wf30519 ((0 : Int32).toNatClampNeg) 0) ((1 : Int32).toNatClampNeg) 0) ((2 : Int32).toNatClampNeg) 0) ((3 : Int32).toNatClampNeg) 0) ((4 : Int32).toNatClampNeg) 0) ((4 : Int32).toNatClampNeg) ((p1 - p1 / 10 * 10).toInt64)) ((3 : Int32).toNatClampNeg) (((p1 / 10) - (p1 / 10) / 10 * 10).toInt64)))))] H := hP
  replace hD : va_D A [(h0, .inr (5, [.ref h2, .ref h3, .ref h4, .ref h5, .int 0])), (h3, .inr (8, [.ref h8, .int wp30520])), (h8, .inl (y 1, 200, .inr (.inl wf30521))), (h5, .inr (8, [.ref h11, .int wp30522])), (h11, .inl (y 1, 3, .inr (.inl (fun _ => 0)))), (h2, .inr (8, [.ref h6, .int 5])), (h6, .inl (y 1, 200, .inr (.inl (vp_updL (vp_updL (vp_updL (vp_updL (vp_updL (vp_updL (vp_updL wf30519 ((0 : Int32).toNatClampNeg) 0) ((1 : Int32).toNatClampNeg) 0) ((2 : Int32).toNatClampNeg) 0) ((3 : Int32).toNatClampNeg) 0) ((4 : Int32).toNatClampNeg) 0) ((4 : Int32).toNatClampNeg) ((p1 - p1 / 10 * 10).toInt64)) ((3 : Int32).toNatClampNeg) (((p1 / 10) - (p1 / 10) / 10 * 10).toInt64)))))] := hD
  refine lv_iload hx hb dX5_append_48 (lv_at hl 1 rfl) ?_
  refine lv_bipush (v := 10) hx hb dX5_append_50 (by decide +kernel) ?_
  refine lv_idiv hx hb dX5_append_52 (by decide +kernel) ?_
  refine lv_istore (lv' := [(4, .int ((p1 / 10) / 10)), (5, .int 3), (3, .int 0), (0, .ref h0), (1, .int p1), (2, .int 5)]) hx hb dX5_append_53 hl (by decide) rfl ?_
  clear hl
  clear ls
  intro ls hl
  refine lv_iinc (v := 2) (lv' := [(5, .int 2), (4, .int ((p1 / 10) / 10)), (3, .int 0), (0, .ref h0), (1, .int p1), (2, .int 5)]) hx hb dX5_append_55 hl (k := 1) rfl (by decide +kernel) (by decide) rfl ?_
  clear hl
  clear ls
  intro ls hl
  refine lv_goto (tgt := 27) hx hb dX5_append_58 (by decide) ?_
  refine lv_iload hx hb dX5_append_27 (lv_at hl 0 rfl) ?_
  refine lv_iload_n hx hb dX5_append_29 rfl (lv_at hl 2 rfl) ?_
  refine lv_icmp_lt (tgt := 61) hx hb dX5_append_30 (by decide) (fun c9 => absurd c9 (by decide +kernel)) (fun _ => ?_)
  refine lv_aload_n hx hb dX5_append_33 rfl (lv_at hl 3 rfl) ?_
  refine gm_get (D := D) (ci := 5) (v := .ref h2) (C := RX5) (T := TX5) (N := 5) hx hb hg inlX5 hown hK.1 hP 0 rfl rfl 0 (by decide) tX5_0 (hg _ gw_138) rfl dX5_append_34 ?_
  refine lv_iload hx hb dX5_append_37 (lv_at hl 0 rfl) ?_
  refine lv_iload hx hb dX5_append_39 (lv_at hl 1 rfl) ?_
  refine lv_bipush (v := 10) hx hb dX5_append_41 (by decide +kernel) ?_
  refine lv_irem hx hb dX5_append_43 (by decide +kernel) ?_
  refine lv_i2l (v := ((((p1 / 10) / 10) - ((p1 / 10) / 10) / 10 * 10).toInt64)) hx hb dX5_append_44 rfl ?_
  refine g_av (wr := [(h0, .inr (5, [.ref h2, .ref h3, .ref h4, .ref h5, .int 0])), (h3, .inr (8, [.ref h8, .int wp30520])), (h8, .inl (y 1, 200, .inr (.inl wf30521))), (h5, .inr (8, [.ref h11, .int wp30522])), (h11, .inl (y 1, 3, .inr (.inl (fun _ => 0))))]) (va_runV (As := [.int 2, .long ((((p1 / 10) / 10) - ((p1 / 10) / 10) / 10 * 10).toInt64)]) (rest := []) ⟨hx, hb, hml, hown, hg⟩ (k_X8_set_47 l D y aS H.size h2 ((((p1 / 10) / 10) - ((p1 / 10) / 10) / 10 * 10).toInt64) h6 5 (vp_updL (vp_updL (vp_updL (vp_updL (vp_updL (vp_updL (vp_updL wf30519 ((0 : Int32).toNatClampNeg) 0) ((1 : Int32).toNatClampNeg) 0) ((2 : Int32).toNatClampNeg) 0) ((3 : Int32).toNatClampNeg) 0) ((4 : Int32).toNatClampNeg) 0) ((4 : Int32).toNatClampNeg) ((p1 - p1 / 10 * 10).toInt64)) ((3 : Int32).toNatClampNeg) (((p1 / 10) - (p1 / 10) / 10 * 10).toInt64))) (cwV 2 hg ggV_RX5_29_X8_set rfl rfl rfl (by decide +kernel) ⟨Nat.le_of_ble_eq_true rfl, Nat.le_of_ble_eq_true rfl⟩) (g_preV (q := (RX8, TX8, 2)) hK hP hD [5, 6] rfl (by decide) (ci := 8) (q0 := 5) rfl rfl) rfl rfl hl.1 rfl (lv_room (Nat.le_of_ble_eq_true rfl)) dX5_append_45 ⟨Nat.le_of_ble_eq_true rfl, Nat.le_of_ble_eq_true rfl⟩) hP hD hS hA [5, 6] [0, 1, 2, 3, 4] rfl rfl (by decide) (by decide) ?_
  clear hP hD hS H locs
  refine fun u H locs hq hP hD hS => ?_
  replace hP : va_P D vwCl [(h0, .inr (5, [.ref h2, .ref h3, .ref h4, .ref h5, .int 0])), (h3, .inr (8, [.ref h8, .int wp30520])), (h8, .inl (y 1, 200, .inr (.inl wf30521))), (h5, .inr (8, [.ref h11, .int wp30522])), (h11, .inl (y 1, 3, .inr (.inl (fun _ => 0)))), (h2, .inr (8, [.ref h6, .int 5])), (h6, .inl (y 1, 200, .inr (.inl (vp_updL (vp_updL (vp_updL (vp_updL (vp_updL (vp_updL (vp_updL (vp_updL wf30519 ((0 : Int32).toNatClampNeg) 0) ((1 : Int32).toNatClampNeg) 0) ((2 : Int32).toNatClampNeg) 0) ((3 : Int32).toNatClampNeg) 0) ((4 : Int32).toNatClampNeg) 0) ((4 : Int32).toNatClampNeg) ((p1 - p1 / 10 * 10).toInt64)) ((3 : Int32).toNatClampNeg) (((p1 / 10) - (p1 / 10) / 10 * 10).toInt64)) ((2 : Int32).toNatClampNeg) ((((p1 / 10) / 10) - ((p1 / 10) / 10) / 10 * 10).toInt64)))))] H := hP
  replace hD : va_D A [(h0, .inr (5, [.ref h2, .ref h3, .ref h4, .ref h5, .int 0])), (h3, .inr (8, [.ref h8, .int wp30520])), (h8, .inl (y 1, 200, .inr (.inl wf30521))), (h5, .inr (8, [.ref h11, .int wp30522])), (h11, .inl (y 1, 3, .inr (.inl (fun _ => 0)))), (h2, .inr (8, [.ref h6, .int 5])), (h6, .inl (y 1, 200, .inr (.inl (vp_updL (vp_updL (vp_updL (vp_updL (vp_updL (vp_updL (vp_updL (vp_updL wf30519 ((0 : Int32).toNatClampNeg) 0) ((1 : Int32).toNatClampNeg) 0) ((2 : Int32).toNatClampNeg) 0) ((3 : Int32).toNatClampNeg) 0) ((4 : Int32).toNatClampNeg) 0) ((4 : Int32).toNatClampNeg) ((p1 - p1 / 10 * 10).toInt64)) ((3 : Int32).toNatClampNeg) (((p1 / 10) - (p1 / 10) / 10 * 10).toInt64)) ((2 : Int32).toNatClampNeg) ((((p1 / 10) / 10) - ((p1 / 10) / 10) / 10 * 10).toInt64)))))] := hD
  refine lv_iload hx hb dX5_append_48 (lv_at hl 1 rfl) ?_
  refine lv_bipush (v := 10) hx hb dX5_append_50 (by decide +kernel) ?_
  refine lv_idiv hx hb dX5_append_52 (by decide +kernel) ?_
  refine lv_istore (lv' := [(4, .int (((p1 / 10) / 10) / 10)), (5, .int 2), (3, .int 0), (0, .ref h0), (1, .int p1), (2, .int 5)]) hx hb dX5_append_53 hl (by decide) rfl ?_
  clear hl
  clear ls
  intro ls hl
  refine lv_iinc (v := 1) (lv' := [(5, .int 1), (4, .int (((p1 / 10) / 10) / 10)), (3, .int 0), (0, .ref h0), (1, .int p1), (2, .int 5)]) hx hb dX5_append_55 hl (k := 1) rfl (by decide +kernel) (by decide) rfl ?_
  clear hl
  clear ls
  intro ls hl
  refine lv_goto (tgt := 27) hx hb dX5_append_58 (by decide) ?_
  refine lv_iload hx hb dX5_append_27 (lv_at hl 0 rfl) ?_
  refine lv_iload_n hx hb dX5_append_29 rfl (lv_at hl 2 rfl) ?_
  refine lv_icmp_lt (tgt := 61) hx hb dX5_append_30 (by decide) (fun c9 => absurd c9 (by decide +kernel)) (fun _ => ?_)
  refine lv_aload_n hx hb dX5_append_33 rfl (lv_at hl 3 rfl) ?_
  refine gm_get (D := D) (ci := 5) (v := .ref h2) (C := RX5) (T := TX5) (N := 5) hx hb hg inlX5 hown hK.1 hP 0 rfl rfl 0 (by decide) tX5_0 (hg _ gw_138) rfl dX5_append_34 ?_
  refine lv_iload hx hb dX5_append_37 (lv_at hl 0 rfl) ?_
  refine lv_iload hx hb dX5_append_39 (lv_at hl 1 rfl) ?_
  refine lv_bipush (v := 10) hx hb dX5_append_41 (by decide +kernel) ?_
  refine lv_irem hx hb dX5_append_43 (by decide +kernel) ?_
  refine lv_i2l (v := (((((p1 / 10) / 10) / 10) - (((p1 / 10) / 10) / 10) / 10 * 10).toInt64)) hx hb dX5_append_44 rfl ?_
  refine g_av (wr := [(h0, .inr (5, [.ref h2, .ref h3, .ref h4, .ref h5, .int 0])), (h3, .inr (8, [.ref h8, .int wp30520])), (h8, .inl (y 1, 200, .inr (.inl wf30521))), (h5, .inr (8, [.ref h11, .int wp30522])), (h11, .inl (y 1, 3, .inr (.inl (fun _ => 0))))]) (va_runV (As := [.int 1, .long (((((p1 / 10) / 10) / 10) - (((p1 / 10) / 10) / 10) / 10 * 10).toInt64)]) (rest := []) ⟨hx, hb, hml, hown, hg⟩ (k_X8_set_46 l D y aS H.size h2 (((((p1 / 10) / 10) / 10) - (((p1 / 10) / 10) / 10) / 10 * 10).toInt64) h6 5 (vp_updL (vp_updL (vp_updL (vp_updL (vp_updL (vp_updL (vp_updL (vp_updL wf30519 ((0 : Int32).toNatClampNeg) 0) ((1 : Int32).toNatClampNeg) 0) ((2 : Int32).toNatClampNeg) 0) ((3 : Int32).toNatClampNeg) 0) ((4 : Int32).toNatClampNeg) 0) ((4 : Int32).toNatClampNeg) ((p1 - p1 / 10 * 10).toInt64)) ((3 : Int32).toNatClampNeg) (((p1 / 10) - (p1 / 10) / 10 * 10).toInt64)) ((2 : Int32).toNatClampNeg) ((((p1 / 10) / 10) - ((p1 / 10) / 10) / 10 * 10).toInt64))) (cwV 2 hg ggV_RX5_29_X8_set rfl rfl rfl (by decide +kernel) ⟨Nat.le_of_ble_eq_true rfl, Nat.le_of_ble_eq_true rfl⟩) (g_preV (q := (RX8, TX8, 2)) hK hP hD [5, 6] rfl (by decide) (ci := 8) (q0 := 5) rfl rfl) rfl rfl hl.1 rfl (lv_room (Nat.le_of_ble_eq_true rfl)) dX5_append_45 ⟨Nat.le_of_ble_eq_true rfl, Nat.le_of_ble_eq_true rfl⟩) hP hD hS hA [5, 6] [0, 1, 2, 3, 4] rfl rfl (by decide) (by decide) ?_
  clear hP hD hS H locs
  refine fun u H locs hq hP hD hS => ?_
  replace hP : va_P D vwCl [(h0, .inr (5, [.ref h2, .ref h3, .ref h4, .ref h5, .int 0])), (h3, .inr (8, [.ref h8, .int wp30520])), (h8, .inl (y 1, 200, .inr (.inl wf30521))), (h5, .inr (8, [.ref h11, .int wp30522])), (h11, .inl (y 1, 3, .inr (.inl (fun _ => 0)))), (h2, .inr (8, [.ref h6, .int 5])), (h6, .inl (y 1, 200, .inr (.inl (vp_updL (vp_updL (vp_updL (vp_updL (vp_updL (vp_updL (vp_updL (vp_updL (vp_updL wf30519 ((0 : Int32).toNatClampNeg) 0) ((1 : Int32).toNatClampNeg) 0) ((2 : Int32).toNatClampNeg) 0) ((3 : Int32).toNatClampNeg) 0) ((4 : Int32).toNatClampNeg) 0) ((4 : Int32).toNatClampNeg) ((p1 - p1 / 10 * 10).toInt64)) ((3 : Int32).toNatClampNeg) (((p1 / 10) - (p1 / 10) / 10 * 10).toInt64)) ((2 : Int32).toNatClampNeg) ((((p1 / 10) / 10) - ((p1 / 10) / 10) / 10 * 10).toInt64)) ((1 : Int32).toNatClampNeg) (((((p1 / 10) / 10) / 10) - (((p1 / 10) / 10) / 10) / 10 * 10).toInt64)))))] H := hP
  replace hD : va_D A [(h0, .inr (5, [.ref h2, .ref h3, .ref h4, .ref h5, .int 0])), (h3, .inr (8, [.ref h8, .int wp30520])), (h8, .inl (y 1, 200, .inr (.inl wf30521))), (h5, .inr (8, [.ref h11, .int wp30522])), (h11, .inl (y 1, 3, .inr (.inl (fun _ => 0)))), (h2, .inr (8, [.ref h6, .int 5])), (h6, .inl (y 1, 200, .inr (.inl (vp_updL (vp_updL (vp_updL (vp_updL (vp_updL (vp_updL (vp_updL (vp_updL (vp_updL wf30519 ((0 : Int32).toNatClampNeg) 0) ((1 : Int32).toNatClampNeg) 0) ((2 : Int32).toNatClampNeg) 0) ((3 : Int32).toNatClampNeg) 0) ((4 : Int32).toNatClampNeg) 0) ((4 : Int32).toNatClampNeg) ((p1 - p1 / 10 * 10).toInt64)) ((3 : Int32).toNatClampNeg) (((p1 / 10) - (p1 / 10) / 10 * 10).toInt64)) ((2 : Int32).toNatClampNeg) ((((p1 / 10) / 10) - ((p1 / 10) / 10) / 10 * 10).toInt64)) ((1 : Int32).toNatClampNeg) (((((p1 / 10) / 10) / 10) - (((p1 / 10) / 10) / 10) / 10 * 10).toInt64)))))] := hD
  refine lv_iload hx hb dX5_append_48 (lv_at hl 1 rfl) ?_
  refine lv_bipush (v := 10) hx hb dX5_append_50 (by decide +kernel) ?_
  refine lv_idiv hx hb dX5_append_52 (by decide +kernel) ?_
  refine lv_istore (lv' := [(4, .int ((((p1 / 10) / 10) / 10) / 10)), (5, .int 1), (3, .int 0), (0, .ref h0), (1, .int p1), (2, .int 5)]) hx hb dX5_append_53 hl (by decide) rfl ?_
  clear hl
  clear ls
  intro ls hl
  refine lv_iinc (v := 0) (lv' := [(5, .int 0), (4, .int ((((p1 / 10) / 10) / 10) / 10)), (3, .int 0), (0, .ref h0), (1, .int p1), (2, .int 5)]) hx hb dX5_append_55 hl (k := 1) rfl (by decide +kernel) (by decide) rfl ?_
  clear hl
  clear ls
  intro ls hl
  refine lv_goto (tgt := 27) hx hb dX5_append_58 (by decide) ?_
  refine lv_iload hx hb dX5_append_27 (lv_at hl 0 rfl) ?_
  refine lv_iload_n hx hb dX5_append_29 rfl (lv_at hl 2 rfl) ?_
  refine lv_icmp_lt (tgt := 61) hx hb dX5_append_30 (by decide) (fun c9 => absurd c9 (by decide +kernel)) (fun _ => ?_)
  refine lv_aload_n hx hb dX5_append_33 rfl (lv_at hl 3 rfl) ?_
  refine gm_get (D := D) (ci := 5) (v := .ref h2) (C := RX5) (T := TX5) (N := 5) hx hb hg inlX5 hown hK.1 hP 0 rfl rfl 0 (by decide) tX5_0 (hg _ gw_138) rfl dX5_append_34 ?_
  refine lv_iload hx hb dX5_append_37 (lv_at hl 0 rfl) ?_
  refine lv_iload hx hb dX5_append_39 (lv_at hl 1 rfl) ?_
  refine lv_bipush (v := 10) hx hb dX5_append_41 (by decide +kernel) ?_
  refine lv_irem hx hb dX5_append_43 (by decide +kernel) ?_
  refine lv_i2l (v := ((((((p1 / 10) / 10) / 10) / 10) - ((((p1 / 10) / 10) / 10) / 10) / 10 * 10).toInt64)) hx hb dX5_append_44 rfl ?_
  refine g_av (wr := [(h0, .inr (5, [.ref h2, .ref h3, .ref h4, .ref h5, .int 0])), (h3, .inr (8, [.ref h8, .int wp30520])), (h8, .inl (y 1, 200, .inr (.inl wf30521))), (h5, .inr (8, [.ref h11, .int wp30522])), (h11, .inl (y 1, 3, .inr (.inl (fun _ => 0))))]) (va_runV (As := [.int 0, .long ((((((p1 / 10) / 10) / 10) / 10) - ((((p1 / 10) / 10) / 10) / 10) / 10 * 10).toInt64)]) (rest := []) ⟨hx, hb, hml, hown, hg⟩ (k_X8_set_45 l D y aS H.size h2 ((((((p1 / 10) / 10) / 10) / 10) - ((((p1 / 10) / 10) / 10) / 10) / 10 * 10).toInt64) h6 5 (vp_updL (vp_updL (vp_updL (vp_updL (vp_updL (vp_updL (vp_updL (vp_updL (vp_updL wf30519 ((0 : Int32).toNatClampNeg) 0) ((1 : Int32).toNatClampNeg) 0) ((2 : Int32).toNatClampNeg) 0) ((3 : Int32).toNatClampNeg) 0) ((4 : Int32).toNatClampNeg) 0) ((4 : Int32).toNatClampNeg) ((p1 - p1 / 10 * 10).toInt64)) ((3 : Int32).toNatClampNeg) (((p1 / 10) - (p1 / 10) / 10 * 10).toInt64)) ((2 : Int32).toNatClampNeg) ((((p1 / 10) / 10) - ((p1 / 10) / 10) / 10 * 10).toInt64)) ((1 : Int32).toNatClampNeg) (((((p1 / 10) / 10) / 10) - (((p1 / 10) / 10) / 10) / 10 * 10).toInt64))) (cwV 2 hg ggV_RX5_29_X8_set rfl rfl rfl (by decide +kernel) ⟨Nat.le_of_ble_eq_true rfl, Nat.le_of_ble_eq_true rfl⟩) (g_preV (q := (RX8, TX8, 2)) hK hP hD [5, 6] rfl (by decide) (ci := 8) (q0 := 5) rfl rfl) rfl rfl hl.1 rfl (lv_room (Nat.le_of_ble_eq_true rfl)) dX5_append_45 ⟨Nat.le_of_ble_eq_true rfl, Nat.le_of_ble_eq_true rfl⟩) hP hD hS hA [5, 6] [0, 1, 2, 3, 4] rfl rfl (by decide) (by decide) ?_
  clear hP hD hS H locs
  refine fun u H locs hq hP hD hS => ?_
  replace hP : va_P D vwCl [(h0, .inr (5, [.ref h2, .ref h3, .ref h4, .ref h5, .int 0])), (h3, .inr (8, [.ref h8, .int wp30520])), (h8, .inl (y 1, 200, .inr (.inl wf30521))), (h5, .inr (8, [.ref h11, .int wp30522])), (h11, .inl (y 1, 3, .inr (.inl (fun _ => 0)))), (h2, .inr (8, [.ref h6, .int 5])), (h6, .inl (y 1, 200, .inr (.inl (vp_updL (vp_updL (vp_updL (vp_updL (vp_updL (vp_updL (vp_updL (vp_updL (vp_updL (vp_updL wf30519 ((0 : Int32).toNatClampNeg) 0) ((1 : Int32).toNatClampNeg) 0) ((2 : Int32).toNatClampNeg) 0) ((3 : Int32).toNatClampNeg) 0) ((4 : Int32).toNatClampNeg) 0) ((4 : Int32).toNatClampNeg) ((p1 - p1 / 10 * 10).toInt64)) ((3 : Int32).toNatClampNeg) (((p1 / 10) - (p1 / 10) / 10 * 10).toInt64)) ((2 : Int32).toNatClampNeg) ((((p1 / 10) / 10) - ((p1 / 10) / 10) / 10 * 10).toInt64)) ((1 : Int32).toNatClampNeg) (((((p1 / 10) / 10) / 10) - (((p1 / 10) / 10) / 10) / 10 * 10).toInt64)) ((0 : Int32).toNatClampNeg) ((((((p1 / 10) / 10) / 10) / 10) - ((((p1 / 10) / 10) / 10) / 10) / 10 * 10).toInt64)))))] H := hP
  replace hD : va_D A [(h0, .inr (5, [.ref h2, .ref h3, .ref h4, .ref h5, .int 0])), (h3, .inr (8, [.ref h8, .int wp30520])), (h8, .inl (y 1, 200, .inr (.inl wf30521))), (h5, .inr (8, [.ref h11, .int wp30522])), (h11, .inl (y 1, 3, .inr (.inl (fun _ => 0)))), (h2, .inr (8, [.ref h6, .int 5])), (h6, .inl (y 1, 200, .inr (.inl (vp_updL (vp_updL (vp_updL (vp_updL (vp_updL (vp_updL (vp_updL (vp_updL (vp_updL (vp_updL wf30519 ((0 : Int32).toNatClampNeg) 0) ((1 : Int32).toNatClampNeg) 0) ((2 : Int32).toNatClampNeg) 0) ((3 : Int32).toNatClampNeg) 0) ((4 : Int32).toNatClampNeg) 0) ((4 : Int32).toNatClampNeg) ((p1 - p1 / 10 * 10).toInt64)) ((3 : Int32).toNatClampNeg) (((p1 / 10) - (p1 / 10) / 10 * 10).toInt64)) ((2 : Int32).toNatClampNeg) ((((p1 / 10) / 10) - ((p1 / 10) / 10) / 10 * 10).toInt64)) ((1 : Int32).toNatClampNeg) (((((p1 / 10) / 10) / 10) - (((p1 / 10) / 10) / 10) / 10 * 10).toInt64)) ((0 : Int32).toNatClampNeg) ((((((p1 / 10) / 10) / 10) / 10) - ((((p1 / 10) / 10) / 10) / 10) / 10 * 10).toInt64)))))] := hD
  refine lv_iload hx hb dX5_append_48 (lv_at hl 1 rfl) ?_
  refine lv_bipush (v := 10) hx hb dX5_append_50 (by decide +kernel) ?_
  refine lv_idiv hx hb dX5_append_52 (by decide +kernel) ?_
  refine lv_istore (lv' := [(4, .int (((((p1 / 10) / 10) / 10) / 10) / 10)), (5, .int 0), (3, .int 0), (0, .ref h0), (1, .int p1), (2, .int 5)]) hx hb dX5_append_53 hl (by decide) rfl ?_
  clear hl
  clear ls
  intro ls hl
  refine lv_iinc (v := (-1)) (lv' := [(5, .int (-1)), (4, .int (((((p1 / 10) / 10) / 10) / 10) / 10)), (3, .int 0), (0, .ref h0), (1, .int p1), (2, .int 5)]) hx hb dX5_append_55 hl (k := 1) rfl (by decide +kernel) (by decide) rfl ?_
  clear hl
  clear ls
  intro ls hl
  refine lv_goto (tgt := 27) hx hb dX5_append_58 (by decide) ?_
  refine lv_iload hx hb dX5_append_27 (lv_at hl 0 rfl) ?_
  refine lv_iload_n hx hb dX5_append_29 rfl (lv_at hl 2 rfl) ?_
  refine lv_icmp_lt (tgt := 61) hx hb dX5_append_30 (by decide) (fun _ => ?_) (fun c9 => absurd c9 (by decide +kernel))
  refine lv_aload_n hx hb dX5_append_61 rfl (lv_at hl 3 rfl) ?_
  refine g_av (wr := [(h6, .inl (y 1, 200, .inr (.inl (vp_updL (vp_updL (vp_updL (vp_updL (vp_updL (vp_updL (vp_updL (vp_updL (vp_updL (vp_updL wf30519 ((0 : Int32).toNatClampNeg) 0) ((1 : Int32).toNatClampNeg) 0) ((2 : Int32).toNatClampNeg) 0) ((3 : Int32).toNatClampNeg) 0) ((4 : Int32).toNatClampNeg) 0) ((4 : Int32).toNatClampNeg) ((p1 - p1 / 10 * 10).toInt64)) ((3 : Int32).toNatClampNeg) (((p1 / 10) - (p1 / 10) / 10 * 10).toInt64)) ((2 : Int32).toNatClampNeg) ((((p1 / 10) / 10) - ((p1 / 10) / 10) / 10 * 10).toInt64)) ((1 : Int32).toNatClampNeg) (((((p1 / 10) / 10) / 10) - (((p1 / 10) / 10) / 10) / 10 * 10).toInt64)) ((0 : Int32).toNatClampNeg) ((((((p1 / 10) / 10) / 10) / 10) - ((((p1 / 10) / 10) / 10) / 10) / 10 * 10).toInt64)))))]) (va_runV (As := []) (rest := []) ⟨hx, hb, hml, hown, hg⟩ (k_X5_findOut_5 l D y aS H.size h0 h2 h3 h4 h5 0 h6 h8 wp30520 wf30521 h11 wp30522) (cwV 0 hg ggV_RX5_33_X5_findOut rfl rfl rfl (by decide +kernel) ⟨Nat.le_of_ble_eq_true rfl, Nat.le_of_ble_eq_true rfl⟩) (g_preV (q := (RX5, TX5, 5)) hK hP hD [0, 5, 1, 2, 3, 4] rfl (by decide) (ci := 5) (q0 := 0) rfl rfl) rfl rfl hl.1 rfl (lv_room (Nat.le_of_ble_eq_true rfl)) dX5_append_62 ⟨Nat.le_of_ble_eq_true rfl, Nat.le_of_ble_eq_true rfl⟩) hP hD hS hA [0, 5, 1, 2, 3, 4] [6] rfl rfl (by decide) (by decide) ?_
  clear hP hD hS H locs
  refine fun u H locs hq hP hD hS => ?_
  replace hP : va_P D vwCl [(h6, .inl (y 1, 200, .inr (.inl (vp_updL (vp_updL (vp_updL (vp_updL (vp_updL (vp_updL (vp_updL (vp_updL (vp_updL (vp_updL wf30519 ((0 : Int32).toNatClampNeg) 0) ((1 : Int32).toNatClampNeg) 0) ((2 : Int32).toNatClampNeg) 0) ((3 : Int32).toNatClampNeg) 0) ((4 : Int32).toNatClampNeg) 0) ((4 : Int32).toNatClampNeg) ((p1 - p1 / 10 * 10).toInt64)) ((3 : Int32).toNatClampNeg) (((p1 / 10) - (p1 / 10) / 10 * 10).toInt64)) ((2 : Int32).toNatClampNeg) ((((p1 / 10) / 10) - ((p1 / 10) / 10) / 10 * 10).toInt64)) ((1 : Int32).toNatClampNeg) (((((p1 / 10) / 10) / 10) - (((p1 / 10) / 10) / 10) / 10 * 10).toInt64)) ((0 : Int32).toNatClampNeg) ((((((p1 / 10) / 10) / 10) / 10) - ((((p1 / 10) / 10) / 10) / 10) / 10 * 10).toInt64))))), (h0, .inr (5, [.ref h2, .ref h3, .ref h4, .ref h5, .int 5])), (h2, .inr (8, [.ref h6, .int 5])), (h3, .inr (8, [.ref h8, .int wp30520])), (h8, .inl (y 1, 200, .inr (.inl (vp_updL (vp_updL (vp_updL (vp_updL (vp_updL wf30521 ((0 : Int32).toNatClampNeg) 0) ((1 : Int32).toNatClampNeg) 0) ((2 : Int32).toNatClampNeg) 0) ((3 : Int32).toNatClampNeg) 0) ((4 : Int32).toNatClampNeg) 0)))), (h5, .inr (8, [.ref h11, .int wp30522])), (h11, .inl (y 1, 3, .inr (.inl (fun _ => 0))))] H := hP
  replace hD : va_D A [(h6, .inl (y 1, 200, .inr (.inl (vp_updL (vp_updL (vp_updL (vp_updL (vp_updL (vp_updL (vp_updL (vp_updL (vp_updL (vp_updL wf30519 ((0 : Int32).toNatClampNeg) 0) ((1 : Int32).toNatClampNeg) 0) ((2 : Int32).toNatClampNeg) 0) ((3 : Int32).toNatClampNeg) 0) ((4 : Int32).toNatClampNeg) 0) ((4 : Int32).toNatClampNeg) ((p1 - p1 / 10 * 10).toInt64)) ((3 : Int32).toNatClampNeg) (((p1 / 10) - (p1 / 10) / 10 * 10).toInt64)) ((2 : Int32).toNatClampNeg) ((((p1 / 10) / 10) - ((p1 / 10) / 10) / 10 * 10).toInt64)) ((1 : Int32).toNatClampNeg) (((((p1 / 10) / 10) / 10) - (((p1 / 10) / 10) / 10) / 10 * 10).toInt64)) ((0 : Int32).toNatClampNeg) ((((((p1 / 10) / 10) / 10) / 10) - ((((p1 / 10) / 10) / 10) / 10) / 10 * 10).toInt64))))), (h0, .inr (5, [.ref h2, .ref h3, .ref h4, .ref h5, .int 5])), (h2, .inr (8, [.ref h6, .int 5])), (h3, .inr (8, [.ref h8, .int wp30520])), (h8, .inl (y 1, 200, .inr (.inl (vp_updL (vp_updL (vp_updL (vp_updL (vp_updL wf30521 ((0 : Int32).toNatClampNeg) 0) ((1 : Int32).toNatClampNeg) 0) ((2 : Int32).toNatClampNeg) 0) ((3 : Int32).toNatClampNeg) 0) ((4 : Int32).toNatClampNeg) 0)))), (h5, .inr (8, [.ref h11, .int wp30522])), (h11, .inl (y 1, 3, .inr (.inl (fun _ => 0))))] := hD
  refine lv_aload_n hx hb dX5_append_65 rfl (lv_at hl 3 rfl) ?_
  refine gm_get (D := D) (ci := 5) (v := .int 5) (C := RX5) (T := TX5) (N := 5) hx hb hg inlX5 hown hK.1 hP 1 rfl rfl 4 (by decide) tX5_4 (hg _ gw_1442) rfl dX5_append_66 ?_
  exact g_iret hx hb hr hlocks () (hP.sub [1, 2, 0, 3, 4, 5, 6] rfl) (hD.sub [1, 2, 0, 3, 4, 5, 6] (by decide +kernel) rfl) hS rfl rfl (Nat.le_of_ble_eq_true rfl) (Nat.le_of_ble_eq_true rfl) dX5_append_69
set_option maxRecDepth 100000 in
set_option maxHeartbeats 4000000 in
theorem k_X8_add_33 (l : Launch) (D : va_G) (y : Nat → ClassId) (aS : Nat → Nat) (sz : Nat) (h0 : Nat) (h1 : Nat) (wf30540 : Nat → Int64) : Met l yX8_add (Cond.code yX8_add cX8_add 3 none :: wsL_law) ({ frames := 0, cells := 0, slots := 0, locals := 0 } : Room) (va_Pc [.ref h0, .long 0] (gI D y aS [(h0, .inr (8, [.ref h1, .int 5])), (h1, .inl (y 1, 200, .inr (.inl wf30540)))] sz)) (va_Qv (fun (u : Unit) => True) (fun u => gO D (va_A [(h0, .inr (8, [.ref h1, .int 5])), (h1, .inl (y 1, 200, .inr (.inl wf30540)))] sz) [(h0, .inr (8, [.ref h1, .int 6])), (h1, .inl (y 1, 200, .inr (.inl (vp_updL wf30540 ((5 : Int32).toNatClampNeg) 0))))]) (va_A [(h0, .inr (8, [.ref h1, .int 5])), (h1, .inl (y 1, 200, .inr (.inl wf30540)))] sz)) 0 0 (va_A [(h0, .inr (8, [.ref h1, .int 5])), (h1, .inl (y 1, 200, .inr (.inl wf30540)))] sz) := by
  refine g_of (by decide) (Nat.le_of_ble_eq_true rfl) ?_
  intro p e s m below meth c ls A hx hb hr hml hown hg hlocks hin hsz hK hP hD hS hA hAe hl
  rw [← hAe]
  replace hown : s.vm.findClass RX8 = some m.cls := hown
  replace hl : lv_has ls 3 [(0, .ref h0), (1, .long 0)] := hl
  refine lv_aload_n hx hb dX8_add_0 rfl (lv_at hl 0 rfl) ?_
  refine gm_get (D := D) (ci := 8) (v := .int 5) (C := RX8) (T := TX8) (N := 2) hx hb hg inlX8 hown hK.1 hP 0 rfl rfl 1 (by decide) tX8_1 (hg _ gw_155) rfl dX8_add_1 ?_
  refine lv_if_lt (tgt := 39) hx hb dX8_add_4 (by decide) (fun c9 => absurd c9 (by decide +kernel)) (fun _ => ?_)
  refine lv_aload_n hx hb dX8_add_7 rfl (lv_at hl 0 rfl) ?_
  refine gm_get (D := D) (ci := 8) (v := .int 5) (C := RX8) (T := TX8) (N := 2) hx hb hg inlX8 hown hK.1 hP 0 rfl rfl 1 (by decide) tX8_1 (hg _ gw_155) rfl dX8_add_8 ?_
  refine lv_aload_n hx hb dX8_add_11 rfl (lv_at hl 0 rfl) ?_
  refine gm_get (D := D) (ci := 8) (v := .ref h1) (C := RX8) (T := TX8) (N := 2) hx hb hg inlX8 hown hK.1 hP 0 rfl rfl 0 (by decide) tX8_0 (hg _ gw_98) rfl dX8_add_12 ?_
  refine va_alen hx hb hK.1 hP 1 1 rfl rfl (v := 200) rfl dX8_add_15 ?_
  refine lv_icmp_ge (tgt := 39) hx hb dX8_add_16 (by decide) (fun c9 => absurd c9 (by decide +kernel)) (fun _ => ?_)
  refine lv_aload_n hx hb dX8_add_19 rfl (lv_at hl 0 rfl) ?_
  refine gm_get (D := D) (ci := 8) (v := .ref h1) (C := RX8) (T := TX8) (N := 2) hx hb hg inlX8 hown hK.1 hP 0 rfl rfl 0 (by decide) tX8_0 (hg _ gw_98) rfl dX8_add_20 ?_
  refine lv_aload_n hx hb dX8_add_23 rfl (lv_at hl 0 rfl) ?_
  refine gm_get (D := D) (ci := 8) (v := .int 5) (C := RX8) (T := TX8) (N := 2) hx hb hg inlX8 hown hK.1 hP 0 rfl rfl 1 (by decide) tX8_1 (hg _ gw_155) rfl dX8_add_24 ?_
  refine lv_lload_n hx hb dX8_add_27 rfl (lv_at hl 1 rfl) ?_
  refine va_last hx hb hK.1 hP hD hS 1 1 rfl rfl (by unfold vp_in; decide +kernel) dX8_add_28 ?_
  clear hP hD hS
  refine fun H locs (hP : va_P D vwCl [(h0, .inr (8, [.ref h1, .int 5])), (h1, .inl (y 1, 200, .inr (.inl (vp_updL wf30540 ((5 : Int32).toNatClampNeg) 0))))] H) (hD : va_D A [(h0, .inr (8, [.ref h1, .int 5])), (h1, .inl (y 1, 200, .inr (.inl (vp_updL wf30540 ((5 : Int32).toNatClampNeg) 0))))]) hS => ?_
  refine lv_aload_n hx hb dX8_add_29 rfl (lv_at hl 0 rfl) ?_
  refine lv_dup hx hb dX8_add_30 rfl ?_
  refine gm_get (D := D) (ci := 8) (v := .int 5) (C := RX8) (T := TX8) (N := 2) hx hb hg inlX8 hown hK.1 hP 0 rfl rfl 1 (by decide) tX8_1 (hg _ gw_155) rfl dX8_add_31 ?_
  refine lv_iconst (v := 1) hx hb dX8_add_34 (by decide) ?_
  refine lv_iadd hx hb dX8_add_35 ?_
  refine g_fi (v := 6) (by decide +kernel) ?_
  refine gm_put (D := D) (ci := 8) (v := .int 6) (ty := .int) (C := RX8) (T := TX8) (N := 2) hx hb hg inlX8 tyX8 tyX8_ok nmX8 hown hK.1 hP hD hS 0 rfl rfl 1 (by decide) tX8_1 (hg _ gw_155) (by decide +kernel) rfl rfl (Nat.le_of_ble_eq_true rfl) dX8_add_36 ?_
  clear hP hD hS H locs
  refine fun H locs (hP : va_P D vwCl [(h0, .inr (8, [.ref h1, .int 6])), (h1, .inl (y 1, 200, .inr (.inl (vp_updL wf30540 ((5 : Int32).toNatClampNeg) 0))))] H) (hD : va_D A [(h0, .inr (8, [.ref h1, .int 6])), (h1, .inl (y 1, 200, .inr (.inl (vp_updL wf30540 ((5 : Int32).toNatClampNeg) 0))))]) hS => ?_
  exact g_vret hx hb hr hlocks () hP hD hS trivial (Nat.le_of_ble_eq_true rfl) (Nat.le_of_ble_eq_true rfl) dX8_add_39
set_option maxRecDepth 100000 in
set_option maxHeartbeats 4000000 in
theorem k_X8_addMany_9 (l : Launch) (D : va_G) (y : Nat → ClassId) (aS : Nat → Nat) (sz : Nat) (h0 : Nat) (h1 : Nat) (wf30542 : Nat → Int64) : Met l yX8_addMany (Cond.code yX8_addMany cX8_addMany 5 none :: wsL_law) ({ frames := 1, cells := 0, slots := 0, locals := 22 } : Room) (va_Pc [.ref h0, .int 6, .long 0] (gI D y aS [(h0, .inr (8, [.ref h1, .int 0])), (h1, .inl (y 1, 200, .inr (.inl wf30542)))] sz)) (va_Qv (fun (u : Unit) => True) (fun u => gO D (va_A [(h0, .inr (8, [.ref h1, .int 0])), (h1, .inl (y 1, 200, .inr (.inl wf30542)))] sz) [(h0, .inr (8, [.ref h1, .int 6])), (h1, .inl (y 1, 200, .inr (.inl (vp_updL (vp_updL (vp_updL (vp_updL (vp_updL (vp_updL wf30542 ((0 : Int32).toNatClampNeg) 0) ((1 : Int32).toNatClampNeg) 0) ((2 : Int32).toNatClampNeg) 0) ((3 : Int32).toNatClampNeg) 0) ((4 : Int32).toNatClampNeg) 0) ((5 : Int32).toNatClampNeg) 0))))]) (va_A [(h0, .inr (8, [.ref h1, .int 0])), (h1, .inl (y 1, 200, .inr (.inl wf30542)))] sz)) 0 0 (va_A [(h0, .inr (8, [.ref h1, .int 0])), (h1, .inl (y 1, 200, .inr (.inl wf30542)))] sz) := by
  refine g_of (by decide) (Nat.le_of_ble_eq_true rfl) ?_
  intro p e s m below meth c ls A hx hb hr hml hown hg hlocks hin hsz hK hP hD hS hA hAe hl
  rw [← hAe]
  replace hown : s.vm.findClass RX8 = some m.cls := hown
  replace hl : lv_has ls 5 [(0, .ref h0), (1, .int 6), (2, .long 0)] := hl
  refine lv_iconst (v := 0) hx hb dX8_addMany_0 (by decide) ?_
  refine lv_istore (lv' := [(4, .int 0), (0, .ref h0), (1, .int 6), (2, .long 0)]) hx hb dX8_addMany_1 hl (by decide) rfl ?_
  clear hl
  clear ls
  intro ls hl
  refine lv_iload hx hb dX8_addMany_3 (lv_at hl 0 rfl) ?_
  refine lv_iload_n hx hb dX8_addMany_5 rfl (lv_at hl 2 rfl) ?_
  refine lv_icmp_ge (tgt := 30) hx hb dX8_addMany_6 (by decide) (fun c9 => absurd c9 (by decide +kernel)) (fun _ => ?_)
  refine lv_iload hx hb dX8_addMany_9 (lv_at hl 0 rfl) ?_
  refine lv_aload_n hx hb dX8_addMany_11 rfl (lv_at hl 1 rfl) ?_
  refine gm_get (D := D) (ci := 8) (v := .ref h1) (C := RX8) (T := TX8) (N := 2) hx hb hg inlX8 hown hK.1 hP 0 rfl rfl 0 (by decide) tX8_0 (hg _ gw_98) rfl dX8_addMany_12 ?_
  refine va_alen hx hb hK.1 hP 1 1 rfl rfl (v := 200) rfl dX8_addMany_15 ?_
  refine lv_icmp_ge (tgt := 30) hx hb dX8_addMany_16 (by decide) (fun c9 => absurd c9 (by decide +kernel)) (fun _ => ?_)
  refine lv_aload_n hx hb dX8_addMany_19 rfl (lv_at hl 1 rfl) ?_
  refine lv_lload_n hx hb dX8_addMany_20 rfl (lv_at hl 3 rfl) ?_
  refine g_av (wr := []) (va_runV (As := [.long 0]) (rest := []) ⟨hx, hb, hml, hown, hg⟩ (k_X8_add_28 l D y aS s.heap.size h0 h1 wf30542) (cwV 1 hg ggV_RX8_19_X8_add rfl rfl rfl (by decide +kernel) ⟨Nat.le_of_ble_eq_true rfl, Nat.le_of_ble_eq_true rfl⟩) (g_preV (q := (RX8, TX8, 2)) hK hP hD [0, 1] rfl (by decide) (ci := 8) (q0 := 0) rfl rfl) rfl rfl hl.1 rfl (lv_room (Nat.le_of_ble_eq_true rfl)) dX8_addMany_21 ⟨Nat.le_of_ble_eq_true rfl, Nat.le_of_ble_eq_true rfl⟩) hP hD hS hA [0, 1] [] rfl rfl (by decide) (by decide) ?_
  clear hP hD hS
  refine fun u H locs hq hP hD hS => ?_
  replace hP : va_P D vwCl [(h0, .inr (8, [.ref h1, .int 1])), (h1, .inl (y 1, 200, .inr (.inl (vp_updL wf30542 ((0 : Int32).toNatClampNeg) 0))))] H := hP
  replace hD : va_D A [(h0, .inr (8, [.ref h1, .int 1])), (h1, .inl (y 1, 200, .inr (.inl (vp_updL wf30542 ((0 : Int32).toNatClampNeg) 0))))] := hD
  refine lv_iinc (v := 1) (lv' := [(4, .int 1), (0, .ref h0), (1, .int 6), (2, .long 0)]) hx hb dX8_addMany_24 hl (k := 0) rfl (by decide +kernel) (by decide) rfl ?_
  clear hl
  clear ls
  intro ls hl
  refine lv_goto (tgt := 3) hx hb dX8_addMany_27 (by decide) ?_
  refine lv_iload hx hb dX8_addMany_3 (lv_at hl 0 rfl) ?_
  refine lv_iload_n hx hb dX8_addMany_5 rfl (lv_at hl 2 rfl) ?_
  refine lv_icmp_ge (tgt := 30) hx hb dX8_addMany_6 (by decide) (fun c9 => absurd c9 (by decide +kernel)) (fun _ => ?_)
  refine lv_iload hx hb dX8_addMany_9 (lv_at hl 0 rfl) ?_
  refine lv_aload_n hx hb dX8_addMany_11 rfl (lv_at hl 1 rfl) ?_
  refine gm_get (D := D) (ci := 8) (v := .ref h1) (C := RX8) (T := TX8) (N := 2) hx hb hg inlX8 hown hK.1 hP 0 rfl rfl 0 (by decide) tX8_0 (hg _ gw_98) rfl dX8_addMany_12 ?_
  refine va_alen hx hb hK.1 hP 1 1 rfl rfl (v := 200) rfl dX8_addMany_15 ?_
  refine lv_icmp_ge (tgt := 30) hx hb dX8_addMany_16 (by decide) (fun c9 => absurd c9 (by decide +kernel)) (fun _ => ?_)
  refine lv_aload_n hx hb dX8_addMany_19 rfl (lv_at hl 1 rfl) ?_
  refine lv_lload_n hx hb dX8_addMany_20 rfl (lv_at hl 3 rfl) ?_
  refine g_av (wr := []) (va_runV (As := [.long 0]) (rest := []) ⟨hx, hb, hml, hown, hg⟩ (k_X8_add_29 l D y aS H.size h0 h1 (vp_updL wf30542 ((0 : Int32).toNatClampNeg) 0)) (cwV 1 hg ggV_RX8_19_X8_add rfl rfl rfl (by decide +kernel) ⟨Nat.le_of_ble_eq_true rfl, Nat.le_of_ble_eq_true rfl⟩) (g_preV (q := (RX8, TX8, 2)) hK hP hD [0, 1] rfl (by decide) (ci := 8) (q0 := 0) rfl rfl) rfl rfl hl.1 rfl (lv_room (Nat.le_of_ble_eq_true rfl)) dX8_addMany_21 ⟨Nat.le_of_ble_eq_true rfl, Nat.le_of_ble_eq_true rfl⟩) hP hD hS hA [0, 1] [] rfl rfl (by decide) (by decide) ?_
  clear hP hD hS H locs
  refine fun u H locs hq hP hD hS => ?_
  replace hP : va_P D vwCl [(h0, .inr (8, [.ref h1, .int 2])), (h1, .inl (y 1, 200, .inr (.inl (vp_updL (vp_updL wf30542 ((0 : Int32).toNatClampNeg) 0) ((1 : Int32).toNatClampNeg) 0))))] H := hP
  replace hD : va_D A [(h0, .inr (8, [.ref h1, .int 2])), (h1, .inl (y 1, 200, .inr (.inl (vp_updL (vp_updL wf30542 ((0 : Int32).toNatClampNeg) 0) ((1 : Int32).toNatClampNeg) 0))))] := hD
  refine lv_iinc (v := 2) (lv' := [(4, .int 2), (0, .ref h0), (1, .int 6), (2, .long 0)]) hx hb dX8_addMany_24 hl (k := 0) rfl (by decide +kernel) (by decide) rfl ?_
  clear hl
  clear ls
  intro ls hl
  refine lv_goto (tgt := 3) hx hb dX8_addMany_27 (by decide) ?_
  refine lv_iload hx hb dX8_addMany_3 (lv_at hl 0 rfl) ?_
  refine lv_iload_n hx hb dX8_addMany_5 rfl (lv_at hl 2 rfl) ?_
  refine lv_icmp_ge (tgt := 30) hx hb dX8_addMany_6 (by decide) (fun c9 => absurd c9 (by decide +kernel)) (fun _ => ?_)
  refine lv_iload hx hb dX8_addMany_9 (lv_at hl 0 rfl) ?_
  refine lv_aload_n hx hb dX8_addMany_11 rfl (lv_at hl 1 rfl) ?_
  refine gm_get (D := D) (ci := 8) (v := .ref h1) (C := RX8) (T := TX8) (N := 2) hx hb hg inlX8 hown hK.1 hP 0 rfl rfl 0 (by decide) tX8_0 (hg _ gw_98) rfl dX8_addMany_12 ?_
  refine va_alen hx hb hK.1 hP 1 1 rfl rfl (v := 200) rfl dX8_addMany_15 ?_
  refine lv_icmp_ge (tgt := 30) hx hb dX8_addMany_16 (by decide) (fun c9 => absurd c9 (by decide +kernel)) (fun _ => ?_)
  refine lv_aload_n hx hb dX8_addMany_19 rfl (lv_at hl 1 rfl) ?_
  refine lv_lload_n hx hb dX8_addMany_20 rfl (lv_at hl 3 rfl) ?_
  refine g_av (wr := []) (va_runV (As := [.long 0]) (rest := []) ⟨hx, hb, hml, hown, hg⟩ (k_X8_add_30 l D y aS H.size h0 h1 (vp_updL (vp_updL wf30542 ((0 : Int32).toNatClampNeg) 0) ((1 : Int32).toNatClampNeg) 0)) (cwV 1 hg ggV_RX8_19_X8_add rfl rfl rfl (by decide +kernel) ⟨Nat.le_of_ble_eq_true rfl, Nat.le_of_ble_eq_true rfl⟩) (g_preV (q := (RX8, TX8, 2)) hK hP hD [0, 1] rfl (by decide) (ci := 8) (q0 := 0) rfl rfl) rfl rfl hl.1 rfl (lv_room (Nat.le_of_ble_eq_true rfl)) dX8_addMany_21 ⟨Nat.le_of_ble_eq_true rfl, Nat.le_of_ble_eq_true rfl⟩) hP hD hS hA [0, 1] [] rfl rfl (by decide) (by decide) ?_
  clear hP hD hS H locs
  refine fun u H locs hq hP hD hS => ?_
  replace hP : va_P D vwCl [(h0, .inr (8, [.ref h1, .int 3])), (h1, .inl (y 1, 200, .inr (.inl (vp_updL (vp_updL (vp_updL wf30542 ((0 : Int32).toNatClampNeg) 0) ((1 : Int32).toNatClampNeg) 0) ((2 : Int32).toNatClampNeg) 0))))] H := hP
  replace hD : va_D A [(h0, .inr (8, [.ref h1, .int 3])), (h1, .inl (y 1, 200, .inr (.inl (vp_updL (vp_updL (vp_updL wf30542 ((0 : Int32).toNatClampNeg) 0) ((1 : Int32).toNatClampNeg) 0) ((2 : Int32).toNatClampNeg) 0))))] := hD
  refine lv_iinc (v := 3) (lv' := [(4, .int 3), (0, .ref h0), (1, .int 6), (2, .long 0)]) hx hb dX8_addMany_24 hl (k := 0) rfl (by decide +kernel) (by decide) rfl ?_
  clear hl
  clear ls
  intro ls hl
  refine lv_goto (tgt := 3) hx hb dX8_addMany_27 (by decide) ?_
  refine lv_iload hx hb dX8_addMany_3 (lv_at hl 0 rfl) ?_
  refine lv_iload_n hx hb dX8_addMany_5 rfl (lv_at hl 2 rfl) ?_
  refine lv_icmp_ge (tgt := 30) hx hb dX8_addMany_6 (by decide) (fun c9 => absurd c9 (by decide +kernel)) (fun _ => ?_)
  refine lv_iload hx hb dX8_addMany_9 (lv_at hl 0 rfl) ?_
  refine lv_aload_n hx hb dX8_addMany_11 rfl (lv_at hl 1 rfl) ?_
  refine gm_get (D := D) (ci := 8) (v := .ref h1) (C := RX8) (T := TX8) (N := 2) hx hb hg inlX8 hown hK.1 hP 0 rfl rfl 0 (by decide) tX8_0 (hg _ gw_98) rfl dX8_addMany_12 ?_
  refine va_alen hx hb hK.1 hP 1 1 rfl rfl (v := 200) rfl dX8_addMany_15 ?_
  refine lv_icmp_ge (tgt := 30) hx hb dX8_addMany_16 (by decide) (fun c9 => absurd c9 (by decide +kernel)) (fun _ => ?_)
  refine lv_aload_n hx hb dX8_addMany_19 rfl (lv_at hl 1 rfl) ?_
  refine lv_lload_n hx hb dX8_addMany_20 rfl (lv_at hl 3 rfl) ?_
  refine g_av (wr := []) (va_runV (As := [.long 0]) (rest := []) ⟨hx, hb, hml, hown, hg⟩ (k_X8_add_31 l D y aS H.size h0 h1 (vp_updL (vp_updL (vp_updL wf30542 ((0 : Int32).toNatClampNeg) 0) ((1 : Int32).toNatClampNeg) 0) ((2 : Int32).toNatClampNeg) 0)) (cwV 1 hg ggV_RX8_19_X8_add rfl rfl rfl (by decide +kernel) ⟨Nat.le_of_ble_eq_true rfl, Nat.le_of_ble_eq_true rfl⟩) (g_preV (q := (RX8, TX8, 2)) hK hP hD [0, 1] rfl (by decide) (ci := 8) (q0 := 0) rfl rfl) rfl rfl hl.1 rfl (lv_room (Nat.le_of_ble_eq_true rfl)) dX8_addMany_21 ⟨Nat.le_of_ble_eq_true rfl, Nat.le_of_ble_eq_true rfl⟩) hP hD hS hA [0, 1] [] rfl rfl (by decide) (by decide) ?_
  clear hP hD hS H locs
  refine fun u H locs hq hP hD hS => ?_
  replace hP : va_P D vwCl [(h0, .inr (8, [.ref h1, .int 4])), (h1, .inl (y 1, 200, .inr (.inl (vp_updL (vp_updL (vp_updL (vp_updL wf30542 ((0 : Int32).toNatClampNeg) 0) ((1 : Int32).toNatClampNeg) 0) ((2 : Int32).toNatClampNeg) 0) ((3 : Int32).toNatClampNeg) 0))))] H := hP
  replace hD : va_D A [(h0, .inr (8, [.ref h1, .int 4])), (h1, .inl (y 1, 200, .inr (.inl (vp_updL (vp_updL (vp_updL (vp_updL wf30542 ((0 : Int32).toNatClampNeg) 0) ((1 : Int32).toNatClampNeg) 0) ((2 : Int32).toNatClampNeg) 0) ((3 : Int32).toNatClampNeg) 0))))] := hD
  refine lv_iinc (v := 4) (lv' := [(4, .int 4), (0, .ref h0), (1, .int 6), (2, .long 0)]) hx hb dX8_addMany_24 hl (k := 0) rfl (by decide +kernel) (by decide) rfl ?_
  clear hl
  clear ls
  intro ls hl
  refine lv_goto (tgt := 3) hx hb dX8_addMany_27 (by decide) ?_
  refine lv_iload hx hb dX8_addMany_3 (lv_at hl 0 rfl) ?_
  refine lv_iload_n hx hb dX8_addMany_5 rfl (lv_at hl 2 rfl) ?_
  refine lv_icmp_ge (tgt := 30) hx hb dX8_addMany_6 (by decide) (fun c9 => absurd c9 (by decide +kernel)) (fun _ => ?_)
  refine lv_iload hx hb dX8_addMany_9 (lv_at hl 0 rfl) ?_
  refine lv_aload_n hx hb dX8_addMany_11 rfl (lv_at hl 1 rfl) ?_
  refine gm_get (D := D) (ci := 8) (v := .ref h1) (C := RX8) (T := TX8) (N := 2) hx hb hg inlX8 hown hK.1 hP 0 rfl rfl 0 (by decide) tX8_0 (hg _ gw_98) rfl dX8_addMany_12 ?_
  refine va_alen hx hb hK.1 hP 1 1 rfl rfl (v := 200) rfl dX8_addMany_15 ?_
  refine lv_icmp_ge (tgt := 30) hx hb dX8_addMany_16 (by decide) (fun c9 => absurd c9 (by decide +kernel)) (fun _ => ?_)
  refine lv_aload_n hx hb dX8_addMany_19 rfl (lv_at hl 1 rfl) ?_
  refine lv_lload_n hx hb dX8_addMany_20 rfl (lv_at hl 3 rfl) ?_
  refine g_av (wr := []) (va_runV (As := [.long 0]) (rest := []) ⟨hx, hb, hml, hown, hg⟩ (k_X8_add_32 l D y aS H.size h0 h1 (vp_updL (vp_updL (vp_updL (vp_updL wf30542 ((0 : Int32).toNatClampNeg) 0) ((1 : Int32).toNatClampNeg) 0) ((2 : Int32).toNatClampNeg) 0) ((3 : Int32).toNatClampNeg) 0)) (cwV 1 hg ggV_RX8_19_X8_add rfl rfl rfl (by decide +kernel) ⟨Nat.le_of_ble_eq_true rfl, Nat.le_of_ble_eq_true rfl⟩) (g_preV (q := (RX8, TX8, 2)) hK hP hD [0, 1] rfl (by decide) (ci := 8) (q0 := 0) rfl rfl) rfl rfl hl.1 rfl (lv_room (Nat.le_of_ble_eq_true rfl)) dX8_addMany_21 ⟨Nat.le_of_ble_eq_true rfl, Nat.le_of_ble_eq_true rfl⟩) hP hD hS hA [0, 1] [] rfl rfl (by decide) (by decide) ?_
  clear hP hD hS H locs
  refine fun u H locs hq hP hD hS => ?_
  replace hP : va_P D vwCl [(h0, .inr (8, [.ref h1, .int 5])), (h1, .inl (y 1, 200, .inr (.inl (vp_updL (vp_updL (vp_updL (vp_updL (vp_updL wf30542 ((0 : Int32).toNatClampNeg) 0) ((1 : Int32).toNatClampNeg) 0) ((2 : Int32).toNatClampNeg) 0) ((3 : Int32).toNatClampNeg) 0) ((4 : Int32).toNatClampNeg) 0))))] H := hP
  replace hD : va_D A [(h0, .inr (8, [.ref h1, .int 5])), (h1, .inl (y 1, 200, .inr (.inl (vp_updL (vp_updL (vp_updL (vp_updL (vp_updL wf30542 ((0 : Int32).toNatClampNeg) 0) ((1 : Int32).toNatClampNeg) 0) ((2 : Int32).toNatClampNeg) 0) ((3 : Int32).toNatClampNeg) 0) ((4 : Int32).toNatClampNeg) 0))))] := hD
  refine lv_iinc (v := 5) (lv' := [(4, .int 5), (0, .ref h0), (1, .int 6), (2, .long 0)]) hx hb dX8_addMany_24 hl (k := 0) rfl (by decide +kernel) (by decide) rfl ?_
  clear hl
  clear ls
  intro ls hl
  refine lv_goto (tgt := 3) hx hb dX8_addMany_27 (by decide) ?_
  refine lv_iload hx hb dX8_addMany_3 (lv_at hl 0 rfl) ?_
  refine lv_iload_n hx hb dX8_addMany_5 rfl (lv_at hl 2 rfl) ?_
  refine lv_icmp_ge (tgt := 30) hx hb dX8_addMany_6 (by decide) (fun c9 => absurd c9 (by decide +kernel)) (fun _ => ?_)
  refine lv_iload hx hb dX8_addMany_9 (lv_at hl 0 rfl) ?_
  refine lv_aload_n hx hb dX8_addMany_11 rfl (lv_at hl 1 rfl) ?_
  refine gm_get (D := D) (ci := 8) (v := .ref h1) (C := RX8) (T := TX8) (N := 2) hx hb hg inlX8 hown hK.1 hP 0 rfl rfl 0 (by decide) tX8_0 (hg _ gw_98) rfl dX8_addMany_12 ?_
  refine va_alen hx hb hK.1 hP 1 1 rfl rfl (v := 200) rfl dX8_addMany_15 ?_
  refine lv_icmp_ge (tgt := 30) hx hb dX8_addMany_16 (by decide) (fun c9 => absurd c9 (by decide +kernel)) (fun _ => ?_)
  refine lv_aload_n hx hb dX8_addMany_19 rfl (lv_at hl 1 rfl) ?_
  refine lv_lload_n hx hb dX8_addMany_20 rfl (lv_at hl 3 rfl) ?_
  refine g_av (wr := []) (va_runV (As := [.long 0]) (rest := []) ⟨hx, hb, hml, hown, hg⟩ (k_X8_add_33 l D y aS H.size h0 h1 (vp_updL (vp_updL (vp_updL (vp_updL (vp_updL wf30542 ((0 : Int32).toNatClampNeg) 0) ((1 : Int32).toNatClampNeg) 0) ((2 : Int32).toNatClampNeg) 0) ((3 : Int32).toNatClampNeg) 0) ((4 : Int32).toNatClampNeg) 0)) (cwV 1 hg ggV_RX8_19_X8_add rfl rfl rfl (by decide +kernel) ⟨Nat.le_of_ble_eq_true rfl, Nat.le_of_ble_eq_true rfl⟩) (g_preV (q := (RX8, TX8, 2)) hK hP hD [0, 1] rfl (by decide) (ci := 8) (q0 := 0) rfl rfl) rfl rfl hl.1 rfl (lv_room (Nat.le_of_ble_eq_true rfl)) dX8_addMany_21 ⟨Nat.le_of_ble_eq_true rfl, Nat.le_of_ble_eq_true rfl⟩) hP hD hS hA [0, 1] [] rfl rfl (by decide) (by decide) ?_
  clear hP hD hS H locs
  refine fun u H locs hq hP hD hS => ?_
  replace hP : va_P D vwCl [(h0, .inr (8, [.ref h1, .int 6])), (h1, .inl (y 1, 200, .inr (.inl (vp_updL (vp_updL (vp_updL (vp_updL (vp_updL (vp_updL wf30542 ((0 : Int32).toNatClampNeg) 0) ((1 : Int32).toNatClampNeg) 0) ((2 : Int32).toNatClampNeg) 0) ((3 : Int32).toNatClampNeg) 0) ((4 : Int32).toNatClampNeg) 0) ((5 : Int32).toNatClampNeg) 0))))] H := hP
  replace hD : va_D A [(h0, .inr (8, [.ref h1, .int 6])), (h1, .inl (y 1, 200, .inr (.inl (vp_updL (vp_updL (vp_updL (vp_updL (vp_updL (vp_updL wf30542 ((0 : Int32).toNatClampNeg) 0) ((1 : Int32).toNatClampNeg) 0) ((2 : Int32).toNatClampNeg) 0) ((3 : Int32).toNatClampNeg) 0) ((4 : Int32).toNatClampNeg) 0) ((5 : Int32).toNatClampNeg) 0))))] := hD
  refine lv_iinc (v := 6) (lv' := [(4, .int 6), (0, .ref h0), (1, .int 6), (2, .long 0)]) hx hb dX8_addMany_24 hl (k := 0) rfl (by decide +kernel) (by decide) rfl ?_
  clear hl
  clear ls
  intro ls hl
  refine lv_goto (tgt := 3) hx hb dX8_addMany_27 (by decide) ?_
  refine lv_iload hx hb dX8_addMany_3 (lv_at hl 0 rfl) ?_
  refine lv_iload_n hx hb dX8_addMany_5 rfl (lv_at hl 2 rfl) ?_
  refine lv_icmp_ge (tgt := 30) hx hb dX8_addMany_6 (by decide) (fun _ => ?_) (fun c9 => absurd c9 (by decide +kernel))
  exact g_vret hx hb hr hlocks () hP hD hS trivial (Nat.le_of_ble_eq_true rfl) (Nat.le_of_ble_eq_true rfl) dX8_addMany_30
set_option maxRecDepth 100000 in
set_option maxHeartbeats 4000000 in
theorem k_X8_set_50 (l : Launch) (D : va_G) (y : Nat → ClassId) (aS : Nat → Nat) (sz : Nat) (h0 : Nat) (p1 : Int64) (h2 : Nat) (wp30551 : Int32) (wf30552 : Nat → Int64) : Met l yX8_set (Cond.code yX8_set cX8_set 4 none :: wsL_law) ({ frames := 0, cells := 0, slots := 0, locals := 0 } : Room) (va_Pc [.ref h0, .int 5, .long p1] (gI D y aS [(h0, .inr (8, [.ref h2, .int wp30551])), (h2, .inl (y 1, 200, .inr (.inl wf30552)))] sz)) (va_Qv (fun (u : Unit) => True) (fun u => gO D (va_A [(h0, .inr (8, [.ref h2, .int wp30551])), (h2, .inl (y 1, 200, .inr (.inl wf30552)))] sz) [(h0, .inr (8, [.ref h2, .int wp30551])), (h2, .inl (y 1, 200, .inr (.inl (vp_updL wf30552 ((5 : Int32).toNatClampNeg) p1))))]) (va_A [(h0, .inr (8, [.ref h2, .int wp30551])), (h2, .inl (y 1, 200, .inr (.inl wf30552)))] sz)) 0 0 (va_A [(h0, .inr (8, [.ref h2, .int wp30551])), (h2, .inl (y 1, 200, .inr (.inl wf30552)))] sz) := by
  refine g_of (by decide) (Nat.le_of_ble_eq_true rfl) ?_
  intro p e s m below meth c ls A hx hb hr hml hown hg hlocks hin hsz hK hP hD hS hA hAe hl
  rw [← hAe]
  replace hown : s.vm.findClass RX8 = some m.cls := hown
  replace hl : lv_has ls 4 [(0, .ref h0), (1, .int 5), (2, .long p1)] := hl
  refine lv_iload_n hx hb dX8_set_0 rfl (lv_at hl 1 rfl) ?_
  refine lv_if_lt (tgt := 20) hx hb dX8_set_1 (by decide) (fun c9 => absurd c9 (by decide +kernel)) (fun _ => ?_)
  refine lv_iload_n hx hb dX8_set_4 rfl (lv_at hl 1 rfl) ?_
  refine lv_aload_n hx hb dX8_set_5 rfl (lv_at hl 0 rfl) ?_
  refine gm_get (D := D) (ci := 8) (v := .ref h2) (C := RX8) (T := TX8) (N := 2) hx hb hg inlX8 hown hK.1 hP 0 rfl rfl 0 (by decide) tX8_0 (hg _ gw_98) rfl dX8_set_6 ?_
  refine va_alen hx hb hK.1 hP 1 1 rfl rfl (v := 200) rfl dX8_set_9 ?_
  refine lv_icmp_ge (tgt := 20) hx hb dX8_set_10 (by decide) (fun c9 => absurd c9 (by decide +kernel)) (fun _ => ?_)
  refine lv_aload_n hx hb dX8_set_13 rfl (lv_at hl 0 rfl) ?_
  refine gm_get (D := D) (ci := 8) (v := .ref h2) (C := RX8) (T := TX8) (N := 2) hx hb hg inlX8 hown hK.1 hP 0 rfl rfl 0 (by decide) tX8_0 (hg _ gw_98) rfl dX8_set_14 ?_
  refine lv_iload_n hx hb dX8_set_17 rfl (lv_at hl 1 rfl) ?_
  refine lv_lload_n hx hb dX8_set_18 rfl (lv_at hl 2 rfl) ?_
  refine va_last hx hb hK.1 hP hD hS 1 1 rfl rfl (by unfold vp_in; decide +kernel) dX8_set_19 ?_
  clear hP hD hS
  refine fun H locs (hP : va_P D vwCl [(h0, .inr (8, [.ref h2, .int wp30551])), (h2, .inl (y 1, 200, .inr (.inl (vp_updL wf30552 ((5 : Int32).toNatClampNeg) p1))))] H) (hD : va_D A [(h0, .inr (8, [.ref h2, .int wp30551])), (h2, .inl (y 1, 200, .inr (.inl (vp_updL wf30552 ((5 : Int32).toNatClampNeg) p1))))]) hS => ?_
  exact g_vret hx hb hr hlocks () hP hD hS trivial (Nat.le_of_ble_eq_true rfl) (Nat.le_of_ble_eq_true rfl) dX8_set_20
set_option maxRecDepth 100000 in
set_option maxHeartbeats 4000000 in
theorem k_X5_find_15 (l : Launch) (D : va_G) (y : Nat → ClassId) (aS : Nat → Nat) (sz : Nat) (h0 : Nat) (h1 : Nat) (h2 : Nat) (h3 : Nat) (h4 : Nat) (wp30581 : Int32) (h6 : Nat) (wp30582 : Int32) : Met l yX5_find (Cond.code yX5_find cX5_find 6 none :: wsL_law) ({ frames := 1, cells := 0, slots := 0, locals := 21 } : Room) (va_Pc [.ref h0, .int 0, .int 5] (gI D y aS [(h0, .inr (5, [.ref h1, .ref h2, .ref h3, .ref h4, .int wp30581])), (h4, .inr (8, [.ref h6, .int wp30582])), (h6, .inl (y 1, 3, .inr (.inl (fun _ => 0))))] sz)) (va_Qv (fun (u : Unit) => True) (fun u => gO D (va_A [(h0, .inr (5, [.ref h1, .ref h2, .ref h3, .ref h4, .int wp30581])), (h4, .inr (8, [.ref h6, .int wp30582])), (h6, .inl (y 1, 3, .inr (.inl (fun _ => 0))))] sz) [(h0, .inr (5, [.ref h1, .ref h2, .ref h3, .ref h4, .int wp30581])), (h4, .inr (8, [.ref h6, .int wp30582])), (h6, .inl (y 1, 3, .inr (.inl (fun _ => 0))))]) (va_A [(h0, .inr (5, [.ref h1, .ref h2, .ref h3, .ref h4, .int wp30581])), (h4, .inr (8, [.ref h6, .int wp30582])), (h6, .inl (y 1, 3, .inr (.inl (fun _ => 0))))] sz)) 0 0 (va_A [(h0, .inr (5, [.ref h1, .ref h2, .ref h3, .ref h4, .int wp30581])), (h4, .inr (8, [.ref h6, .int wp30582])), (h6, .inl (y 1, 3, .inr (.inl (fun _ => 0))))] sz) := by
  refine g_of (by decide) (Nat.le_of_ble_eq_true rfl) ?_
  intro p e s m below meth c ls A hx hb hr hml hown hg hlocks hin hsz hK hP hD hS hA hAe hl
  rw [← hAe]
  replace hown : s.vm.findClass RX5 = some m.cls := hown
  replace hl : lv_has ls 6 [(0, .ref h0), (1, .int 0), (2, .int 5)] := hl
  refine lv_aload_n hx hb dX5_find_0 rfl (lv_at hl 0 rfl) ?_
  refine gm_get (D := D) (ci := 5) (v := .ref h4) (C := RX5) (T := TX5) (N := 5) hx hb hg inlX5 hown hK.1 hP 0 rfl rfl 3 (by decide) tX5_3 (hg _ gw_141) rfl dX5_find_1 ?_
  refine lv_iload_n hx hb dX5_find_4 rfl (lv_at hl 1 rfl) ?_
  refine g_ai (wr := [(h0, .inr (5, [.ref h1, .ref h2, .ref h3, .ref h4, .int wp30581]))]) (va_runV (As := [.int 0]) (rest := []) ⟨hx, hb, hml, hown, hg⟩ (k_X8_whole_27 l D y aS s.heap.size h4 h6 wp30582) (cwV 1 hg ggV_RX5_50_X8_whole rfl rfl rfl (by decide +kernel) ⟨Nat.le_of_ble_eq_true rfl, Nat.le_of_ble_eq_true rfl⟩) (g_preV (q := (RX8, TX8, 2)) hK hP hD [1, 2] rfl (by decide) (ci := 8) (q0 := 1) rfl rfl) rfl rfl hl.1 rfl (lv_room (Nat.le_of_ble_eq_true rfl)) dX5_find_5 ⟨Nat.le_of_ble_eq_true rfl, Nat.le_of_ble_eq_true rfl⟩) hP hD hS hA [1, 2] [0] rfl rfl (by decide) (by decide) ?_
  clear hP hD hS
  refine fun r30583 u H locs hq hP hD hS => ?_
  subst hq
  replace hP : va_P D vwCl [(h0, .inr (5, [.ref h1, .ref h2, .ref h3, .ref h4, .int wp30581])), (h4, .inr (8, [.ref h6, .int wp30582])), (h6, .inl (y 1, 3, .inr (.inl (fun _ => 0))))] H := hP
  replace hD : va_D A [(h0, .inr (5, [.ref h1, .ref h2, .ref h3, .ref h4, .int wp30581])), (h4, .inr (8, [.ref h6, .int wp30582])), (h6, .inl (y 1, 3, .inr (.inl (fun _ => 0))))] := hD
  refine lv_istore_n (lv' := [(3, .int 0), (0, .ref h0), (1, .int 0), (2, .int 5)]) hx hb dX5_find_8 rfl hl (by decide) rfl ?_
  clear hl
  clear ls
  intro ls hl
  refine lv_iconst (v := 0) hx hb dX5_find_9 (by decide) ?_
  refine lv_istore (lv' := [(4, .int 0), (3, .int 0), (0, .ref h0), (1, .int 0), (2, .int 5)]) hx hb dX5_find_10 hl (by decide) rfl ?_
  clear hl
  clear ls
  intro ls hl
  refine lv_iload hx hb dX5_find_12 (lv_at hl 0 rfl) ?_
  refine lv_iload_n hx hb dX5_find_14 rfl (lv_at hl 1 rfl) ?_
  refine lv_icmp_ge (tgt := 67) hx hb dX5_find_15 (by decide) (fun _ => ?_) (fun c9 => absurd c9 (by decide +kernel))
  refine lv_iload_n hx hb dX5_find_67 rfl (lv_at hl 1 rfl) ?_
  refine lv_if_le (tgt := 107) hx hb dX5_find_68 (by decide) (fun _ => ?_) (fun c9 => absurd c9 (by decide +kernel))
  refine lv_iload hx hb dX5_find_107 (lv_at hl 0 rfl) ?_
  refine lv_if_le (tgt := 139) hx hb dX5_find_109 (by decide) (fun _ => ?_) (fun c9 => absurd c9 (by decide +kernel))
  exact g_vret hx hb hr hlocks () hP hD hS trivial (Nat.le_of_ble_eq_true rfl) (Nat.le_of_ble_eq_true rfl) dX5_find_139
set_option maxRecDepth 100000 in
set_option maxHeartbeats 4000000 in
theorem k_X5_find_16 (l : Launch) (D : va_G) (y : Nat → ClassId) (aS : Nat → Nat) (sz : Nat) (h0 : Nat) (h1 : Nat) (h2 : Nat) (h3 : Nat) (h4 : Nat) (wp30586 : Int32) (h6 : Nat) (wp30587 : Int32) : Met l yX5_find (Cond.code yX5_find cX5_find 6 none :: wsL_law) ({ frames := 1, cells := 0, slots := 0, locals := 21 } : Room) (va_Pc [.ref h0, .int 1, .int 5] (gI D y aS [(h0, .inr (5, [.ref h1, .ref h2, .ref h3, .ref h4, .int wp30586])), (h4, .inr (8, [.ref h6, .int wp30587])), (h6, .inl (y 1, 3, .inr (.inl (fun _ => 0))))] sz)) (va_Qv (fun (u : Unit) => True) (fun u => gO D (va_A [(h0, .inr (5, [.ref h1, .ref h2, .ref h3, .ref h4, .int wp30586])), (h4, .inr (8, [.ref h6, .int wp30587])), (h6, .inl (y 1, 3, .inr (.inl (fun _ => 0))))] sz) [(h0, .inr (5, [.ref h1, .ref h2, .ref h3, .ref h4, .int wp30586])), (h4, .inr (8, [.ref h6, .int wp30587])), (h6, .inl (y 1, 3, .inr (.inl (fun _ => 0))))]) (va_A [(h0, .inr (5, [.ref h1, .ref h2, .ref h3, .ref h4, .int wp30586])), (h4, .inr (8, [.ref h6, .int wp30587])), (h6, .inl (y 1, 3, .inr (.inl (fun _ => 0))))] sz)) 0 0 (va_A [(h0, .inr (5, [.ref h1, .ref h2, .ref h3, .ref h4, .int wp30586])), (h4, .inr (8, [.ref h6, .int wp30587])), (h6, .inl (y 1, 3, .inr (.inl (fun _ => 0))))] sz) := by
  refine g_of (by decide) (Nat.le_of_ble_eq_true rfl) ?_
  intro p e s m below meth c ls A hx hb hr hml hown hg hlocks hin hsz hK hP hD hS hA hAe hl
  rw [← hAe]
  replace hown : s.vm.findClass RX5 = some m.cls := hown
  replace hl : lv_has ls 6 [(0, .ref h0), (1, .int 1), (2, .int 5)] := hl
  refine lv_aload_n hx hb dX5_find_0 rfl (lv_at hl 0 rfl) ?_
  refine gm_get (D := D) (ci := 5) (v := .ref h4) (C := RX5) (T := TX5) (N := 5) hx hb hg inlX5 hown hK.1 hP 0 rfl rfl 3 (by decide) tX5_3 (hg _ gw_141) rfl dX5_find_1 ?_
  refine lv_iload_n hx hb dX5_find_4 rfl (lv_at hl 1 rfl) ?_
  refine g_ai (wr := [(h0, .inr (5, [.ref h1, .ref h2, .ref h3, .ref h4, .int wp30586]))]) (va_runV (As := [.int 1]) (rest := []) ⟨hx, hb, hml, hown, hg⟩ (k_X8_whole_28 l D y aS s.heap.size h4 h6 wp30587) (cwV 1 hg ggV_RX5_50_X8_whole rfl rfl rfl (by decide +kernel) ⟨Nat.le_of_ble_eq_true rfl, Nat.le_of_ble_eq_true rfl⟩) (g_preV (q := (RX8, TX8, 2)) hK hP hD [1, 2] rfl (by decide) (ci := 8) (q0 := 1) rfl rfl) rfl rfl hl.1 rfl (lv_room (Nat.le_of_ble_eq_true rfl)) dX5_find_5 ⟨Nat.le_of_ble_eq_true rfl, Nat.le_of_ble_eq_true rfl⟩) hP hD hS hA [1, 2] [0] rfl rfl (by decide) (by decide) ?_
  clear hP hD hS
  refine fun r30588 u H locs hq hP hD hS => ?_
  subst hq
  replace hP : va_P D vwCl [(h0, .inr (5, [.ref h1, .ref h2, .ref h3, .ref h4, .int wp30586])), (h4, .inr (8, [.ref h6, .int wp30587])), (h6, .inl (y 1, 3, .inr (.inl (fun _ => 0))))] H := hP
  replace hD : va_D A [(h0, .inr (5, [.ref h1, .ref h2, .ref h3, .ref h4, .int wp30586])), (h4, .inr (8, [.ref h6, .int wp30587])), (h6, .inl (y 1, 3, .inr (.inl (fun _ => 0))))] := hD
  refine lv_istore_n (lv' := [(3, .int 0), (0, .ref h0), (1, .int 1), (2, .int 5)]) hx hb dX5_find_8 rfl hl (by decide) rfl ?_
  clear hl
  clear ls
  intro ls hl
  refine lv_iconst (v := 0) hx hb dX5_find_9 (by decide) ?_
  refine lv_istore (lv' := [(4, .int 0), (3, .int 0), (0, .ref h0), (1, .int 1), (2, .int 5)]) hx hb dX5_find_10 hl (by decide) rfl ?_
  clear hl
  clear ls
  intro ls hl
  refine lv_iload hx hb dX5_find_12 (lv_at hl 0 rfl) ?_
  refine lv_iload_n hx hb dX5_find_14 rfl (lv_at hl 1 rfl) ?_
  refine lv_icmp_ge (tgt := 67) hx hb dX5_find_15 (by decide) (fun _ => ?_) (fun c9 => absurd c9 (by decide +kernel))
  refine lv_iload_n hx hb dX5_find_67 rfl (lv_at hl 1 rfl) ?_
  refine lv_if_le (tgt := 107) hx hb dX5_find_68 (by decide) (fun _ => ?_) (fun c9 => absurd c9 (by decide +kernel))
  refine lv_iload hx hb dX5_find_107 (lv_at hl 0 rfl) ?_
  refine lv_if_le (tgt := 139) hx hb dX5_find_109 (by decide) (fun _ => ?_) (fun c9 => absurd c9 (by decide +kernel))
  exact g_vret hx hb hr hlocks () hP hD hS trivial (Nat.le_of_ble_eq_true rfl) (Nat.le_of_ble_eq_true rfl) dX5_find_139
set_option maxRecDepth 100000 in
set_option maxHeartbeats 4000000 in
theorem k_X5_find_17 (l : Launch) (D : va_G) (y : Nat → ClassId) (aS : Nat → Nat) (sz : Nat) (h0 : Nat) (h1 : Nat) (h2 : Nat) (h3 : Nat) (h4 : Nat) (wp30591 : Int32) (h6 : Nat) (wp30592 : Int32) : Met l yX5_find (Cond.code yX5_find cX5_find 6 none :: wsL_law) ({ frames := 1, cells := 0, slots := 0, locals := 21 } : Room) (va_Pc [.ref h0, .int 2, .int 5] (gI D y aS [(h0, .inr (5, [.ref h1, .ref h2, .ref h3, .ref h4, .int wp30591])), (h4, .inr (8, [.ref h6, .int wp30592])), (h6, .inl (y 1, 3, .inr (.inl (fun _ => 0))))] sz)) (va_Qv (fun (u : Unit) => True) (fun u => gO D (va_A [(h0, .inr (5, [.ref h1, .ref h2, .ref h3, .ref h4, .int wp30591])), (h4, .inr (8, [.ref h6, .int wp30592])), (h6, .inl (y 1, 3, .inr (.inl (fun _ => 0))))] sz) [(h0, .inr (5, [.ref h1, .ref h2, .ref h3, .ref h4, .int wp30591])), (h4, .inr (8, [.ref h6, .int wp30592])), (h6, .inl (y 1, 3, .inr (.inl (fun _ => 0))))]) (va_A [(h0, .inr (5, [.ref h1, .ref h2, .ref h3, .ref h4, .int wp30591])), (h4, .inr (8, [.ref h6, .int wp30592])), (h6, .inl (y 1, 3, .inr (.inl (fun _ => 0))))] sz)) 0 0 (va_A [(h0, .inr (5, [.ref h1, .ref h2, .ref h3, .ref h4, .int wp30591])), (h4, .inr (8, [.ref h6, .int wp30592])), (h6, .inl (y 1, 3, .inr (.inl (fun _ => 0))))] sz) := by
  refine g_of (by decide) (Nat.le_of_ble_eq_true rfl) ?_
  intro p e s m below meth c ls A hx hb hr hml hown hg hlocks hin hsz hK hP hD hS hA hAe hl
  rw [← hAe]
  replace hown : s.vm.findClass RX5 = some m.cls := hown
  replace hl : lv_has ls 6 [(0, .ref h0), (1, .int 2), (2, .int 5)] := hl
  refine lv_aload_n hx hb dX5_find_0 rfl (lv_at hl 0 rfl) ?_
  refine gm_get (D := D) (ci := 5) (v := .ref h4) (C := RX5) (T := TX5) (N := 5) hx hb hg inlX5 hown hK.1 hP 0 rfl rfl 3 (by decide) tX5_3 (hg _ gw_141) rfl dX5_find_1 ?_
  refine lv_iload_n hx hb dX5_find_4 rfl (lv_at hl 1 rfl) ?_
  refine g_ai (wr := [(h0, .inr (5, [.ref h1, .ref h2, .ref h3, .ref h4, .int wp30591]))]) (va_runV (As := [.int 2]) (rest := []) ⟨hx, hb, hml, hown, hg⟩ (k_X8_whole_29 l D y aS s.heap.size h4 h6 wp30592) (cwV 1 hg ggV_RX5_50_X8_whole rfl rfl rfl (by decide +kernel) ⟨Nat.le_of_ble_eq_true rfl, Nat.le_of_ble_eq_true rfl⟩) (g_preV (q := (RX8, TX8, 2)) hK hP hD [1, 2] rfl (by decide) (ci := 8) (q0 := 1) rfl rfl) rfl rfl hl.1 rfl (lv_room (Nat.le_of_ble_eq_true rfl)) dX5_find_5 ⟨Nat.le_of_ble_eq_true rfl, Nat.le_of_ble_eq_true rfl⟩) hP hD hS hA [1, 2] [0] rfl rfl (by decide) (by decide) ?_
  clear hP hD hS
  refine fun r30593 u H locs hq hP hD hS => ?_
  subst hq
  replace hP : va_P D vwCl [(h0, .inr (5, [.ref h1, .ref h2, .ref h3, .ref h4, .int wp30591])), (h4, .inr (8, [.ref h6, .int wp30592])), (h6, .inl (y 1, 3, .inr (.inl (fun _ => 0))))] H := hP
  replace hD : va_D A [(h0, .inr (5, [.ref h1, .ref h2, .ref h3, .ref h4, .int wp30591])), (h4, .inr (8, [.ref h6, .int wp30592])), (h6, .inl (y 1, 3, .inr (.inl (fun _ => 0))))] := hD
  refine lv_istore_n (lv' := [(3, .int 0), (0, .ref h0), (1, .int 2), (2, .int 5)]) hx hb dX5_find_8 rfl hl (by decide) rfl ?_
  clear hl
  clear ls
  intro ls hl
  refine lv_iconst (v := 0) hx hb dX5_find_9 (by decide) ?_
  refine lv_istore (lv' := [(4, .int 0), (3, .int 0), (0, .ref h0), (1, .int 2), (2, .int 5)]) hx hb dX5_find_10 hl (by decide) rfl ?_
  clear hl
  clear ls
  intro ls hl
  refine lv_iload hx hb dX5_find_12 (lv_at hl 0 rfl) ?_
  refine lv_iload_n hx hb dX5_find_14 rfl (lv_at hl 1 rfl) ?_
  refine lv_icmp_ge (tgt := 67) hx hb dX5_find_15 (by decide) (fun _ => ?_) (fun c9 => absurd c9 (by decide +kernel))
  refine lv_iload_n hx hb dX5_find_67 rfl (lv_at hl 1 rfl) ?_
  refine lv_if_le (tgt := 107) hx hb dX5_find_68 (by decide) (fun _ => ?_) (fun c9 => absurd c9 (by decide +kernel))
  refine lv_iload hx hb dX5_find_107 (lv_at hl 0 rfl) ?_
  refine lv_if_le (tgt := 139) hx hb dX5_find_109 (by decide) (fun _ => ?_) (fun c9 => absurd c9 (by decide +kernel))
  exact g_vret hx hb hr hlocks () hP hD hS trivial (Nat.le_of_ble_eq_true rfl) (Nat.le_of_ble_eq_true rfl) dX5_find_139
set_option maxRecDepth 100000 in
set_option maxHeartbeats 4000000 in
theorem k_X5_findOut_6 (l : Launch) (D : va_G) (y : Nat → ClassId) (aS : Nat → Nat) (sz : Nat) (h0 : Nat) (h1 : Nat) (h2 : Nat) (h3 : Nat) (h4 : Nat) (wp30595 : Int32) (h6 : Nat) (h7 : Nat) (wp30596 : Int32) (wf30597 : Nat → Int64) (h10 : Nat) (wp30598 : Int32) : Met l yX5_findOut (Cond.code yX5_findOut cX5_findOut 3 none :: wsL_law) ({ frames := 2, cells := 0, slots := 0, locals := 46 } : Room) (va_Pc [.ref h0] (gI D y aS [(h0, .inr (5, [.ref h1, .ref h2, .ref h3, .ref h4, .int wp30595])), (h1, .inr (8, [.ref h6, .int 6])), (h2, .inr (8, [.ref h7, .int wp30596])), (h7, .inl (y 1, 200, .inr (.inl wf30597))), (h4, .inr (8, [.ref h10, .int wp30598])), (h10, .inl (y 1, 3, .inr (.inl (fun _ => 0))))] sz)) (va_Qv (fun (u : Unit) => True) (fun u => gO D (va_A [(h0, .inr (5, [.ref h1, .ref h2, .ref h3, .ref h4, .int wp30595])), (h1, .inr (8, [.ref h6, .int 6])), (h2, .inr (8, [.ref h7, .int wp30596])), (h7, .inl (y 1, 200, .inr (.inl wf30597))), (h4, .inr (8, [.ref h10, .int wp30598])), (h10, .inl (y 1, 3, .inr (.inl (fun _ => 0))))] sz) [(h0, .inr (5, [.ref h1, .ref h2, .ref h3, .ref h4, .int 6])), (h1, .inr (8, [.ref h6, .int 6])), (h2, .inr (8, [.ref h7, .int wp30596])), (h7, .inl (y 1, 200, .inr (.inl (vp_updL (vp_updL (vp_updL (vp_updL (vp_updL (vp_updL wf30597 ((0 : Int32).toNatClampNeg) 0) ((1 : Int32).toNatClampNeg) 0) ((2 : Int32).toNatClampNeg) 0) ((3 : Int32).toNatClampNeg) 0) ((4 : Int32).toNatClampNeg) 0) ((5 : Int32).toNatClampNeg) 0)))), (h4, .inr (8, [.ref h10, .int wp30598])), (h10, .inl (y 1, 3, .inr (.inl (fun _ => 0))))]) (va_A [(h0, .inr (5, [.ref h1, .ref h2, .ref h3, .ref h4, .int wp30595])), (h1, .inr (8, [.ref h6, .int 6])), (h2, .inr (8, [.ref h7, .int wp30596])), (h7, .inl (y 1, 200, .inr (.inl wf30597))), (h4, .inr (8, [.ref h10, .int wp30598])), (h10, .inl (y 1, 3, .inr (.inl (fun _ => 0))))] sz)) 0 0 (va_A [(h0, .inr (5, [.ref h1, .ref h2, .ref h3, .ref h4, .int wp30595])), (h1, .inr (8, [.ref h6, .int 6])), (h2, .inr (8, [.ref h7, .int wp30596])), (h7, .inl (y 1, 200, .inr (.inl wf30597))), (h4, .inr (8, [.ref h10, .int wp30598])), (h10, .inl (y 1, 3, .inr (.inl (fun _ => 0))))] sz) := by
  refine g_of (by decide) (Nat.le_of_ble_eq_true rfl) ?_
  intro p e s m below meth c ls A hx hb hr hml hown hg hlocks hin hsz hK hP hD hS hA hAe hl
  rw [← hAe]
  replace hown : s.vm.findClass RX5 = some m.cls := hown
  replace hl : lv_has ls 3 [(0, .ref h0)] := hl
  refine lv_aload_n hx hb dX5_findOut_0 rfl (lv_at hl 0 rfl) ?_
  refine lv_aload_n hx hb dX5_findOut_1 rfl (lv_at hl 0 rfl) ?_
  refine gm_get (D := D) (ci := 5) (v := .ref h1) (C := RX5) (T := TX5) (N := 5) hx hb hg inlX5 hown hK.1 hP 0 rfl rfl 0 (by decide) tX5_0 (hg _ gw_138) rfl dX5_findOut_2 ?_
  refine gm_get (D := D) (ci := 8) (v := .int 6) (C := RX8) (T := TX8) (N := 2) hx hb hg inlX8 hown hK.1 hP 1 rfl rfl 1 (by decide) tX8_1 (hg _ gw_1441) rfl dX5_findOut_5 ?_
  refine gm_put (D := D) (ci := 5) (v := .int 6) (ty := .int) (C := RX5) (T := TX5) (N := 5) hx hb hg inlX5 tyX5 tyX5_ok nmX5 hown hK.1 hP hD hS 0 rfl rfl 4 (by decide) tX5_4 (hg _ gw_1442) (by decide +kernel) rfl rfl (Nat.le_of_ble_eq_true rfl) dX5_findOut_8 ?_
  clear hP hD hS
  refine fun H locs (hP : va_P D vwCl [(h0, .inr (5, [.ref h1, .ref h2, .ref h3, .ref h4, .int 6])), (h1, .inr (8, [.ref h6, .int 6])), (h2, .inr (8, [.ref h7, .int wp30596])), (h7, .inl (y 1, 200, .inr (.inl wf30597))), (h4, .inr (8, [.ref h10, .int wp30598])), (h10, .inl (y 1, 3, .inr (.inl (fun _ => 0))))] H) (hD : va_D A [(h0, .inr (5, [.ref h1, .ref h2, .ref h3, .ref h4, .int 6])), (h1, .inr (8, [.ref h6, .int 6])), (h2, .inr (8, [.ref h7, .int wp30596])), (h7, .inl (y 1, 200, .inr (.inl wf30597))), (h4, .inr (8, [.ref h10, .int wp30598])), (h10, .inl (y 1, 3, .inr (.inl (fun _ => 0))))]) hS => ?_
  refine lv_iconst (v := 0) hx hb dX5_findOut_11 (by decide) ?_
  refine lv_istore_n (lv' := [(1, .int 0), (0, .ref h0)]) hx hb dX5_findOut_12 rfl hl (by decide) rfl ?_
  clear hl
  clear ls
  intro ls hl
  refine lv_iload_n hx hb dX5_findOut_13 rfl (lv_at hl 0 rfl) ?_
  refine lv_aload_n hx hb dX5_findOut_14 rfl (lv_at hl 1 rfl) ?_
  refine gm_get (D := D) (ci := 5) (v := .ref h1) (C := RX5) (T := TX5) (N := 5) hx hb hg inlX5 hown hK.1 hP 0 rfl rfl 0 (by decide) tX5_0 (hg _ gw_138) rfl dX5_findOut_15 ?_
  refine gm_get (D := D) (ci := 8) (v := .int 6) (C := RX8) (T := TX8) (N := 2) hx hb hg inlX8 hown hK.1 hP 1 rfl rfl 1 (by decide) tX8_1 (hg _ gw_1441) rfl dX5_findOut_18 ?_
  refine lv_icmp_ge (tgt := 39) hx hb dX5_findOut_21 (by decide) (fun c9 => absurd c9 (by decide +kernel)) (fun _ => ?_)
  refine lv_aload_n hx hb dX5_findOut_24 rfl (lv_at hl 1 rfl) ?_
  refine gm_get (D := D) (ci := 5) (v := .ref h2) (C := RX5) (T := TX5) (N := 5) hx hb hg inlX5 hown hK.1 hP 0 rfl rfl 1 (by decide) tX5_1 (hg _ gw_139) rfl dX5_findOut_25 ?_
  refine lv_iload_n hx hb dX5_findOut_28 rfl (lv_at hl 0 rfl) ?_
  refine lv_lconst (v := 0) hx hb dX5_findOut_29 (by decide) ?_
  refine g_av (wr := [(h0, .inr (5, [.ref h1, .ref h2, .ref h3, .ref h4, .int 6])), (h1, .inr (8, [.ref h6, .int 6])), (h4, .inr (8, [.ref h10, .int wp30598])), (h10, .inl (y 1, 3, .inr (.inl (fun _ => 0))))]) (va_runV (As := [.int 0, .long 0]) (rest := []) ⟨hx, hb, hml, hown, hg⟩ (k_X8_set_45 l D y aS H.size h2 0 h7 wp30596 wf30597) (cwV 2 hg ggV_RX5_29_X8_set rfl rfl rfl (by decide +kernel) ⟨Nat.le_of_ble_eq_true rfl, Nat.le_of_ble_eq_true rfl⟩) (g_preV (q := (RX8, TX8, 2)) hK hP hD [2, 3] rfl (by decide) (ci := 8) (q0 := 2) rfl rfl) rfl rfl hl.1 rfl (lv_room (Nat.le_of_ble_eq_true rfl)) dX5_findOut_30 ⟨Nat.le_of_ble_eq_true rfl, Nat.le_of_ble_eq_true rfl⟩) hP hD hS hA [2, 3] [0, 1, 4, 5] rfl rfl (by decide) (by decide) ?_
  clear hP hD hS H locs
  refine fun u H locs hq hP hD hS => ?_
  replace hP : va_P D vwCl [(h0, .inr (5, [.ref h1, .ref h2, .ref h3, .ref h4, .int 6])), (h1, .inr (8, [.ref h6, .int 6])), (h4, .inr (8, [.ref h10, .int wp30598])), (h10, .inl (y 1, 3, .inr (.inl (fun _ => 0)))), (h2, .inr (8, [.ref h7, .int wp30596])), (h7, .inl (y 1, 200, .inr (.inl (vp_updL wf30597 ((0 : Int32).toNatClampNeg) 0))))] H := hP
  replace hD : va_D A [(h0, .inr (5, [.ref h1, .ref h2, .ref h3, .ref h4, .int 6])), (h1, .inr (8, [.ref h6, .int 6])), (h4, .inr (8, [.ref h10, .int wp30598])), (h10, .inl (y 1, 3, .inr (.inl (fun _ => 0)))), (h2, .inr (8, [.ref h7, .int wp30596])), (h7, .inl (y 1, 200, .inr (.inl (vp_updL wf30597 ((0 : Int32).toNatClampNeg) 0))))] := hD
  refine lv_iinc (v := 1) (lv' := [(1, .int 1), (0, .ref h0)]) hx hb dX5_findOut_33 hl (k := 0) rfl (by decide +kernel) (by decide) rfl ?_
  clear hl
  clear ls
  intro ls hl
  refine lv_goto (tgt := 13) hx hb dX5_findOut_36 (by decide) ?_
  refine lv_iload_n hx hb dX5_findOut_13 rfl (lv_at hl 0 rfl) ?_
  refine lv_aload_n hx hb dX5_findOut_14 rfl (lv_at hl 1 rfl) ?_
  refine gm_get (D := D) (ci := 5) (v := .ref h1) (C := RX5) (T := TX5) (N := 5) hx hb hg inlX5 hown hK.1 hP 0 rfl rfl 0 (by decide) tX5_0 (hg _ gw_138) rfl dX5_findOut_15 ?_
  refine gm_get (D := D) (ci := 8) (v := .int 6) (C := RX8) (T := TX8) (N := 2) hx hb hg inlX8 hown hK.1 hP 1 rfl rfl 1 (by decide) tX8_1 (hg _ gw_1441) rfl dX5_findOut_18 ?_
  refine lv_icmp_ge (tgt := 39) hx hb dX5_findOut_21 (by decide) (fun c9 => absurd c9 (by decide +kernel)) (fun _ => ?_)
  refine lv_aload_n hx hb dX5_findOut_24 rfl (lv_at hl 1 rfl) ?_
  refine gm_get (D := D) (ci := 5) (v := .ref h2) (C := RX5) (T := TX5) (N := 5) hx hb hg inlX5 hown hK.1 hP 0 rfl rfl 1 (by decide) tX5_1 (hg _ gw_139) rfl dX5_findOut_25 ?_
  refine lv_iload_n hx hb dX5_findOut_28 rfl (lv_at hl 0 rfl) ?_
  refine lv_lconst (v := 0) hx hb dX5_findOut_29 (by decide) ?_
  refine g_av (wr := [(h0, .inr (5, [.ref h1, .ref h2, .ref h3, .ref h4, .int 6])), (h1, .inr (8, [.ref h6, .int 6])), (h4, .inr (8, [.ref h10, .int wp30598])), (h10, .inl (y 1, 3, .inr (.inl (fun _ => 0))))]) (va_runV (As := [.int 1, .long 0]) (rest := []) ⟨hx, hb, hml, hown, hg⟩ (k_X8_set_46 l D y aS H.size h2 0 h7 wp30596 (vp_updL wf30597 ((0 : Int32).toNatClampNeg) 0)) (cwV 2 hg ggV_RX5_29_X8_set rfl rfl rfl (by decide +kernel) ⟨Nat.le_of_ble_eq_true rfl, Nat.le_of_ble_eq_true rfl⟩) (g_preV (q := (RX8, TX8, 2)) hK hP hD [4, 5] rfl (by decide) (ci := 8) (q0 := 4) rfl rfl) rfl rfl hl.1 rfl (lv_room (Nat.le_of_ble_eq_true rfl)) dX5_findOut_30 ⟨Nat.le_of_ble_eq_true rfl, Nat.le_of_ble_eq_true rfl⟩) hP hD hS hA [4, 5] [0, 1, 2, 3] rfl rfl (by decide) (by decide) ?_
  clear hP hD hS H locs
  refine fun u H locs hq hP hD hS => ?_
  replace hP : va_P D vwCl [(h0, .inr (5, [.ref h1, .ref h2, .ref h3, .ref h4, .int 6])), (h1, .inr (8, [.ref h6, .int 6])), (h4, .inr (8, [.ref h10, .int wp30598])), (h10, .inl (y 1, 3, .inr (.inl (fun _ => 0)))), (h2, .inr (8, [.ref h7, .int wp30596])), (h7, .inl (y 1, 200, .inr (.inl (vp_updL (vp_updL wf30597 ((0 : Int32).toNatClampNeg) 0) ((1 : Int32).toNatClampNeg) 0))))] H := hP
  replace hD : va_D A [(h0, .inr (5, [.ref h1, .ref h2, .ref h3, .ref h4, .int 6])), (h1, .inr (8, [.ref h6, .int 6])), (h4, .inr (8, [.ref h10, .int wp30598])), (h10, .inl (y 1, 3, .inr (.inl (fun _ => 0)))), (h2, .inr (8, [.ref h7, .int wp30596])), (h7, .inl (y 1, 200, .inr (.inl (vp_updL (vp_updL wf30597 ((0 : Int32).toNatClampNeg) 0) ((1 : Int32).toNatClampNeg) 0))))] := hD
  refine lv_iinc (v := 2) (lv' := [(1, .int 2), (0, .ref h0)]) hx hb dX5_findOut_33 hl (k := 0) rfl (by decide +kernel) (by decide) rfl ?_
  clear hl
  clear ls
  intro ls hl
  refine lv_goto (tgt := 13) hx hb dX5_findOut_36 (by decide) ?_
  refine lv_iload_n hx hb dX5_findOut_13 rfl (lv_at hl 0 rfl) ?_
  refine lv_aload_n hx hb dX5_findOut_14 rfl (lv_at hl 1 rfl) ?_
  refine gm_get (D := D) (ci := 5) (v := .ref h1) (C := RX5) (T := TX5) (N := 5) hx hb hg inlX5 hown hK.1 hP 0 rfl rfl 0 (by decide) tX5_0 (hg _ gw_138) rfl dX5_findOut_15 ?_
  refine gm_get (D := D) (ci := 8) (v := .int 6) (C := RX8) (T := TX8) (N := 2) hx hb hg inlX8 hown hK.1 hP 1 rfl rfl 1 (by decide) tX8_1 (hg _ gw_1441) rfl dX5_findOut_18 ?_
  refine lv_icmp_ge (tgt := 39) hx hb dX5_findOut_21 (by decide) (fun c9 => absurd c9 (by decide +kernel)) (fun _ => ?_)
  refine lv_aload_n hx hb dX5_findOut_24 rfl (lv_at hl 1 rfl) ?_
  refine gm_get (D := D) (ci := 5) (v := .ref h2) (C := RX5) (T := TX5) (N := 5) hx hb hg inlX5 hown hK.1 hP 0 rfl rfl 1 (by decide) tX5_1 (hg _ gw_139) rfl dX5_findOut_25 ?_
  refine lv_iload_n hx hb dX5_findOut_28 rfl (lv_at hl 0 rfl) ?_
  refine lv_lconst (v := 0) hx hb dX5_findOut_29 (by decide) ?_
  refine g_av (wr := [(h0, .inr (5, [.ref h1, .ref h2, .ref h3, .ref h4, .int 6])), (h1, .inr (8, [.ref h6, .int 6])), (h4, .inr (8, [.ref h10, .int wp30598])), (h10, .inl (y 1, 3, .inr (.inl (fun _ => 0))))]) (va_runV (As := [.int 2, .long 0]) (rest := []) ⟨hx, hb, hml, hown, hg⟩ (k_X8_set_47 l D y aS H.size h2 0 h7 wp30596 (vp_updL (vp_updL wf30597 ((0 : Int32).toNatClampNeg) 0) ((1 : Int32).toNatClampNeg) 0)) (cwV 2 hg ggV_RX5_29_X8_set rfl rfl rfl (by decide +kernel) ⟨Nat.le_of_ble_eq_true rfl, Nat.le_of_ble_eq_true rfl⟩) (g_preV (q := (RX8, TX8, 2)) hK hP hD [4, 5] rfl (by decide) (ci := 8) (q0 := 4) rfl rfl) rfl rfl hl.1 rfl (lv_room (Nat.le_of_ble_eq_true rfl)) dX5_findOut_30 ⟨Nat.le_of_ble_eq_true rfl, Nat.le_of_ble_eq_true rfl⟩) hP hD hS hA [4, 5] [0, 1, 2, 3] rfl rfl (by decide) (by decide) ?_
  clear hP hD hS H locs
  refine fun u H locs hq hP hD hS => ?_
  replace hP : va_P D vwCl [(h0, .inr (5, [.ref h1, .ref h2, .ref h3, .ref h4, .int 6])), (h1, .inr (8, [.ref h6, .int 6])), (h4, .inr (8, [.ref h10, .int wp30598])), (h10, .inl (y 1, 3, .inr (.inl (fun _ => 0)))), (h2, .inr (8, [.ref h7, .int wp30596])), (h7, .inl (y 1, 200, .inr (.inl (vp_updL (vp_updL (vp_updL wf30597 ((0 : Int32).toNatClampNeg) 0) ((1 : Int32).toNatClampNeg) 0) ((2 : Int32).toNatClampNeg) 0))))] H := hP
  replace hD : va_D A [(h0, .inr (5, [.ref h1, .ref h2, .ref h3, .ref h4, .int 6])), (h1, .inr (8, [.ref h6, .int 6])), (h4, .inr (8, [.ref h10, .int wp30598])), (h10, .inl (y 1, 3, .inr (.inl (fun _ => 0)))), (h2, .inr (8, [.ref h7, .int wp30596])), (h7, .inl (y 1, 200, .inr (.inl (vp_updL (vp_updL (vp_updL wf30597 ((0 : Int32).toNatClampNeg) 0) ((1 : Int32).toNatClampNeg) 0) ((2 : Int32).toNatClampNeg) 0))))] := hD
  refine lv_iinc (v := 3) (lv' := [(1, .int 3), (0, .ref h0)]) hx hb dX5_findOut_33 hl (k := 0) rfl (by decide +kernel) (by decide) rfl ?_
  clear hl
  clear ls
  intro ls hl
  refine lv_goto (tgt := 13) hx hb dX5_findOut_36 (by decide) ?_
  refine lv_iload_n hx hb dX5_findOut_13 rfl (lv_at hl 0 rfl) ?_
  refine lv_aload_n hx hb dX5_findOut_14 rfl (lv_at hl 1 rfl) ?_
  refine gm_get (D := D) (ci := 5) (v := .ref h1) (C := RX5) (T := TX5) (N := 5) hx hb hg inlX5 hown hK.1 hP 0 rfl rfl 0 (by decide) tX5_0 (hg _ gw_138) rfl dX5_findOut_15 ?_
  refine gm_get (D := D) (ci := 8) (v := .int 6) (C := RX8) (T := TX8) (N := 2) hx hb hg inlX8 hown hK.1 hP 1 rfl rfl 1 (by decide) tX8_1 (hg _ gw_1441) rfl dX5_findOut_18 ?_
  refine lv_icmp_ge (tgt := 39) hx hb dX5_findOut_21 (by decide) (fun c9 => absurd c9 (by decide +kernel)) (fun _ => ?_)
  refine lv_aload_n hx hb dX5_findOut_24 rfl (lv_at hl 1 rfl) ?_
  refine gm_get (D := D) (ci := 5) (v := .ref h2) (C := RX5) (T := TX5) (N := 5) hx hb hg inlX5 hown hK.1 hP 0 rfl rfl 1 (by decide) tX5_1 (hg _ gw_139) rfl dX5_findOut_25 ?_
  refine lv_iload_n hx hb dX5_findOut_28 rfl (lv_at hl 0 rfl) ?_
  refine lv_lconst (v := 0) hx hb dX5_findOut_29 (by decide) ?_
  refine g_av (wr := [(h0, .inr (5, [.ref h1, .ref h2, .ref h3, .ref h4, .int 6])), (h1, .inr (8, [.ref h6, .int 6])), (h4, .inr (8, [.ref h10, .int wp30598])), (h10, .inl (y 1, 3, .inr (.inl (fun _ => 0))))]) (va_runV (As := [.int 3, .long 0]) (rest := []) ⟨hx, hb, hml, hown, hg⟩ (k_X8_set_48 l D y aS H.size h2 0 h7 wp30596 (vp_updL (vp_updL (vp_updL wf30597 ((0 : Int32).toNatClampNeg) 0) ((1 : Int32).toNatClampNeg) 0) ((2 : Int32).toNatClampNeg) 0)) (cwV 2 hg ggV_RX5_29_X8_set rfl rfl rfl (by decide +kernel) ⟨Nat.le_of_ble_eq_true rfl, Nat.le_of_ble_eq_true rfl⟩) (g_preV (q := (RX8, TX8, 2)) hK hP hD [4, 5] rfl (by decide) (ci := 8) (q0 := 4) rfl rfl) rfl rfl hl.1 rfl (lv_room (Nat.le_of_ble_eq_true rfl)) dX5_findOut_30 ⟨Nat.le_of_ble_eq_true rfl, Nat.le_of_ble_eq_true rfl⟩) hP hD hS hA [4, 5] [0, 1, 2, 3] rfl rfl (by decide) (by decide) ?_
  clear hP hD hS H locs
  refine fun u H locs hq hP hD hS => ?_
  replace hP : va_P D vwCl [(h0, .inr (5, [.ref h1, .ref h2, .ref h3, .ref h4, .int 6])), (h1, .inr (8, [.ref h6, .int 6])), (h4, .inr (8, [.ref h10, .int wp30598])), (h10, .inl (y 1, 3, .inr (.inl (fun _ => 0)))), (h2, .inr (8, [.ref h7, .int wp30596])), (h7, .inl (y 1, 200, .inr (.inl (vp_updL (vp_updL (vp_updL (vp_updL wf30597 ((0 : Int32).toNatClampNeg) 0) ((1 : Int32).toNatClampNeg) 0) ((2 : Int32).toNatClampNeg) 0) ((3 : Int32).toNatClampNeg) 0))))] H := hP
  replace hD : va_D A [(h0, .inr (5, [.ref h1, .ref h2, .ref h3, .ref h4, .int 6])), (h1, .inr (8, [.ref h6, .int 6])), (h4, .inr (8, [.ref h10, .int wp30598])), (h10, .inl (y 1, 3, .inr (.inl (fun _ => 0)))), (h2, .inr (8, [.ref h7, .int wp30596])), (h7, .inl (y 1, 200, .inr (.inl (vp_updL (vp_updL (vp_updL (vp_updL wf30597 ((0 : Int32).toNatClampNeg) 0) ((1 : Int32).toNatClampNeg) 0) ((2 : Int32).toNatClampNeg) 0) ((3 : Int32).toNatClampNeg) 0))))] := hD
  refine lv_iinc (v := 4) (lv' := [(1, .int 4), (0, .ref h0)]) hx hb dX5_findOut_33 hl (k := 0) rfl (by decide +kernel) (by decide) rfl ?_
  clear hl
  clear ls
  intro ls hl
  refine lv_goto (tgt := 13) hx hb dX5_findOut_36 (by decide) ?_
  refine lv_iload_n hx hb dX5_findOut_13 rfl (lv_at hl 0 rfl) ?_
  refine lv_aload_n hx hb dX5_findOut_14 rfl (lv_at hl 1 rfl) ?_
  refine gm_get (D := D) (ci := 5) (v := .ref h1) (C := RX5) (T := TX5) (N := 5) hx hb hg inlX5 hown hK.1 hP 0 rfl rfl 0 (by decide) tX5_0 (hg _ gw_138) rfl dX5_findOut_15 ?_
  refine gm_get (D := D) (ci := 8) (v := .int 6) (C := RX8) (T := TX8) (N := 2) hx hb hg inlX8 hown hK.1 hP 1 rfl rfl 1 (by decide) tX8_1 (hg _ gw_1441) rfl dX5_findOut_18 ?_
  refine lv_icmp_ge (tgt := 39) hx hb dX5_findOut_21 (by decide) (fun c9 => absurd c9 (by decide +kernel)) (fun _ => ?_)
  refine lv_aload_n hx hb dX5_findOut_24 rfl (lv_at hl 1 rfl) ?_
  refine gm_get (D := D) (ci := 5) (v := .ref h2) (C := RX5) (T := TX5) (N := 5) hx hb hg inlX5 hown hK.1 hP 0 rfl rfl 1 (by decide) tX5_1 (hg _ gw_139) rfl dX5_findOut_25 ?_
  refine lv_iload_n hx hb dX5_findOut_28 rfl (lv_at hl 0 rfl) ?_
  refine lv_lconst (v := 0) hx hb dX5_findOut_29 (by decide) ?_
  refine g_av (wr := [(h0, .inr (5, [.ref h1, .ref h2, .ref h3, .ref h4, .int 6])), (h1, .inr (8, [.ref h6, .int 6])), (h4, .inr (8, [.ref h10, .int wp30598])), (h10, .inl (y 1, 3, .inr (.inl (fun _ => 0))))]) (va_runV (As := [.int 4, .long 0]) (rest := []) ⟨hx, hb, hml, hown, hg⟩ (k_X8_set_49 l D y aS H.size h2 0 h7 wp30596 (vp_updL (vp_updL (vp_updL (vp_updL wf30597 ((0 : Int32).toNatClampNeg) 0) ((1 : Int32).toNatClampNeg) 0) ((2 : Int32).toNatClampNeg) 0) ((3 : Int32).toNatClampNeg) 0)) (cwV 2 hg ggV_RX5_29_X8_set rfl rfl rfl (by decide +kernel) ⟨Nat.le_of_ble_eq_true rfl, Nat.le_of_ble_eq_true rfl⟩) (g_preV (q := (RX8, TX8, 2)) hK hP hD [4, 5] rfl (by decide) (ci := 8) (q0 := 4) rfl rfl) rfl rfl hl.1 rfl (lv_room (Nat.le_of_ble_eq_true rfl)) dX5_findOut_30 ⟨Nat.le_of_ble_eq_true rfl, Nat.le_of_ble_eq_true rfl⟩) hP hD hS hA [4, 5] [0, 1, 2, 3] rfl rfl (by decide) (by decide) ?_
  clear hP hD hS H locs
  refine fun u H locs hq hP hD hS => ?_
  replace hP : va_P D vwCl [(h0, .inr (5, [.ref h1, .ref h2, .ref h3, .ref h4, .int 6])), (h1, .inr (8, [.ref h6, .int 6])), (h4, .inr (8, [.ref h10, .int wp30598])), (h10, .inl (y 1, 3, .inr (.inl (fun _ => 0)))), (h2, .inr (8, [.ref h7, .int wp30596])), (h7, .inl (y 1, 200, .inr (.inl (vp_updL (vp_updL (vp_updL (vp_updL (vp_updL wf30597 ((0 : Int32).toNatClampNeg) 0) ((1 : Int32).toNatClampNeg) 0) ((2 : Int32).toNatClampNeg) 0) ((3 : Int32).toNatClampNeg) 0) ((4 : Int32).toNatClampNeg) 0))))] H := hP
  replace hD : va_D A [(h0, .inr (5, [.ref h1, .ref h2, .ref h3, .ref h4, .int 6])), (h1, .inr (8, [.ref h6, .int 6])), (h4, .inr (8, [.ref h10, .int wp30598])), (h10, .inl (y 1, 3, .inr (.inl (fun _ => 0)))), (h2, .inr (8, [.ref h7, .int wp30596])), (h7, .inl (y 1, 200, .inr (.inl (vp_updL (vp_updL (vp_updL (vp_updL (vp_updL wf30597 ((0 : Int32).toNatClampNeg) 0) ((1 : Int32).toNatClampNeg) 0) ((2 : Int32).toNatClampNeg) 0) ((3 : Int32).toNatClampNeg) 0) ((4 : Int32).toNatClampNeg) 0))))] := hD
  refine lv_iinc (v := 5) (lv' := [(1, .int 5), (0, .ref h0)]) hx hb dX5_findOut_33 hl (k := 0) rfl (by decide +kernel) (by decide) rfl ?_
  clear hl
  clear ls
  intro ls hl
  refine lv_goto (tgt := 13) hx hb dX5_findOut_36 (by decide) ?_
  refine lv_iload_n hx hb dX5_findOut_13 rfl (lv_at hl 0 rfl) ?_
  refine lv_aload_n hx hb dX5_findOut_14 rfl (lv_at hl 1 rfl) ?_
  refine gm_get (D := D) (ci := 5) (v := .ref h1) (C := RX5) (T := TX5) (N := 5) hx hb hg inlX5 hown hK.1 hP 0 rfl rfl 0 (by decide) tX5_0 (hg _ gw_138) rfl dX5_findOut_15 ?_
  refine gm_get (D := D) (ci := 8) (v := .int 6) (C := RX8) (T := TX8) (N := 2) hx hb hg inlX8 hown hK.1 hP 1 rfl rfl 1 (by decide) tX8_1 (hg _ gw_1441) rfl dX5_findOut_18 ?_
  refine lv_icmp_ge (tgt := 39) hx hb dX5_findOut_21 (by decide) (fun c9 => absurd c9 (by decide +kernel)) (fun _ => ?_)
  refine lv_aload_n hx hb dX5_findOut_24 rfl (lv_at hl 1 rfl) ?_
  refine gm_get (D := D) (ci := 5) (v := .ref h2) (C := RX5) (T := TX5) (N := 5) hx hb hg inlX5 hown hK.1 hP 0 rfl rfl 1 (by decide) tX5_1 (hg _ gw_139) rfl dX5_findOut_25 ?_
  refine lv_iload_n hx hb dX5_findOut_28 rfl (lv_at hl 0 rfl) ?_
  refine lv_lconst (v := 0) hx hb dX5_findOut_29 (by decide) ?_
  refine g_av (wr := [(h0, .inr (5, [.ref h1, .ref h2, .ref h3, .ref h4, .int 6])), (h1, .inr (8, [.ref h6, .int 6])), (h4, .inr (8, [.ref h10, .int wp30598])), (h10, .inl (y 1, 3, .inr (.inl (fun _ => 0))))]) (va_runV (As := [.int 5, .long 0]) (rest := []) ⟨hx, hb, hml, hown, hg⟩ (k_X8_set_50 l D y aS H.size h2 0 h7 wp30596 (vp_updL (vp_updL (vp_updL (vp_updL (vp_updL wf30597 ((0 : Int32).toNatClampNeg) 0) ((1 : Int32).toNatClampNeg) 0) ((2 : Int32).toNatClampNeg) 0) ((3 : Int32).toNatClampNeg) 0) ((4 : Int32).toNatClampNeg) 0)) (cwV 2 hg ggV_RX5_29_X8_set rfl rfl rfl (by decide +kernel) ⟨Nat.le_of_ble_eq_true rfl, Nat.le_of_ble_eq_true rfl⟩) (g_preV (q := (RX8, TX8, 2)) hK hP hD [4, 5] rfl (by decide) (ci := 8) (q0 := 4) rfl rfl) rfl rfl hl.1 rfl (lv_room (Nat.le_of_ble_eq_true rfl)) dX5_findOut_30 ⟨Nat.le_of_ble_eq_true rfl, Nat.le_of_ble_eq_true rfl⟩) hP hD hS hA [4, 5] [0, 1, 2, 3] rfl rfl (by decide) (by decide) ?_
  clear hP hD hS H locs
  refine fun u H locs hq hP hD hS => ?_
  replace hP : va_P D vwCl [(h0, .inr (5, [.ref h1, .ref h2, .ref h3, .ref h4, .int 6])), (h1, .inr (8, [.ref h6, .int 6])), (h4, .inr (8, [.ref h10, .int wp30598])), (h10, .inl (y 1, 3, .inr (.inl (fun _ => 0)))), (h2, .inr (8, [.ref h7, .int wp30596])), (h7, .inl (y 1, 200, .inr (.inl (vp_updL (vp_updL (vp_updL (vp_updL (vp_updL (vp_updL wf30597 ((0 : Int32).toNatClampNeg) 0) ((1 : Int32).toNatClampNeg) 0) ((2 : Int32).toNatClampNeg) 0) ((3 : Int32).toNatClampNeg) 0) ((4 : Int32).toNatClampNeg) 0) ((5 : Int32).toNatClampNeg) 0))))] H := hP
  replace hD : va_D A [(h0, .inr (5, [.ref h1, .ref h2, .ref h3, .ref h4, .int 6])), (h1, .inr (8, [.ref h6, .int 6])), (h4, .inr (8, [.ref h10, .int wp30598])), (h10, .inl (y 1, 3, .inr (.inl (fun _ => 0)))), (h2, .inr (8, [.ref h7, .int wp30596])), (h7, .inl (y 1, 200, .inr (.inl (vp_updL (vp_updL (vp_updL (vp_updL (vp_updL (vp_updL wf30597 ((0 : Int32).toNatClampNeg) 0) ((1 : Int32).toNatClampNeg) 0) ((2 : Int32).toNatClampNeg) 0) ((3 : Int32).toNatClampNeg) 0) ((4 : Int32).toNatClampNeg) 0) ((5 : Int32).toNatClampNeg) 0))))] := hD
  refine lv_iinc (v := 6) (lv' := [(1, .int 6), (0, .ref h0)]) hx hb dX5_findOut_33 hl (k := 0) rfl (by decide +kernel) (by decide) rfl ?_
  clear hl
  clear ls
  intro ls hl
  refine lv_goto (tgt := 13) hx hb dX5_findOut_36 (by decide) ?_
  refine lv_iload_n hx hb dX5_findOut_13 rfl (lv_at hl 0 rfl) ?_
  refine lv_aload_n hx hb dX5_findOut_14 rfl (lv_at hl 1 rfl) ?_
  refine gm_get (D := D) (ci := 5) (v := .ref h1) (C := RX5) (T := TX5) (N := 5) hx hb hg inlX5 hown hK.1 hP 0 rfl rfl 0 (by decide) tX5_0 (hg _ gw_138) rfl dX5_findOut_15 ?_
  refine gm_get (D := D) (ci := 8) (v := .int 6) (C := RX8) (T := TX8) (N := 2) hx hb hg inlX8 hown hK.1 hP 1 rfl rfl 1 (by decide) tX8_1 (hg _ gw_1441) rfl dX5_findOut_18 ?_
  refine lv_icmp_ge (tgt := 39) hx hb dX5_findOut_21 (by decide) (fun _ => ?_) (fun c9 => absurd c9 (by decide +kernel))
  refine lv_iconst (v := 0) hx hb dX5_findOut_39 (by decide) ?_
  refine lv_istore_n (lv' := [(1, .int 0), (0, .ref h0)]) hx hb dX5_findOut_40 rfl hl (by decide) rfl ?_
  clear hl
  clear ls
  intro ls hl
  refine lv_iload_n hx hb dX5_findOut_41 rfl (lv_at hl 0 rfl) ?_
  refine lv_aload_n hx hb dX5_findOut_42 rfl (lv_at hl 1 rfl) ?_
  refine gm_get (D := D) (ci := 5) (v := .ref h1) (C := RX5) (T := TX5) (N := 5) hx hb hg inlX5 hown hK.1 hP 0 rfl rfl 0 (by decide) tX5_0 (hg _ gw_138) rfl dX5_findOut_43 ?_
  refine gm_get (D := D) (ci := 8) (v := .int 6) (C := RX8) (T := TX8) (N := 2) hx hb hg inlX8 hown hK.1 hP 1 rfl rfl 1 (by decide) tX8_1 (hg _ gw_1441) rfl dX5_findOut_46 ?_
  refine lv_icmp_ge (tgt := 77) hx hb dX5_findOut_49 (by decide) (fun c9 => absurd c9 (by decide +kernel)) (fun _ => ?_)
  refine lv_iconst (v := 0) hx hb dX5_findOut_52 (by decide) ?_
  refine lv_istore_n (lv' := [(2, .int 0), (1, .int 0), (0, .ref h0)]) hx hb dX5_findOut_53 rfl hl (by decide) rfl ?_
  clear hl
  clear ls
  intro ls hl
  refine lv_iload_n hx hb dX5_findOut_54 rfl (lv_at hl 0 rfl) ?_
  refine lv_iconst (v := 3) hx hb dX5_findOut_55 (by decide) ?_
  refine lv_icmp_ge (tgt := 71) hx hb dX5_findOut_56 (by decide) (fun c9 => absurd c9 (by decide +kernel)) (fun _ => ?_)
  refine lv_aload_n hx hb dX5_findOut_59 rfl (lv_at hl 2 rfl) ?_
  refine lv_iload_n hx hb dX5_findOut_60 rfl (lv_at hl 0 rfl) ?_
  refine lv_iload_n hx hb dX5_findOut_61 rfl (lv_at hl 1 rfl) ?_
  refine g_av (wr := [(h1, .inr (8, [.ref h6, .int 6])), (h2, .inr (8, [.ref h7, .int wp30596])), (h7, .inl (y 1, 200, .inr (.inl (vp_updL (vp_updL (vp_updL (vp_updL (vp_updL (vp_updL wf30597 ((0 : Int32).toNatClampNeg) 0) ((1 : Int32).toNatClampNeg) 0) ((2 : Int32).toNatClampNeg) 0) ((3 : Int32).toNatClampNeg) 0) ((4 : Int32).toNatClampNeg) 0) ((5 : Int32).toNatClampNeg) 0))))]) (va_runV (As := [.int 0, .int 0]) (rest := []) ⟨hx, hb, hml, hown, hg⟩ (k_X5_find_0 l D y aS H.size h0 h1 h2 h3 h4 6 h10 wp30598) (cwV 2 hg ggV_RX5_54_X5_find rfl rfl rfl (by decide +kernel) ⟨Nat.le_of_ble_eq_true rfl, Nat.le_of_ble_eq_true rfl⟩) (g_preV (q := (RX5, TX5, 5)) hK hP hD [0, 2, 3] rfl (by decide) (ci := 5) (q0 := 0) rfl rfl) rfl rfl hl.1 rfl (lv_room (Nat.le_of_ble_eq_true rfl)) dX5_findOut_62 ⟨Nat.le_of_ble_eq_true rfl, Nat.le_of_ble_eq_true rfl⟩) hP hD hS hA [0, 2, 3] [1, 4, 5] rfl rfl (by decide) (by decide) ?_
  clear hP hD hS H locs
  refine fun u H locs hq hP hD hS => ?_
  replace hP : va_P D vwCl [(h1, .inr (8, [.ref h6, .int 6])), (h2, .inr (8, [.ref h7, .int wp30596])), (h7, .inl (y 1, 200, .inr (.inl (vp_updL (vp_updL (vp_updL (vp_updL (vp_updL (vp_updL wf30597 ((0 : Int32).toNatClampNeg) 0) ((1 : Int32).toNatClampNeg) 0) ((2 : Int32).toNatClampNeg) 0) ((3 : Int32).toNatClampNeg) 0) ((4 : Int32).toNatClampNeg) 0) ((5 : Int32).toNatClampNeg) 0)))), (h0, .inr (5, [.ref h1, .ref h2, .ref h3, .ref h4, .int 6])), (h4, .inr (8, [.ref h10, .int wp30598])), (h10, .inl (y 1, 3, .inr (.inl (fun _ => 0))))] H := hP
  replace hD : va_D A [(h1, .inr (8, [.ref h6, .int 6])), (h2, .inr (8, [.ref h7, .int wp30596])), (h7, .inl (y 1, 200, .inr (.inl (vp_updL (vp_updL (vp_updL (vp_updL (vp_updL (vp_updL wf30597 ((0 : Int32).toNatClampNeg) 0) ((1 : Int32).toNatClampNeg) 0) ((2 : Int32).toNatClampNeg) 0) ((3 : Int32).toNatClampNeg) 0) ((4 : Int32).toNatClampNeg) 0) ((5 : Int32).toNatClampNeg) 0)))), (h0, .inr (5, [.ref h1, .ref h2, .ref h3, .ref h4, .int 6])), (h4, .inr (8, [.ref h10, .int wp30598])), (h10, .inl (y 1, 3, .inr (.inl (fun _ => 0))))] := hD
  refine lv_iinc (v := 1) (lv' := [(2, .int 1), (1, .int 0), (0, .ref h0)]) hx hb dX5_findOut_65 hl (k := 0) rfl (by decide +kernel) (by decide) rfl ?_
  clear hl
  clear ls
  intro ls hl
  refine lv_goto (tgt := 54) hx hb dX5_findOut_68 (by decide) ?_
  refine lv_iload_n hx hb dX5_findOut_54 rfl (lv_at hl 0 rfl) ?_
  refine lv_iconst (v := 3) hx hb dX5_findOut_55 (by decide) ?_
  refine lv_icmp_ge (tgt := 71) hx hb dX5_findOut_56 (by decide) (fun c9 => absurd c9 (by decide +kernel)) (fun _ => ?_)
  refine lv_aload_n hx hb dX5_findOut_59 rfl (lv_at hl 2 rfl) ?_
  refine lv_iload_n hx hb dX5_findOut_60 rfl (lv_at hl 0 rfl) ?_
  refine lv_iload_n hx hb dX5_findOut_61 rfl (lv_at hl 1 rfl) ?_
  refine g_av (wr := [(h1, .inr (8, [.ref h6, .int 6])), (h2, .inr (8, [.ref h7, .int wp30596])), (h7, .inl (y 1, 200, .inr (.inl (vp_updL (vp_updL (vp_updL (vp_updL (vp_updL (vp_updL wf30597 ((0 : Int32).toNatClampNeg) 0) ((1 : Int32).toNatClampNeg) 0) ((2 : Int32).toNatClampNeg) 0) ((3 : Int32).toNatClampNeg) 0) ((4 : Int32).toNatClampNeg) 0) ((5 : Int32).toNatClampNeg) 0))))]) (va_runV (As := [.int 1, .int 0]) (rest := []) ⟨hx, hb, hml, hown, hg⟩ (k_X5_find_1 l D y aS H.size h0 h1 h2 h3 h4 6 h10 wp30598) (cwV 2 hg ggV_RX5_54_X5_find rfl rfl rfl (by decide +kernel) ⟨Nat.le_of_ble_eq_true rfl, Nat.le_of_ble_eq_true rfl⟩) (g_preV (q := (RX5, TX5, 5)) hK hP hD [3, 4, 5] rfl (by decide) (ci := 5) (q0 := 3) rfl rfl) rfl rfl hl.1 rfl (lv_room (Nat.le_of_ble_eq_true rfl)) dX5_findOut_62 ⟨Nat.le_of_ble_eq_true rfl, Nat.le_of_ble_eq_true rfl⟩) hP hD hS hA [3, 4, 5] [0, 1, 2] rfl rfl (by decide) (by decide) ?_
  clear hP hD hS H locs
  refine fun u H locs hq hP hD hS => ?_
  replace hP : va_P D vwCl [(h1, .inr (8, [.ref h6, .int 6])), (h2, .inr (8, [.ref h7, .int wp30596])), (h7, .inl (y 1, 200, .inr (.inl (vp_updL (vp_updL (vp_updL (vp_updL (vp_updL (vp_updL wf30597 ((0 : Int32).toNatClampNeg) 0) ((1 : Int32).toNatClampNeg) 0) ((2 : Int32).toNatClampNeg) 0) ((3 : Int32).toNatClampNeg) 0) ((4 : Int32).toNatClampNeg) 0) ((5 : Int32).toNatClampNeg) 0)))), (h0, .inr (5, [.ref h1, .ref h2, .ref h3, .ref h4, .int 6])), (h4, .inr (8, [.ref h10, .int wp30598])), (h10, .inl (y 1, 3, .inr (.inl (fun _ => 0))))] H := hP
  replace hD : va_D A [(h1, .inr (8, [.ref h6, .int 6])), (h2, .inr (8, [.ref h7, .int wp30596])), (h7, .inl (y 1, 200, .inr (.inl (vp_updL (vp_updL (vp_updL (vp_updL (vp_updL (vp_updL wf30597 ((0 : Int32).toNatClampNeg) 0) ((1 : Int32).toNatClampNeg) 0) ((2 : Int32).toNatClampNeg) 0) ((3 : Int32).toNatClampNeg) 0) ((4 : Int32).toNatClampNeg) 0) ((5 : Int32).toNatClampNeg) 0)))), (h0, .inr (5, [.ref h1, .ref h2, .ref h3, .ref h4, .int 6])), (h4, .inr (8, [.ref h10, .int wp30598])), (h10, .inl (y 1, 3, .inr (.inl (fun _ => 0))))] := hD
  refine lv_iinc (v := 2) (lv' := [(2, .int 2), (1, .int 0), (0, .ref h0)]) hx hb dX5_findOut_65 hl (k := 0) rfl (by decide +kernel) (by decide) rfl ?_
  clear hl
  clear ls
  intro ls hl
  refine lv_goto (tgt := 54) hx hb dX5_findOut_68 (by decide) ?_
  refine lv_iload_n hx hb dX5_findOut_54 rfl (lv_at hl 0 rfl) ?_
  refine lv_iconst (v := 3) hx hb dX5_findOut_55 (by decide) ?_
  refine lv_icmp_ge (tgt := 71) hx hb dX5_findOut_56 (by decide) (fun c9 => absurd c9 (by decide +kernel)) (fun _ => ?_)
  refine lv_aload_n hx hb dX5_findOut_59 rfl (lv_at hl 2 rfl) ?_
  refine lv_iload_n hx hb dX5_findOut_60 rfl (lv_at hl 0 rfl) ?_
  refine lv_iload_n hx hb dX5_findOut_61 rfl (lv_at hl 1 rfl) ?_
  refine g_av (wr := [(h1, .inr (8, [.ref h6, .int 6])), (h2, .inr (8, [.ref h7, .int wp30596])), (h7, .inl (y 1, 200, .inr (.inl (vp_updL (vp_updL (vp_updL (vp_updL (vp_updL (vp_updL wf30597 ((0 : Int32).toNatClampNeg) 0) ((1 : Int32).toNatClampNeg) 0) ((2 : Int32).toNatClampNeg) 0) ((3 : Int32).toNatClampNeg) 0) ((4 : Int32).toNatClampNeg) 0) ((5 : Int32).toNatClampNeg) 0))))]) (va_runV (As := [.int 2, .int 0]) (rest := []) ⟨hx, hb, hml, hown, hg⟩ (k_X5_find_2 l D y aS H.size h0 h1 h2 h3 h4 6 h10 wp30598) (cwV 2 hg ggV_RX5_54_X5_find rfl rfl rfl (by decide +kernel) ⟨Nat.le_of_ble_eq_true rfl, Nat.le_of_ble_eq_true rfl⟩) (g_preV (q := (RX5, TX5, 5)) hK hP hD [3, 4, 5] rfl (by decide) (ci := 5) (q0 := 3) rfl rfl) rfl rfl hl.1 rfl (lv_room (Nat.le_of_ble_eq_true rfl)) dX5_findOut_62 ⟨Nat.le_of_ble_eq_true rfl, Nat.le_of_ble_eq_true rfl⟩) hP hD hS hA [3, 4, 5] [0, 1, 2] rfl rfl (by decide) (by decide) ?_
  clear hP hD hS H locs
  refine fun u H locs hq hP hD hS => ?_
  replace hP : va_P D vwCl [(h1, .inr (8, [.ref h6, .int 6])), (h2, .inr (8, [.ref h7, .int wp30596])), (h7, .inl (y 1, 200, .inr (.inl (vp_updL (vp_updL (vp_updL (vp_updL (vp_updL (vp_updL wf30597 ((0 : Int32).toNatClampNeg) 0) ((1 : Int32).toNatClampNeg) 0) ((2 : Int32).toNatClampNeg) 0) ((3 : Int32).toNatClampNeg) 0) ((4 : Int32).toNatClampNeg) 0) ((5 : Int32).toNatClampNeg) 0)))), (h0, .inr (5, [.ref h1, .ref h2, .ref h3, .ref h4, .int 6])), (h4, .inr (8, [.ref h10, .int wp30598])), (h10, .inl (y 1, 3, .inr (.inl (fun _ => 0))))] H := hP
  replace hD : va_D A [(h1, .inr (8, [.ref h6, .int 6])), (h2, .inr (8, [.ref h7, .int wp30596])), (h7, .inl (y 1, 200, .inr (.inl (vp_updL (vp_updL (vp_updL (vp_updL (vp_updL (vp_updL wf30597 ((0 : Int32).toNatClampNeg) 0) ((1 : Int32).toNatClampNeg) 0) ((2 : Int32).toNatClampNeg) 0) ((3 : Int32).toNatClampNeg) 0) ((4 : Int32).toNatClampNeg) 0) ((5 : Int32).toNatClampNeg) 0)))), (h0, .inr (5, [.ref h1, .ref h2, .ref h3, .ref h4, .int 6])), (h4, .inr (8, [.ref h10, .int wp30598])), (h10, .inl (y 1, 3, .inr (.inl (fun _ => 0))))] := hD
  refine lv_iinc (v := 3) (lv' := [(2, .int 3), (1, .int 0), (0, .ref h0)]) hx hb dX5_findOut_65 hl (k := 0) rfl (by decide +kernel) (by decide) rfl ?_
  clear hl
  clear ls
  intro ls hl
  refine lv_goto (tgt := 54) hx hb dX5_findOut_68 (by decide) ?_
  refine lv_iload_n hx hb dX5_findOut_54 rfl (lv_at hl 0 rfl) ?_
  refine lv_iconst (v := 3) hx hb dX5_findOut_55 (by decide) ?_
  refine lv_icmp_ge (tgt := 71) hx hb dX5_findOut_56 (by decide) (fun _ => ?_) (fun c9 => absurd c9 (by decide +kernel))
  refine lv_iinc (v := 1) (lv' := [(1, .int 1), (2, .int 3), (0, .ref h0)]) hx hb dX5_findOut_71 hl (k := 1) rfl (by decide +kernel) (by decide) rfl ?_
  clear hl
  clear ls
  intro ls hl
  refine lv_goto (tgt := 41) hx hb dX5_findOut_74 (by decide) ?_
  refine lv_iload_n hx hb dX5_findOut_41 rfl (lv_at hl 0 rfl) ?_
  refine lv_aload_n hx hb dX5_findOut_42 rfl (lv_at hl 2 rfl) ?_
  refine gm_get (D := D) (ci := 5) (v := .ref h1) (C := RX5) (T := TX5) (N := 5) hx hb hg inlX5 hown hK.1 hP 3 rfl rfl 0 (by decide) tX5_0 (hg _ gw_138) rfl dX5_findOut_43 ?_
  refine gm_get (D := D) (ci := 8) (v := .int 6) (C := RX8) (T := TX8) (N := 2) hx hb hg inlX8 hown hK.1 hP 0 rfl rfl 1 (by decide) tX8_1 (hg _ gw_1441) rfl dX5_findOut_46 ?_
  refine lv_icmp_ge (tgt := 77) hx hb dX5_findOut_49 (by decide) (fun c9 => absurd c9 (by decide +kernel)) (fun _ => ?_)
  refine lv_iconst (v := 0) hx hb dX5_findOut_52 (by decide) ?_
  refine lv_istore_n (lv' := [(2, .int 0), (1, .int 1), (0, .ref h0)]) hx hb dX5_findOut_53 rfl hl (by decide) rfl ?_
  clear hl
  clear ls
  intro ls hl
  refine lv_iload_n hx hb dX5_findOut_54 rfl (lv_at hl 0 rfl) ?_
  refine lv_iconst (v := 3) hx hb dX5_findOut_55 (by decide) ?_
  refine lv_icmp_ge (tgt := 71) hx hb dX5_findOut_56 (by decide) (fun c9 => absurd c9 (by decide +kernel)) (fun _ => ?_)
  refine lv_aload_n hx hb dX5_findOut_59 rfl (lv_at hl 2 rfl) ?_
  refine lv_iload_n hx hb dX5_findOut_60 rfl (lv_at hl 0 rfl) ?_
  refine lv_iload_n hx hb dX5_findOut_61 rfl (lv_at hl 1 rfl) ?_
  refine g_av (wr := [(h1, .inr (8, [.ref h6, .int 6])), (h2, .inr (8, [.ref h7, .int wp30596])), (h7, .inl (y 1, 200, .inr (.inl (vp_updL (vp_updL (vp_updL (vp_updL (vp_updL (vp_updL wf30597 ((0 : Int32).toNatClampNeg) 0) ((1 : Int32).toNatClampNeg) 0) ((2 : Int32).toNatClampNeg) 0) ((3 : Int32).toNatClampNeg) 0) ((4 : Int32).toNatClampNeg) 0) ((5 : Int32).toNatClampNeg) 0))))]) (va_runV (As := [.int 0, .int 1]) (rest := []) ⟨hx, hb, hml, hown, hg⟩ (k_X5_find_3 l D y aS H.size h0 h1 h2 h3 h4 6 h10 wp30598) (cwV 2 hg ggV_RX5_54_X5_find rfl rfl rfl (by decide +kernel) ⟨Nat.le_of_ble_eq_true rfl, Nat.le_of_ble_eq_true rfl⟩) (g_preV (q := (RX5, TX5, 5)) hK hP hD [3, 4, 5] rfl (by decide) (ci := 5) (q0 := 3) rfl rfl) rfl rfl hl.1 rfl (lv_room (Nat.le_of_ble_eq_true rfl)) dX5_findOut_62 ⟨Nat.le_of_ble_eq_true rfl, Nat.le_of_ble_eq_true rfl⟩) hP hD hS hA [3, 4, 5] [0, 1, 2] rfl rfl (by decide) (by decide) ?_
  clear hP hD hS H locs
  refine fun u H locs hq hP hD hS => ?_
  replace hP : va_P D vwCl [(h1, .inr (8, [.ref h6, .int 6])), (h2, .inr (8, [.ref h7, .int wp30596])), (h7, .inl (y 1, 200, .inr (.inl (vp_updL (vp_updL (vp_updL (vp_updL (vp_updL (vp_updL wf30597 ((0 : Int32).toNatClampNeg) 0) ((1 : Int32).toNatClampNeg) 0) ((2 : Int32).toNatClampNeg) 0) ((3 : Int32).toNatClampNeg) 0) ((4 : Int32).toNatClampNeg) 0) ((5 : Int32).toNatClampNeg) 0)))), (h0, .inr (5, [.ref h1, .ref h2, .ref h3, .ref h4, .int 6])), (h4, .inr (8, [.ref h10, .int wp30598])), (h10, .inl (y 1, 3, .inr (.inl (fun _ => 0))))] H := hP
  replace hD : va_D A [(h1, .inr (8, [.ref h6, .int 6])), (h2, .inr (8, [.ref h7, .int wp30596])), (h7, .inl (y 1, 200, .inr (.inl (vp_updL (vp_updL (vp_updL (vp_updL (vp_updL (vp_updL wf30597 ((0 : Int32).toNatClampNeg) 0) ((1 : Int32).toNatClampNeg) 0) ((2 : Int32).toNatClampNeg) 0) ((3 : Int32).toNatClampNeg) 0) ((4 : Int32).toNatClampNeg) 0) ((5 : Int32).toNatClampNeg) 0)))), (h0, .inr (5, [.ref h1, .ref h2, .ref h3, .ref h4, .int 6])), (h4, .inr (8, [.ref h10, .int wp30598])), (h10, .inl (y 1, 3, .inr (.inl (fun _ => 0))))] := hD
  refine lv_iinc (v := 1) (lv' := [(2, .int 1), (1, .int 1), (0, .ref h0)]) hx hb dX5_findOut_65 hl (k := 0) rfl (by decide +kernel) (by decide) rfl ?_
  clear hl
  clear ls
  intro ls hl
  refine lv_goto (tgt := 54) hx hb dX5_findOut_68 (by decide) ?_
  refine lv_iload_n hx hb dX5_findOut_54 rfl (lv_at hl 0 rfl) ?_
  refine lv_iconst (v := 3) hx hb dX5_findOut_55 (by decide) ?_
  refine lv_icmp_ge (tgt := 71) hx hb dX5_findOut_56 (by decide) (fun c9 => absurd c9 (by decide +kernel)) (fun _ => ?_)
  refine lv_aload_n hx hb dX5_findOut_59 rfl (lv_at hl 2 rfl) ?_
  refine lv_iload_n hx hb dX5_findOut_60 rfl (lv_at hl 0 rfl) ?_
  refine lv_iload_n hx hb dX5_findOut_61 rfl (lv_at hl 1 rfl) ?_
  refine g_av (wr := [(h1, .inr (8, [.ref h6, .int 6])), (h2, .inr (8, [.ref h7, .int wp30596])), (h7, .inl (y 1, 200, .inr (.inl (vp_updL (vp_updL (vp_updL (vp_updL (vp_updL (vp_updL wf30597 ((0 : Int32).toNatClampNeg) 0) ((1 : Int32).toNatClampNeg) 0) ((2 : Int32).toNatClampNeg) 0) ((3 : Int32).toNatClampNeg) 0) ((4 : Int32).toNatClampNeg) 0) ((5 : Int32).toNatClampNeg) 0))))]) (va_runV (As := [.int 1, .int 1]) (rest := []) ⟨hx, hb, hml, hown, hg⟩ (k_X5_find_4 l D y aS H.size h0 h1 h2 h3 h4 6 h10 wp30598) (cwV 2 hg ggV_RX5_54_X5_find rfl rfl rfl (by decide +kernel) ⟨Nat.le_of_ble_eq_true rfl, Nat.le_of_ble_eq_true rfl⟩) (g_preV (q := (RX5, TX5, 5)) hK hP hD [3, 4, 5] rfl (by decide) (ci := 5) (q0 := 3) rfl rfl) rfl rfl hl.1 rfl (lv_room (Nat.le_of_ble_eq_true rfl)) dX5_findOut_62 ⟨Nat.le_of_ble_eq_true rfl, Nat.le_of_ble_eq_true rfl⟩) hP hD hS hA [3, 4, 5] [0, 1, 2] rfl rfl (by decide) (by decide) ?_
  clear hP hD hS H locs
  refine fun u H locs hq hP hD hS => ?_
  replace hP : va_P D vwCl [(h1, .inr (8, [.ref h6, .int 6])), (h2, .inr (8, [.ref h7, .int wp30596])), (h7, .inl (y 1, 200, .inr (.inl (vp_updL (vp_updL (vp_updL (vp_updL (vp_updL (vp_updL wf30597 ((0 : Int32).toNatClampNeg) 0) ((1 : Int32).toNatClampNeg) 0) ((2 : Int32).toNatClampNeg) 0) ((3 : Int32).toNatClampNeg) 0) ((4 : Int32).toNatClampNeg) 0) ((5 : Int32).toNatClampNeg) 0)))), (h0, .inr (5, [.ref h1, .ref h2, .ref h3, .ref h4, .int 6])), (h4, .inr (8, [.ref h10, .int wp30598])), (h10, .inl (y 1, 3, .inr (.inl (fun _ => 0))))] H := hP
  replace hD : va_D A [(h1, .inr (8, [.ref h6, .int 6])), (h2, .inr (8, [.ref h7, .int wp30596])), (h7, .inl (y 1, 200, .inr (.inl (vp_updL (vp_updL (vp_updL (vp_updL (vp_updL (vp_updL wf30597 ((0 : Int32).toNatClampNeg) 0) ((1 : Int32).toNatClampNeg) 0) ((2 : Int32).toNatClampNeg) 0) ((3 : Int32).toNatClampNeg) 0) ((4 : Int32).toNatClampNeg) 0) ((5 : Int32).toNatClampNeg) 0)))), (h0, .inr (5, [.ref h1, .ref h2, .ref h3, .ref h4, .int 6])), (h4, .inr (8, [.ref h10, .int wp30598])), (h10, .inl (y 1, 3, .inr (.inl (fun _ => 0))))] := hD
  refine lv_iinc (v := 2) (lv' := [(2, .int 2), (1, .int 1), (0, .ref h0)]) hx hb dX5_findOut_65 hl (k := 0) rfl (by decide +kernel) (by decide) rfl ?_
  clear hl
  clear ls
  intro ls hl
  refine lv_goto (tgt := 54) hx hb dX5_findOut_68 (by decide) ?_
  refine lv_iload_n hx hb dX5_findOut_54 rfl (lv_at hl 0 rfl) ?_
  refine lv_iconst (v := 3) hx hb dX5_findOut_55 (by decide) ?_
  refine lv_icmp_ge (tgt := 71) hx hb dX5_findOut_56 (by decide) (fun c9 => absurd c9 (by decide +kernel)) (fun _ => ?_)
  refine lv_aload_n hx hb dX5_findOut_59 rfl (lv_at hl 2 rfl) ?_
  refine lv_iload_n hx hb dX5_findOut_60 rfl (lv_at hl 0 rfl) ?_
  refine lv_iload_n hx hb dX5_findOut_61 rfl (lv_at hl 1 rfl) ?_
  refine g_av (wr := [(h1, .inr (8, [.ref h6, .int 6])), (h2, .inr (8, [.ref h7, .int wp30596])), (h7, .inl (y 1, 200, .inr (.inl (vp_updL (vp_updL (vp_updL (vp_updL (vp_updL (vp_updL wf30597 ((0 : Int32).toNatClampNeg) 0) ((1 : Int32).toNatClampNeg) 0) ((2 : Int32).toNatClampNeg) 0) ((3 : Int32).toNatClampNeg) 0) ((4 : Int32).toNatClampNeg) 0) ((5 : Int32).toNatClampNeg) 0))))]) (va_runV (As := [.int 2, .int 1]) (rest := []) ⟨hx, hb, hml, hown, hg⟩ (k_X5_find_5 l D y aS H.size h0 h1 h2 h3 h4 6 h10 wp30598) (cwV 2 hg ggV_RX5_54_X5_find rfl rfl rfl (by decide +kernel) ⟨Nat.le_of_ble_eq_true rfl, Nat.le_of_ble_eq_true rfl⟩) (g_preV (q := (RX5, TX5, 5)) hK hP hD [3, 4, 5] rfl (by decide) (ci := 5) (q0 := 3) rfl rfl) rfl rfl hl.1 rfl (lv_room (Nat.le_of_ble_eq_true rfl)) dX5_findOut_62 ⟨Nat.le_of_ble_eq_true rfl, Nat.le_of_ble_eq_true rfl⟩) hP hD hS hA [3, 4, 5] [0, 1, 2] rfl rfl (by decide) (by decide) ?_
  clear hP hD hS H locs
  refine fun u H locs hq hP hD hS => ?_
  replace hP : va_P D vwCl [(h1, .inr (8, [.ref h6, .int 6])), (h2, .inr (8, [.ref h7, .int wp30596])), (h7, .inl (y 1, 200, .inr (.inl (vp_updL (vp_updL (vp_updL (vp_updL (vp_updL (vp_updL wf30597 ((0 : Int32).toNatClampNeg) 0) ((1 : Int32).toNatClampNeg) 0) ((2 : Int32).toNatClampNeg) 0) ((3 : Int32).toNatClampNeg) 0) ((4 : Int32).toNatClampNeg) 0) ((5 : Int32).toNatClampNeg) 0)))), (h0, .inr (5, [.ref h1, .ref h2, .ref h3, .ref h4, .int 6])), (h4, .inr (8, [.ref h10, .int wp30598])), (h10, .inl (y 1, 3, .inr (.inl (fun _ => 0))))] H := hP
  replace hD : va_D A [(h1, .inr (8, [.ref h6, .int 6])), (h2, .inr (8, [.ref h7, .int wp30596])), (h7, .inl (y 1, 200, .inr (.inl (vp_updL (vp_updL (vp_updL (vp_updL (vp_updL (vp_updL wf30597 ((0 : Int32).toNatClampNeg) 0) ((1 : Int32).toNatClampNeg) 0) ((2 : Int32).toNatClampNeg) 0) ((3 : Int32).toNatClampNeg) 0) ((4 : Int32).toNatClampNeg) 0) ((5 : Int32).toNatClampNeg) 0)))), (h0, .inr (5, [.ref h1, .ref h2, .ref h3, .ref h4, .int 6])), (h4, .inr (8, [.ref h10, .int wp30598])), (h10, .inl (y 1, 3, .inr (.inl (fun _ => 0))))] := hD
  refine lv_iinc (v := 3) (lv' := [(2, .int 3), (1, .int 1), (0, .ref h0)]) hx hb dX5_findOut_65 hl (k := 0) rfl (by decide +kernel) (by decide) rfl ?_
  clear hl
  clear ls
  intro ls hl
  refine lv_goto (tgt := 54) hx hb dX5_findOut_68 (by decide) ?_
  refine lv_iload_n hx hb dX5_findOut_54 rfl (lv_at hl 0 rfl) ?_
  refine lv_iconst (v := 3) hx hb dX5_findOut_55 (by decide) ?_
  refine lv_icmp_ge (tgt := 71) hx hb dX5_findOut_56 (by decide) (fun _ => ?_) (fun c9 => absurd c9 (by decide +kernel))
  refine lv_iinc (v := 2) (lv' := [(1, .int 2), (2, .int 3), (0, .ref h0)]) hx hb dX5_findOut_71 hl (k := 1) rfl (by decide +kernel) (by decide) rfl ?_
  clear hl
  clear ls
  intro ls hl
  refine lv_goto (tgt := 41) hx hb dX5_findOut_74 (by decide) ?_
  refine lv_iload_n hx hb dX5_findOut_41 rfl (lv_at hl 0 rfl) ?_
  refine lv_aload_n hx hb dX5_findOut_42 rfl (lv_at hl 2 rfl) ?_
  refine gm_get (D := D) (ci := 5) (v := .ref h1) (C := RX5) (T := TX5) (N := 5) hx hb hg inlX5 hown hK.1 hP 3 rfl rfl 0 (by decide) tX5_0 (hg _ gw_138) rfl dX5_findOut_43 ?_
  refine gm_get (D := D) (ci := 8) (v := .int 6) (C := RX8) (T := TX8) (N := 2) hx hb hg inlX8 hown hK.1 hP 0 rfl rfl 1 (by decide) tX8_1 (hg _ gw_1441) rfl dX5_findOut_46 ?_
  refine lv_icmp_ge (tgt := 77) hx hb dX5_findOut_49 (by decide) (fun c9 => absurd c9 (by decide +kernel)) (fun _ => ?_)
  refine lv_iconst (v := 0) hx hb dX5_findOut_52 (by decide) ?_
  refine lv_istore_n (lv' := [(2, .int 0), (1, .int 2), (0, .ref h0)]) hx hb dX5_findOut_53 rfl hl (by decide) rfl ?_
  clear hl
  clear ls
  intro ls hl
  refine lv_iload_n hx hb dX5_findOut_54 rfl (lv_at hl 0 rfl) ?_
  refine lv_iconst (v := 3) hx hb dX5_findOut_55 (by decide) ?_
  refine lv_icmp_ge (tgt := 71) hx hb dX5_findOut_56 (by decide) (fun c9 => absurd c9 (by decide +kernel)) (fun _ => ?_)
  refine lv_aload_n hx hb dX5_findOut_59 rfl (lv_at hl 2 rfl) ?_
  refine lv_iload_n hx hb dX5_findOut_60 rfl (lv_at hl 0 rfl) ?_
  refine lv_iload_n hx hb dX5_findOut_61 rfl (lv_at hl 1 rfl) ?_
  refine g_av (wr := [(h1, .inr (8, [.ref h6, .int 6])), (h2, .inr (8, [.ref h7, .int wp30596])), (h7, .inl (y 1, 200, .inr (.inl (vp_updL (vp_updL (vp_updL (vp_updL (vp_updL (vp_updL wf30597 ((0 : Int32).toNatClampNeg) 0) ((1 : Int32).toNatClampNeg) 0) ((2 : Int32).toNatClampNeg) 0) ((3 : Int32).toNatClampNeg) 0) ((4 : Int32).toNatClampNeg) 0) ((5 : Int32).toNatClampNeg) 0))))]) (va_runV (As := [.int 0, .int 2]) (rest := []) ⟨hx, hb, hml, hown, hg⟩ (k_X5_find_6 l D y aS H.size h0 h1 h2 h3 h4 6 h10 wp30598) (cwV 2 hg ggV_RX5_54_X5_find rfl rfl rfl (by decide +kernel) ⟨Nat.le_of_ble_eq_true rfl, Nat.le_of_ble_eq_true rfl⟩) (g_preV (q := (RX5, TX5, 5)) hK hP hD [3, 4, 5] rfl (by decide) (ci := 5) (q0 := 3) rfl rfl) rfl rfl hl.1 rfl (lv_room (Nat.le_of_ble_eq_true rfl)) dX5_findOut_62 ⟨Nat.le_of_ble_eq_true rfl, Nat.le_of_ble_eq_true rfl⟩) hP hD hS hA [3, 4, 5] [0, 1, 2] rfl rfl (by decide) (by decide) ?_
  clear hP hD hS H locs
  refine fun u H locs hq hP hD hS => ?_
  replace hP : va_P D vwCl [(h1, .inr (8, [.ref h6, .int 6])), (h2, .inr (8, [.ref h7, .int wp30596])), (h7, .inl (y 1, 200, .inr (.inl (vp_updL (vp_updL (vp_updL (vp_updL (vp_updL (vp_updL wf30597 ((0 : Int32).toNatClampNeg) 0) ((1 : Int32).toNatClampNeg) 0) ((2 : Int32).toNatClampNeg) 0) ((3 : Int32).toNatClampNeg) 0) ((4 : Int32).toNatClampNeg) 0) ((5 : Int32).toNatClampNeg) 0)))), (h0, .inr (5, [.ref h1, .ref h2, .ref h3, .ref h4, .int 6])), (h4, .inr (8, [.ref h10, .int wp30598])), (h10, .inl (y 1, 3, .inr (.inl (fun _ => 0))))] H := hP
  replace hD : va_D A [(h1, .inr (8, [.ref h6, .int 6])), (h2, .inr (8, [.ref h7, .int wp30596])), (h7, .inl (y 1, 200, .inr (.inl (vp_updL (vp_updL (vp_updL (vp_updL (vp_updL (vp_updL wf30597 ((0 : Int32).toNatClampNeg) 0) ((1 : Int32).toNatClampNeg) 0) ((2 : Int32).toNatClampNeg) 0) ((3 : Int32).toNatClampNeg) 0) ((4 : Int32).toNatClampNeg) 0) ((5 : Int32).toNatClampNeg) 0)))), (h0, .inr (5, [.ref h1, .ref h2, .ref h3, .ref h4, .int 6])), (h4, .inr (8, [.ref h10, .int wp30598])), (h10, .inl (y 1, 3, .inr (.inl (fun _ => 0))))] := hD
  refine lv_iinc (v := 1) (lv' := [(2, .int 1), (1, .int 2), (0, .ref h0)]) hx hb dX5_findOut_65 hl (k := 0) rfl (by decide +kernel) (by decide) rfl ?_
  clear hl
  clear ls
  intro ls hl
  refine lv_goto (tgt := 54) hx hb dX5_findOut_68 (by decide) ?_
  refine lv_iload_n hx hb dX5_findOut_54 rfl (lv_at hl 0 rfl) ?_
  refine lv_iconst (v := 3) hx hb dX5_findOut_55 (by decide) ?_
  refine lv_icmp_ge (tgt := 71) hx hb dX5_findOut_56 (by decide) (fun c9 => absurd c9 (by decide +kernel)) (fun _ => ?_)
  refine lv_aload_n hx hb dX5_findOut_59 rfl (lv_at hl 2 rfl) ?_
  refine lv_iload_n hx hb dX5_findOut_60 rfl (lv_at hl 0 rfl) ?_
  refine lv_iload_n hx hb dX5_findOut_61 rfl (lv_at hl 1 rfl) ?_
  refine g_av (wr := [(h1, .inr (8, [.ref h6, .int 6])), (h2, .inr (8, [.ref h7, .int wp30596])), (h7, .inl (y 1, 200, .inr (.inl (vp_updL (vp_updL (vp_updL (vp_updL (vp_updL (vp_updL wf30597 ((0 : Int32).toNatClampNeg) 0) ((1 : Int32).toNatClampNeg) 0) ((2 : Int32).toNatClampNeg) 0) ((3 : Int32).toNatClampNeg) 0) ((4 : Int32).toNatClampNeg) 0) ((5 : Int32).toNatClampNeg) 0))))]) (va_runV (As := [.int 1, .int 2]) (rest := []) ⟨hx, hb, hml, hown, hg⟩ (k_X5_find_7 l D y aS H.size h0 h1 h2 h3 h4 6 h10 wp30598) (cwV 2 hg ggV_RX5_54_X5_find rfl rfl rfl (by decide +kernel) ⟨Nat.le_of_ble_eq_true rfl, Nat.le_of_ble_eq_true rfl⟩) (g_preV (q := (RX5, TX5, 5)) hK hP hD [3, 4, 5] rfl (by decide) (ci := 5) (q0 := 3) rfl rfl) rfl rfl hl.1 rfl (lv_room (Nat.le_of_ble_eq_true rfl)) dX5_findOut_62 ⟨Nat.le_of_ble_eq_true rfl, Nat.le_of_ble_eq_true rfl⟩) hP hD hS hA [3, 4, 5] [0, 1, 2] rfl rfl (by decide) (by decide) ?_
  clear hP hD hS H locs
  refine fun u H locs hq hP hD hS => ?_
  replace hP : va_P D vwCl [(h1, .inr (8, [.ref h6, .int 6])), (h2, .inr (8, [.ref h7, .int wp30596])), (h7, .inl (y 1, 200, .inr (.inl (vp_updL (vp_updL (vp_updL (vp_updL (vp_updL (vp_updL wf30597 ((0 : Int32).toNatClampNeg) 0) ((1 : Int32).toNatClampNeg) 0) ((2 : Int32).toNatClampNeg) 0) ((3 : Int32).toNatClampNeg) 0) ((4 : Int32).toNatClampNeg) 0) ((5 : Int32).toNatClampNeg) 0)))), (h0, .inr (5, [.ref h1, .ref h2, .ref h3, .ref h4, .int 6])), (h4, .inr (8, [.ref h10, .int wp30598])), (h10, .inl (y 1, 3, .inr (.inl (fun _ => 0))))] H := hP
  replace hD : va_D A [(h1, .inr (8, [.ref h6, .int 6])), (h2, .inr (8, [.ref h7, .int wp30596])), (h7, .inl (y 1, 200, .inr (.inl (vp_updL (vp_updL (vp_updL (vp_updL (vp_updL (vp_updL wf30597 ((0 : Int32).toNatClampNeg) 0) ((1 : Int32).toNatClampNeg) 0) ((2 : Int32).toNatClampNeg) 0) ((3 : Int32).toNatClampNeg) 0) ((4 : Int32).toNatClampNeg) 0) ((5 : Int32).toNatClampNeg) 0)))), (h0, .inr (5, [.ref h1, .ref h2, .ref h3, .ref h4, .int 6])), (h4, .inr (8, [.ref h10, .int wp30598])), (h10, .inl (y 1, 3, .inr (.inl (fun _ => 0))))] := hD
  refine lv_iinc (v := 2) (lv' := [(2, .int 2), (1, .int 2), (0, .ref h0)]) hx hb dX5_findOut_65 hl (k := 0) rfl (by decide +kernel) (by decide) rfl ?_
  clear hl
  clear ls
  intro ls hl
  refine lv_goto (tgt := 54) hx hb dX5_findOut_68 (by decide) ?_
  refine lv_iload_n hx hb dX5_findOut_54 rfl (lv_at hl 0 rfl) ?_
  refine lv_iconst (v := 3) hx hb dX5_findOut_55 (by decide) ?_
  refine lv_icmp_ge (tgt := 71) hx hb dX5_findOut_56 (by decide) (fun c9 => absurd c9 (by decide +kernel)) (fun _ => ?_)
  refine lv_aload_n hx hb dX5_findOut_59 rfl (lv_at hl 2 rfl) ?_
  refine lv_iload_n hx hb dX5_findOut_60 rfl (lv_at hl 0 rfl) ?_
  refine lv_iload_n hx hb dX5_findOut_61 rfl (lv_at hl 1 rfl) ?_
  refine g_av (wr := [(h1, .inr (8, [.ref h6, .int 6])), (h2, .inr (8, [.ref h7, .int wp30596])), (h7, .inl (y 1, 200, .inr (.inl (vp_updL (vp_updL (vp_updL (vp_updL (vp_updL (vp_updL wf30597 ((0 : Int32).toNatClampNeg) 0) ((1 : Int32).toNatClampNeg) 0) ((2 : Int32).toNatClampNeg) 0) ((3 : Int32).toNatClampNeg) 0) ((4 : Int32).toNatClampNeg) 0) ((5 : Int32).toNatClampNeg) 0))))]) (va_runV (As := [.int 2, .int 2]) (rest := []) ⟨hx, hb, hml, hown, hg⟩ (k_X5_find_8 l D y aS H.size h0 h1 h2 h3 h4 6 h10 wp30598) (cwV 2 hg ggV_RX5_54_X5_find rfl rfl rfl (by decide +kernel) ⟨Nat.le_of_ble_eq_true rfl, Nat.le_of_ble_eq_true rfl⟩) (g_preV (q := (RX5, TX5, 5)) hK hP hD [3, 4, 5] rfl (by decide) (ci := 5) (q0 := 3) rfl rfl) rfl rfl hl.1 rfl (lv_room (Nat.le_of_ble_eq_true rfl)) dX5_findOut_62 ⟨Nat.le_of_ble_eq_true rfl, Nat.le_of_ble_eq_true rfl⟩) hP hD hS hA [3, 4, 5] [0, 1, 2] rfl rfl (by decide) (by decide) ?_
  clear hP hD hS H locs
  refine fun u H locs hq hP hD hS => ?_
  replace hP : va_P D vwCl [(h1, .inr (8, [.ref h6, .int 6])), (h2, .inr (8, [.ref h7, .int wp30596])), (h7, .inl (y 1, 200, .inr (.inl (vp_updL (vp_updL (vp_updL (vp_updL (vp_updL (vp_updL wf30597 ((0 : Int32).toNatClampNeg) 0) ((1 : Int32).toNatClampNeg) 0) ((2 : Int32).toNatClampNeg) 0) ((3 : Int32).toNatClampNeg) 0) ((4 : Int32).toNatClampNeg) 0) ((5 : Int32).toNatClampNeg) 0)))), (h0, .inr (5, [.ref h1, .ref h2, .ref h3, .ref h4, .int 6])), (h4, .inr (8, [.ref h10, .int wp30598])), (h10, .inl (y 1, 3, .inr (.inl (fun _ => 0))))] H := hP
  replace hD : va_D A [(h1, .inr (8, [.ref h6, .int 6])), (h2, .inr (8, [.ref h7, .int wp30596])), (h7, .inl (y 1, 200, .inr (.inl (vp_updL (vp_updL (vp_updL (vp_updL (vp_updL (vp_updL wf30597 ((0 : Int32).toNatClampNeg) 0) ((1 : Int32).toNatClampNeg) 0) ((2 : Int32).toNatClampNeg) 0) ((3 : Int32).toNatClampNeg) 0) ((4 : Int32).toNatClampNeg) 0) ((5 : Int32).toNatClampNeg) 0)))), (h0, .inr (5, [.ref h1, .ref h2, .ref h3, .ref h4, .int 6])), (h4, .inr (8, [.ref h10, .int wp30598])), (h10, .inl (y 1, 3, .inr (.inl (fun _ => 0))))] := hD
  refine lv_iinc (v := 3) (lv' := [(2, .int 3), (1, .int 2), (0, .ref h0)]) hx hb dX5_findOut_65 hl (k := 0) rfl (by decide +kernel) (by decide) rfl ?_
  clear hl
  clear ls
  intro ls hl
  refine lv_goto (tgt := 54) hx hb dX5_findOut_68 (by decide) ?_
  refine lv_iload_n hx hb dX5_findOut_54 rfl (lv_at hl 0 rfl) ?_
  refine lv_iconst (v := 3) hx hb dX5_findOut_55 (by decide) ?_
  refine lv_icmp_ge (tgt := 71) hx hb dX5_findOut_56 (by decide) (fun _ => ?_) (fun c9 => absurd c9 (by decide +kernel))
  refine lv_iinc (v := 3) (lv' := [(1, .int 3), (2, .int 3), (0, .ref h0)]) hx hb dX5_findOut_71 hl (k := 1) rfl (by decide +kernel) (by decide) rfl ?_
  clear hl
  clear ls
  intro ls hl
  refine lv_goto (tgt := 41) hx hb dX5_findOut_74 (by decide) ?_
  refine lv_iload_n hx hb dX5_findOut_41 rfl (lv_at hl 0 rfl) ?_
  refine lv_aload_n hx hb dX5_findOut_42 rfl (lv_at hl 2 rfl) ?_
  refine gm_get (D := D) (ci := 5) (v := .ref h1) (C := RX5) (T := TX5) (N := 5) hx hb hg inlX5 hown hK.1 hP 3 rfl rfl 0 (by decide) tX5_0 (hg _ gw_138) rfl dX5_findOut_43 ?_
  refine gm_get (D := D) (ci := 8) (v := .int 6) (C := RX8) (T := TX8) (N := 2) hx hb hg inlX8 hown hK.1 hP 0 rfl rfl 1 (by decide) tX8_1 (hg _ gw_1441) rfl dX5_findOut_46 ?_
  refine lv_icmp_ge (tgt := 77) hx hb dX5_findOut_49 (by decide) (fun c9 => absurd c9 (by decide +kernel)) (fun _ => ?_)
  refine lv_iconst (v := 0) hx hb dX5_findOut_52 (by decide) ?_
  refine lv_istore_n (lv' := [(2, .int 0), (1, .int 3), (0, .ref h0)]) hx hb dX5_findOut_53 rfl hl (by decide) rfl ?_
  clear hl
  clear ls
  intro ls hl
  refine lv_iload_n hx hb dX5_findOut_54 rfl (lv_at hl 0 rfl) ?_
  refine lv_iconst (v := 3) hx hb dX5_findOut_55 (by decide) ?_
  refine lv_icmp_ge (tgt := 71) hx hb dX5_findOut_56 (by decide) (fun c9 => absurd c9 (by decide +kernel)) (fun _ => ?_)
  refine lv_aload_n hx hb dX5_findOut_59 rfl (lv_at hl 2 rfl) ?_
  refine lv_iload_n hx hb dX5_findOut_60 rfl (lv_at hl 0 rfl) ?_
  refine lv_iload_n hx hb dX5_findOut_61 rfl (lv_at hl 1 rfl) ?_
  refine g_av (wr := [(h1, .inr (8, [.ref h6, .int 6])), (h2, .inr (8, [.ref h7, .int wp30596])), (h7, .inl (y 1, 200, .inr (.inl (vp_updL (vp_updL (vp_updL (vp_updL (vp_updL (vp_updL wf30597 ((0 : Int32).toNatClampNeg) 0) ((1 : Int32).toNatClampNeg) 0) ((2 : Int32).toNatClampNeg) 0) ((3 : Int32).toNatClampNeg) 0) ((4 : Int32).toNatClampNeg) 0) ((5 : Int32).toNatClampNeg) 0))))]) (va_runV (As := [.int 0, .int 3]) (rest := []) ⟨hx, hb, hml, hown, hg⟩ (k_X5_find_9 l D y aS H.size h0 h1 h2 h3 h4 6 h10 wp30598) (cwV 2 hg ggV_RX5_54_X5_find rfl rfl rfl (by decide +kernel) ⟨Nat.le_of_ble_eq_true rfl, Nat.le_of_ble_eq_true rfl⟩) (g_preV (q := (RX5, TX5, 5)) hK hP hD [3, 4, 5] rfl (by decide) (ci := 5) (q0 := 3) rfl rfl) rfl rfl hl.1 rfl (lv_room (Nat.le_of_ble_eq_true rfl)) dX5_findOut_62 ⟨Nat.le_of_ble_eq_true rfl, Nat.le_of_ble_eq_true rfl⟩) hP hD hS hA [3, 4, 5] [0, 1, 2] rfl rfl (by decide) (by decide) ?_
  clear hP hD hS H locs
  refine fun u H locs hq hP hD hS => ?_
  replace hP : va_P D vwCl [(h1, .inr (8, [.ref h6, .int 6])), (h2, .inr (8, [.ref h7, .int wp30596])), (h7, .inl (y 1, 200, .inr (.inl (vp_updL (vp_updL (vp_updL (vp_updL (vp_updL (vp_updL wf30597 ((0 : Int32).toNatClampNeg) 0) ((1 : Int32).toNatClampNeg) 0) ((2 : Int32).toNatClampNeg) 0) ((3 : Int32).toNatClampNeg) 0) ((4 : Int32).toNatClampNeg) 0) ((5 : Int32).toNatClampNeg) 0)))), (h0, .inr (5, [.ref h1, .ref h2, .ref h3, .ref h4, .int 6])), (h4, .inr (8, [.ref h10, .int wp30598])), (h10, .inl (y 1, 3, .inr (.inl (fun _ => 0))))] H := hP
  replace hD : va_D A [(h1, .inr (8, [.ref h6, .int 6])), (h2, .inr (8, [.ref h7, .int wp30596])), (h7, .inl (y 1, 200, .inr (.inl (vp_updL (vp_updL (vp_updL (vp_updL (vp_updL (vp_updL wf30597 ((0 : Int32).toNatClampNeg) 0) ((1 : Int32).toNatClampNeg) 0) ((2 : Int32).toNatClampNeg) 0) ((3 : Int32).toNatClampNeg) 0) ((4 : Int32).toNatClampNeg) 0) ((5 : Int32).toNatClampNeg) 0)))), (h0, .inr (5, [.ref h1, .ref h2, .ref h3, .ref h4, .int 6])), (h4, .inr (8, [.ref h10, .int wp30598])), (h10, .inl (y 1, 3, .inr (.inl (fun _ => 0))))] := hD
  refine lv_iinc (v := 1) (lv' := [(2, .int 1), (1, .int 3), (0, .ref h0)]) hx hb dX5_findOut_65 hl (k := 0) rfl (by decide +kernel) (by decide) rfl ?_
  clear hl
  clear ls
  intro ls hl
  refine lv_goto (tgt := 54) hx hb dX5_findOut_68 (by decide) ?_
  refine lv_iload_n hx hb dX5_findOut_54 rfl (lv_at hl 0 rfl) ?_
  refine lv_iconst (v := 3) hx hb dX5_findOut_55 (by decide) ?_
  refine lv_icmp_ge (tgt := 71) hx hb dX5_findOut_56 (by decide) (fun c9 => absurd c9 (by decide +kernel)) (fun _ => ?_)
  refine lv_aload_n hx hb dX5_findOut_59 rfl (lv_at hl 2 rfl) ?_
  refine lv_iload_n hx hb dX5_findOut_60 rfl (lv_at hl 0 rfl) ?_
  refine lv_iload_n hx hb dX5_findOut_61 rfl (lv_at hl 1 rfl) ?_
  refine g_av (wr := [(h1, .inr (8, [.ref h6, .int 6])), (h2, .inr (8, [.ref h7, .int wp30596])), (h7, .inl (y 1, 200, .inr (.inl (vp_updL (vp_updL (vp_updL (vp_updL (vp_updL (vp_updL wf30597 ((0 : Int32).toNatClampNeg) 0) ((1 : Int32).toNatClampNeg) 0) ((2 : Int32).toNatClampNeg) 0) ((3 : Int32).toNatClampNeg) 0) ((4 : Int32).toNatClampNeg) 0) ((5 : Int32).toNatClampNeg) 0))))]) (va_runV (As := [.int 1, .int 3]) (rest := []) ⟨hx, hb, hml, hown, hg⟩ (k_X5_find_10 l D y aS H.size h0 h1 h2 h3 h4 6 h10 wp30598) (cwV 2 hg ggV_RX5_54_X5_find rfl rfl rfl (by decide +kernel) ⟨Nat.le_of_ble_eq_true rfl, Nat.le_of_ble_eq_true rfl⟩) (g_preV (q := (RX5, TX5, 5)) hK hP hD [3, 4, 5] rfl (by decide) (ci := 5) (q0 := 3) rfl rfl) rfl rfl hl.1 rfl (lv_room (Nat.le_of_ble_eq_true rfl)) dX5_findOut_62 ⟨Nat.le_of_ble_eq_true rfl, Nat.le_of_ble_eq_true rfl⟩) hP hD hS hA [3, 4, 5] [0, 1, 2] rfl rfl (by decide) (by decide) ?_
  clear hP hD hS H locs
  refine fun u H locs hq hP hD hS => ?_
  replace hP : va_P D vwCl [(h1, .inr (8, [.ref h6, .int 6])), (h2, .inr (8, [.ref h7, .int wp30596])), (h7, .inl (y 1, 200, .inr (.inl (vp_updL (vp_updL (vp_updL (vp_updL (vp_updL (vp_updL wf30597 ((0 : Int32).toNatClampNeg) 0) ((1 : Int32).toNatClampNeg) 0) ((2 : Int32).toNatClampNeg) 0) ((3 : Int32).toNatClampNeg) 0) ((4 : Int32).toNatClampNeg) 0) ((5 : Int32).toNatClampNeg) 0)))), (h0, .inr (5, [.ref h1, .ref h2, .ref h3, .ref h4, .int 6])), (h4, .inr (8, [.ref h10, .int wp30598])), (h10, .inl (y 1, 3, .inr (.inl (fun _ => 0))))] H := hP
  replace hD : va_D A [(h1, .inr (8, [.ref h6, .int 6])), (h2, .inr (8, [.ref h7, .int wp30596])), (h7, .inl (y 1, 200, .inr (.inl (vp_updL (vp_updL (vp_updL (vp_updL (vp_updL (vp_updL wf30597 ((0 : Int32).toNatClampNeg) 0) ((1 : Int32).toNatClampNeg) 0) ((2 : Int32).toNatClampNeg) 0) ((3 : Int32).toNatClampNeg) 0) ((4 : Int32).toNatClampNeg) 0) ((5 : Int32).toNatClampNeg) 0)))), (h0, .inr (5, [.ref h1, .ref h2, .ref h3, .ref h4, .int 6])), (h4, .inr (8, [.ref h10, .int wp30598])), (h10, .inl (y 1, 3, .inr (.inl (fun _ => 0))))] := hD
  refine lv_iinc (v := 2) (lv' := [(2, .int 2), (1, .int 3), (0, .ref h0)]) hx hb dX5_findOut_65 hl (k := 0) rfl (by decide +kernel) (by decide) rfl ?_
  clear hl
  clear ls
  intro ls hl
  refine lv_goto (tgt := 54) hx hb dX5_findOut_68 (by decide) ?_
  refine lv_iload_n hx hb dX5_findOut_54 rfl (lv_at hl 0 rfl) ?_
  refine lv_iconst (v := 3) hx hb dX5_findOut_55 (by decide) ?_
  refine lv_icmp_ge (tgt := 71) hx hb dX5_findOut_56 (by decide) (fun c9 => absurd c9 (by decide +kernel)) (fun _ => ?_)
  refine lv_aload_n hx hb dX5_findOut_59 rfl (lv_at hl 2 rfl) ?_
  refine lv_iload_n hx hb dX5_findOut_60 rfl (lv_at hl 0 rfl) ?_
  refine lv_iload_n hx hb dX5_findOut_61 rfl (lv_at hl 1 rfl) ?_
  refine g_av (wr := [(h1, .inr (8, [.ref h6, .int 6])), (h2, .inr (8, [.ref h7, .int wp30596])), (h7, .inl (y 1, 200, .inr (.inl (vp_updL (vp_updL (vp_updL (vp_updL (vp_updL (vp_updL wf30597 ((0 : Int32).toNatClampNeg) 0) ((1 : Int32).toNatClampNeg) 0) ((2 : Int32).toNatClampNeg) 0) ((3 : Int32).toNatClampNeg) 0) ((4 : Int32).toNatClampNeg) 0) ((5 : Int32).toNatClampNeg) 0))))]) (va_runV (As := [.int 2, .int 3]) (rest := []) ⟨hx, hb, hml, hown, hg⟩ (k_X5_find_11 l D y aS H.size h0 h1 h2 h3 h4 6 h10 wp30598) (cwV 2 hg ggV_RX5_54_X5_find rfl rfl rfl (by decide +kernel) ⟨Nat.le_of_ble_eq_true rfl, Nat.le_of_ble_eq_true rfl⟩) (g_preV (q := (RX5, TX5, 5)) hK hP hD [3, 4, 5] rfl (by decide) (ci := 5) (q0 := 3) rfl rfl) rfl rfl hl.1 rfl (lv_room (Nat.le_of_ble_eq_true rfl)) dX5_findOut_62 ⟨Nat.le_of_ble_eq_true rfl, Nat.le_of_ble_eq_true rfl⟩) hP hD hS hA [3, 4, 5] [0, 1, 2] rfl rfl (by decide) (by decide) ?_
  clear hP hD hS H locs
  refine fun u H locs hq hP hD hS => ?_
  replace hP : va_P D vwCl [(h1, .inr (8, [.ref h6, .int 6])), (h2, .inr (8, [.ref h7, .int wp30596])), (h7, .inl (y 1, 200, .inr (.inl (vp_updL (vp_updL (vp_updL (vp_updL (vp_updL (vp_updL wf30597 ((0 : Int32).toNatClampNeg) 0) ((1 : Int32).toNatClampNeg) 0) ((2 : Int32).toNatClampNeg) 0) ((3 : Int32).toNatClampNeg) 0) ((4 : Int32).toNatClampNeg) 0) ((5 : Int32).toNatClampNeg) 0)))), (h0, .inr (5, [.ref h1, .ref h2, .ref h3, .ref h4, .int 6])), (h4, .inr (8, [.ref h10, .int wp30598])), (h10, .inl (y 1, 3, .inr (.inl (fun _ => 0))))] H := hP
  replace hD : va_D A [(h1, .inr (8, [.ref h6, .int 6])), (h2, .inr (8, [.ref h7, .int wp30596])), (h7, .inl (y 1, 200, .inr (.inl (vp_updL (vp_updL (vp_updL (vp_updL (vp_updL (vp_updL wf30597 ((0 : Int32).toNatClampNeg) 0) ((1 : Int32).toNatClampNeg) 0) ((2 : Int32).toNatClampNeg) 0) ((3 : Int32).toNatClampNeg) 0) ((4 : Int32).toNatClampNeg) 0) ((5 : Int32).toNatClampNeg) 0)))), (h0, .inr (5, [.ref h1, .ref h2, .ref h3, .ref h4, .int 6])), (h4, .inr (8, [.ref h10, .int wp30598])), (h10, .inl (y 1, 3, .inr (.inl (fun _ => 0))))] := hD
  refine lv_iinc (v := 3) (lv' := [(2, .int 3), (1, .int 3), (0, .ref h0)]) hx hb dX5_findOut_65 hl (k := 0) rfl (by decide +kernel) (by decide) rfl ?_
  clear hl
  clear ls
  intro ls hl
  refine lv_goto (tgt := 54) hx hb dX5_findOut_68 (by decide) ?_
  refine lv_iload_n hx hb dX5_findOut_54 rfl (lv_at hl 0 rfl) ?_
  refine lv_iconst (v := 3) hx hb dX5_findOut_55 (by decide) ?_
  refine lv_icmp_ge (tgt := 71) hx hb dX5_findOut_56 (by decide) (fun _ => ?_) (fun c9 => absurd c9 (by decide +kernel))
  refine lv_iinc (v := 4) (lv' := [(1, .int 4), (2, .int 3), (0, .ref h0)]) hx hb dX5_findOut_71 hl (k := 1) rfl (by decide +kernel) (by decide) rfl ?_
  clear hl
  clear ls
  intro ls hl
  refine lv_goto (tgt := 41) hx hb dX5_findOut_74 (by decide) ?_
  refine lv_iload_n hx hb dX5_findOut_41 rfl (lv_at hl 0 rfl) ?_
  refine lv_aload_n hx hb dX5_findOut_42 rfl (lv_at hl 2 rfl) ?_
  refine gm_get (D := D) (ci := 5) (v := .ref h1) (C := RX5) (T := TX5) (N := 5) hx hb hg inlX5 hown hK.1 hP 3 rfl rfl 0 (by decide) tX5_0 (hg _ gw_138) rfl dX5_findOut_43 ?_
  refine gm_get (D := D) (ci := 8) (v := .int 6) (C := RX8) (T := TX8) (N := 2) hx hb hg inlX8 hown hK.1 hP 0 rfl rfl 1 (by decide) tX8_1 (hg _ gw_1441) rfl dX5_findOut_46 ?_
  refine lv_icmp_ge (tgt := 77) hx hb dX5_findOut_49 (by decide) (fun c9 => absurd c9 (by decide +kernel)) (fun _ => ?_)
  refine lv_iconst (v := 0) hx hb dX5_findOut_52 (by decide) ?_
  refine lv_istore_n (lv' := [(2, .int 0), (1, .int 4), (0, .ref h0)]) hx hb dX5_findOut_53 rfl hl (by decide) rfl ?_
  clear hl
  clear ls
  intro ls hl
  refine lv_iload_n hx hb dX5_findOut_54 rfl (lv_at hl 0 rfl) ?_
  refine lv_iconst (v := 3) hx hb dX5_findOut_55 (by decide) ?_
  refine lv_icmp_ge (tgt := 71) hx hb dX5_findOut_56 (by decide) (fun c9 => absurd c9 (by decide +kernel)) (fun _ => ?_)
  refine lv_aload_n hx hb dX5_findOut_59 rfl (lv_at hl 2 rfl) ?_
  refine lv_iload_n hx hb dX5_findOut_60 rfl (lv_at hl 0 rfl) ?_
  refine lv_iload_n hx hb dX5_findOut_61 rfl (lv_at hl 1 rfl) ?_
  refine g_av (wr := [(h1, .inr (8, [.ref h6, .int 6])), (h2, .inr (8, [.ref h7, .int wp30596])), (h7, .inl (y 1, 200, .inr (.inl (vp_updL (vp_updL (vp_updL (vp_updL (vp_updL (vp_updL wf30597 ((0 : Int32).toNatClampNeg) 0) ((1 : Int32).toNatClampNeg) 0) ((2 : Int32).toNatClampNeg) 0) ((3 : Int32).toNatClampNeg) 0) ((4 : Int32).toNatClampNeg) 0) ((5 : Int32).toNatClampNeg) 0))))]) (va_runV (As := [.int 0, .int 4]) (rest := []) ⟨hx, hb, hml, hown, hg⟩ (k_X5_find_12 l D y aS H.size h0 h1 h2 h3 h4 6 h10 wp30598) (cwV 2 hg ggV_RX5_54_X5_find rfl rfl rfl (by decide +kernel) ⟨Nat.le_of_ble_eq_true rfl, Nat.le_of_ble_eq_true rfl⟩) (g_preV (q := (RX5, TX5, 5)) hK hP hD [3, 4, 5] rfl (by decide) (ci := 5) (q0 := 3) rfl rfl) rfl rfl hl.1 rfl (lv_room (Nat.le_of_ble_eq_true rfl)) dX5_findOut_62 ⟨Nat.le_of_ble_eq_true rfl, Nat.le_of_ble_eq_true rfl⟩) hP hD hS hA [3, 4, 5] [0, 1, 2] rfl rfl (by decide) (by decide) ?_
  clear hP hD hS H locs
  refine fun u H locs hq hP hD hS => ?_
  replace hP : va_P D vwCl [(h1, .inr (8, [.ref h6, .int 6])), (h2, .inr (8, [.ref h7, .int wp30596])), (h7, .inl (y 1, 200, .inr (.inl (vp_updL (vp_updL (vp_updL (vp_updL (vp_updL (vp_updL wf30597 ((0 : Int32).toNatClampNeg) 0) ((1 : Int32).toNatClampNeg) 0) ((2 : Int32).toNatClampNeg) 0) ((3 : Int32).toNatClampNeg) 0) ((4 : Int32).toNatClampNeg) 0) ((5 : Int32).toNatClampNeg) 0)))), (h0, .inr (5, [.ref h1, .ref h2, .ref h3, .ref h4, .int 6])), (h4, .inr (8, [.ref h10, .int wp30598])), (h10, .inl (y 1, 3, .inr (.inl (fun _ => 0))))] H := hP
  replace hD : va_D A [(h1, .inr (8, [.ref h6, .int 6])), (h2, .inr (8, [.ref h7, .int wp30596])), (h7, .inl (y 1, 200, .inr (.inl (vp_updL (vp_updL (vp_updL (vp_updL (vp_updL (vp_updL wf30597 ((0 : Int32).toNatClampNeg) 0) ((1 : Int32).toNatClampNeg) 0) ((2 : Int32).toNatClampNeg) 0) ((3 : Int32).toNatClampNeg) 0) ((4 : Int32).toNatClampNeg) 0) ((5 : Int32).toNatClampNeg) 0)))), (h0, .inr (5, [.ref h1, .ref h2, .ref h3, .ref h4, .int 6])), (h4, .inr (8, [.ref h10, .int wp30598])), (h10, .inl (y 1, 3, .inr (.inl (fun _ => 0))))] := hD
  refine lv_iinc (v := 1) (lv' := [(2, .int 1), (1, .int 4), (0, .ref h0)]) hx hb dX5_findOut_65 hl (k := 0) rfl (by decide +kernel) (by decide) rfl ?_
  clear hl
  clear ls
  intro ls hl
  refine lv_goto (tgt := 54) hx hb dX5_findOut_68 (by decide) ?_
  refine lv_iload_n hx hb dX5_findOut_54 rfl (lv_at hl 0 rfl) ?_
  refine lv_iconst (v := 3) hx hb dX5_findOut_55 (by decide) ?_
  refine lv_icmp_ge (tgt := 71) hx hb dX5_findOut_56 (by decide) (fun c9 => absurd c9 (by decide +kernel)) (fun _ => ?_)
  refine lv_aload_n hx hb dX5_findOut_59 rfl (lv_at hl 2 rfl) ?_
  refine lv_iload_n hx hb dX5_findOut_60 rfl (lv_at hl 0 rfl) ?_
  refine lv_iload_n hx hb dX5_findOut_61 rfl (lv_at hl 1 rfl) ?_
  refine g_av (wr := [(h1, .inr (8, [.ref h6, .int 6])), (h2, .inr (8, [.ref h7, .int wp30596])), (h7, .inl (y 1, 200, .inr (.inl (vp_updL (vp_updL (vp_updL (vp_updL (vp_updL (vp_updL wf30597 ((0 : Int32).toNatClampNeg) 0) ((1 : Int32).toNatClampNeg) 0) ((2 : Int32).toNatClampNeg) 0) ((3 : Int32).toNatClampNeg) 0) ((4 : Int32).toNatClampNeg) 0) ((5 : Int32).toNatClampNeg) 0))))]) (va_runV (As := [.int 1, .int 4]) (rest := []) ⟨hx, hb, hml, hown, hg⟩ (k_X5_find_13 l D y aS H.size h0 h1 h2 h3 h4 6 h10 wp30598) (cwV 2 hg ggV_RX5_54_X5_find rfl rfl rfl (by decide +kernel) ⟨Nat.le_of_ble_eq_true rfl, Nat.le_of_ble_eq_true rfl⟩) (g_preV (q := (RX5, TX5, 5)) hK hP hD [3, 4, 5] rfl (by decide) (ci := 5) (q0 := 3) rfl rfl) rfl rfl hl.1 rfl (lv_room (Nat.le_of_ble_eq_true rfl)) dX5_findOut_62 ⟨Nat.le_of_ble_eq_true rfl, Nat.le_of_ble_eq_true rfl⟩) hP hD hS hA [3, 4, 5] [0, 1, 2] rfl rfl (by decide) (by decide) ?_
  clear hP hD hS H locs
  refine fun u H locs hq hP hD hS => ?_
  replace hP : va_P D vwCl [(h1, .inr (8, [.ref h6, .int 6])), (h2, .inr (8, [.ref h7, .int wp30596])), (h7, .inl (y 1, 200, .inr (.inl (vp_updL (vp_updL (vp_updL (vp_updL (vp_updL (vp_updL wf30597 ((0 : Int32).toNatClampNeg) 0) ((1 : Int32).toNatClampNeg) 0) ((2 : Int32).toNatClampNeg) 0) ((3 : Int32).toNatClampNeg) 0) ((4 : Int32).toNatClampNeg) 0) ((5 : Int32).toNatClampNeg) 0)))), (h0, .inr (5, [.ref h1, .ref h2, .ref h3, .ref h4, .int 6])), (h4, .inr (8, [.ref h10, .int wp30598])), (h10, .inl (y 1, 3, .inr (.inl (fun _ => 0))))] H := hP
  replace hD : va_D A [(h1, .inr (8, [.ref h6, .int 6])), (h2, .inr (8, [.ref h7, .int wp30596])), (h7, .inl (y 1, 200, .inr (.inl (vp_updL (vp_updL (vp_updL (vp_updL (vp_updL (vp_updL wf30597 ((0 : Int32).toNatClampNeg) 0) ((1 : Int32).toNatClampNeg) 0) ((2 : Int32).toNatClampNeg) 0) ((3 : Int32).toNatClampNeg) 0) ((4 : Int32).toNatClampNeg) 0) ((5 : Int32).toNatClampNeg) 0)))), (h0, .inr (5, [.ref h1, .ref h2, .ref h3, .ref h4, .int 6])), (h4, .inr (8, [.ref h10, .int wp30598])), (h10, .inl (y 1, 3, .inr (.inl (fun _ => 0))))] := hD
  refine lv_iinc (v := 2) (lv' := [(2, .int 2), (1, .int 4), (0, .ref h0)]) hx hb dX5_findOut_65 hl (k := 0) rfl (by decide +kernel) (by decide) rfl ?_
  clear hl
  clear ls
  intro ls hl
  refine lv_goto (tgt := 54) hx hb dX5_findOut_68 (by decide) ?_
  refine lv_iload_n hx hb dX5_findOut_54 rfl (lv_at hl 0 rfl) ?_
  refine lv_iconst (v := 3) hx hb dX5_findOut_55 (by decide) ?_
  refine lv_icmp_ge (tgt := 71) hx hb dX5_findOut_56 (by decide) (fun c9 => absurd c9 (by decide +kernel)) (fun _ => ?_)
  refine lv_aload_n hx hb dX5_findOut_59 rfl (lv_at hl 2 rfl) ?_
  refine lv_iload_n hx hb dX5_findOut_60 rfl (lv_at hl 0 rfl) ?_
  refine lv_iload_n hx hb dX5_findOut_61 rfl (lv_at hl 1 rfl) ?_
  refine g_av (wr := [(h1, .inr (8, [.ref h6, .int 6])), (h2, .inr (8, [.ref h7, .int wp30596])), (h7, .inl (y 1, 200, .inr (.inl (vp_updL (vp_updL (vp_updL (vp_updL (vp_updL (vp_updL wf30597 ((0 : Int32).toNatClampNeg) 0) ((1 : Int32).toNatClampNeg) 0) ((2 : Int32).toNatClampNeg) 0) ((3 : Int32).toNatClampNeg) 0) ((4 : Int32).toNatClampNeg) 0) ((5 : Int32).toNatClampNeg) 0))))]) (va_runV (As := [.int 2, .int 4]) (rest := []) ⟨hx, hb, hml, hown, hg⟩ (k_X5_find_14 l D y aS H.size h0 h1 h2 h3 h4 6 h10 wp30598) (cwV 2 hg ggV_RX5_54_X5_find rfl rfl rfl (by decide +kernel) ⟨Nat.le_of_ble_eq_true rfl, Nat.le_of_ble_eq_true rfl⟩) (g_preV (q := (RX5, TX5, 5)) hK hP hD [3, 4, 5] rfl (by decide) (ci := 5) (q0 := 3) rfl rfl) rfl rfl hl.1 rfl (lv_room (Nat.le_of_ble_eq_true rfl)) dX5_findOut_62 ⟨Nat.le_of_ble_eq_true rfl, Nat.le_of_ble_eq_true rfl⟩) hP hD hS hA [3, 4, 5] [0, 1, 2] rfl rfl (by decide) (by decide) ?_
  clear hP hD hS H locs
  refine fun u H locs hq hP hD hS => ?_
  replace hP : va_P D vwCl [(h1, .inr (8, [.ref h6, .int 6])), (h2, .inr (8, [.ref h7, .int wp30596])), (h7, .inl (y 1, 200, .inr (.inl (vp_updL (vp_updL (vp_updL (vp_updL (vp_updL (vp_updL wf30597 ((0 : Int32).toNatClampNeg) 0) ((1 : Int32).toNatClampNeg) 0) ((2 : Int32).toNatClampNeg) 0) ((3 : Int32).toNatClampNeg) 0) ((4 : Int32).toNatClampNeg) 0) ((5 : Int32).toNatClampNeg) 0)))), (h0, .inr (5, [.ref h1, .ref h2, .ref h3, .ref h4, .int 6])), (h4, .inr (8, [.ref h10, .int wp30598])), (h10, .inl (y 1, 3, .inr (.inl (fun _ => 0))))] H := hP
  replace hD : va_D A [(h1, .inr (8, [.ref h6, .int 6])), (h2, .inr (8, [.ref h7, .int wp30596])), (h7, .inl (y 1, 200, .inr (.inl (vp_updL (vp_updL (vp_updL (vp_updL (vp_updL (vp_updL wf30597 ((0 : Int32).toNatClampNeg) 0) ((1 : Int32).toNatClampNeg) 0) ((2 : Int32).toNatClampNeg) 0) ((3 : Int32).toNatClampNeg) 0) ((4 : Int32).toNatClampNeg) 0) ((5 : Int32).toNatClampNeg) 0)))), (h0, .inr (5, [.ref h1, .ref h2, .ref h3, .ref h4, .int 6])), (h4, .inr (8, [.ref h10, .int wp30598])), (h10, .inl (y 1, 3, .inr (.inl (fun _ => 0))))] := hD
  refine lv_iinc (v := 3) (lv' := [(2, .int 3), (1, .int 4), (0, .ref h0)]) hx hb dX5_findOut_65 hl (k := 0) rfl (by decide +kernel) (by decide) rfl ?_
  clear hl
  clear ls
  intro ls hl
  refine lv_goto (tgt := 54) hx hb dX5_findOut_68 (by decide) ?_
  refine lv_iload_n hx hb dX5_findOut_54 rfl (lv_at hl 0 rfl) ?_
  refine lv_iconst (v := 3) hx hb dX5_findOut_55 (by decide) ?_
  refine lv_icmp_ge (tgt := 71) hx hb dX5_findOut_56 (by decide) (fun _ => ?_) (fun c9 => absurd c9 (by decide +kernel))
  refine lv_iinc (v := 5) (lv' := [(1, .int 5), (2, .int 3), (0, .ref h0)]) hx hb dX5_findOut_71 hl (k := 1) rfl (by decide +kernel) (by decide) rfl ?_
  clear hl
  clear ls
  intro ls hl
  refine lv_goto (tgt := 41) hx hb dX5_findOut_74 (by decide) ?_
  refine lv_iload_n hx hb dX5_findOut_41 rfl (lv_at hl 0 rfl) ?_
  refine lv_aload_n hx hb dX5_findOut_42 rfl (lv_at hl 2 rfl) ?_
  refine gm_get (D := D) (ci := 5) (v := .ref h1) (C := RX5) (T := TX5) (N := 5) hx hb hg inlX5 hown hK.1 hP 3 rfl rfl 0 (by decide) tX5_0 (hg _ gw_138) rfl dX5_findOut_43 ?_
  refine gm_get (D := D) (ci := 8) (v := .int 6) (C := RX8) (T := TX8) (N := 2) hx hb hg inlX8 hown hK.1 hP 0 rfl rfl 1 (by decide) tX8_1 (hg _ gw_1441) rfl dX5_findOut_46 ?_
  refine lv_icmp_ge (tgt := 77) hx hb dX5_findOut_49 (by decide) (fun c9 => absurd c9 (by decide +kernel)) (fun _ => ?_)
  refine lv_iconst (v := 0) hx hb dX5_findOut_52 (by decide) ?_
  refine lv_istore_n (lv' := [(2, .int 0), (1, .int 5), (0, .ref h0)]) hx hb dX5_findOut_53 rfl hl (by decide) rfl ?_
  clear hl
  clear ls
  intro ls hl
  refine lv_iload_n hx hb dX5_findOut_54 rfl (lv_at hl 0 rfl) ?_
  refine lv_iconst (v := 3) hx hb dX5_findOut_55 (by decide) ?_
  refine lv_icmp_ge (tgt := 71) hx hb dX5_findOut_56 (by decide) (fun c9 => absurd c9 (by decide +kernel)) (fun _ => ?_)
  refine lv_aload_n hx hb dX5_findOut_59 rfl (lv_at hl 2 rfl) ?_
  refine lv_iload_n hx hb dX5_findOut_60 rfl (lv_at hl 0 rfl) ?_
  refine lv_iload_n hx hb dX5_findOut_61 rfl (lv_at hl 1 rfl) ?_
  refine g_av (wr := [(h1, .inr (8, [.ref h6, .int 6])), (h2, .inr (8, [.ref h7, .int wp30596])), (h7, .inl (y 1, 200, .inr (.inl (vp_updL (vp_updL (vp_updL (vp_updL (vp_updL (vp_updL wf30597 ((0 : Int32).toNatClampNeg) 0) ((1 : Int32).toNatClampNeg) 0) ((2 : Int32).toNatClampNeg) 0) ((3 : Int32).toNatClampNeg) 0) ((4 : Int32).toNatClampNeg) 0) ((5 : Int32).toNatClampNeg) 0))))]) (va_runV (As := [.int 0, .int 5]) (rest := []) ⟨hx, hb, hml, hown, hg⟩ (k_X5_find_15 l D y aS H.size h0 h1 h2 h3 h4 6 h10 wp30598) (cwV 2 hg ggV_RX5_54_X5_find rfl rfl rfl (by decide +kernel) ⟨Nat.le_of_ble_eq_true rfl, Nat.le_of_ble_eq_true rfl⟩) (g_preV (q := (RX5, TX5, 5)) hK hP hD [3, 4, 5] rfl (by decide) (ci := 5) (q0 := 3) rfl rfl) rfl rfl hl.1 rfl (lv_room (Nat.le_of_ble_eq_true rfl)) dX5_findOut_62 ⟨Nat.le_of_ble_eq_true rfl, Nat.le_of_ble_eq_true rfl⟩) hP hD hS hA [3, 4, 5] [0, 1, 2] rfl rfl (by decide) (by decide) ?_
  clear hP hD hS H locs
  refine fun u H locs hq hP hD hS => ?_
  replace hP : va_P D vwCl [(h1, .inr (8, [.ref h6, .int 6])), (h2, .inr (8, [.ref h7, .int wp30596])), (h7, .inl (y 1, 200, .inr (.inl (vp_updL (vp_updL (vp_updL (vp_updL (vp_updL (vp_updL wf30597 ((0 : Int32).toNatClampNeg) 0) ((1 : Int32).toNatClampNeg) 0) ((2 : Int32).toNatClampNeg) 0) ((3 : Int32).toNatClampNeg) 0) ((4 : Int32).toNatClampNeg) 0) ((5 : Int32).toNatClampNeg) 0)))), (h0, .inr (5, [.ref h1, .ref h2, .ref h3, .ref h4, .int 6])), (h4, .inr (8, [.ref h10, .int wp30598])), (h10, .inl (y 1, 3, .inr (.inl (fun _ => 0))))] H := hP
  replace hD : va_D A [(h1, .inr (8, [.ref h6, .int 6])), (h2, .inr (8, [.ref h7, .int wp30596])), (h7, .inl (y 1, 200, .inr (.inl (vp_updL (vp_updL (vp_updL (vp_updL (vp_updL (vp_updL wf30597 ((0 : Int32).toNatClampNeg) 0) ((1 : Int32).toNatClampNeg) 0) ((2 : Int32).toNatClampNeg) 0) ((3 : Int32).toNatClampNeg) 0) ((4 : Int32).toNatClampNeg) 0) ((5 : Int32).toNatClampNeg) 0)))), (h0, .inr (5, [.ref h1, .ref h2, .ref h3, .ref h4, .int 6])), (h4, .inr (8, [.ref h10, .int wp30598])), (h10, .inl (y 1, 3, .inr (.inl (fun _ => 0))))] := hD
  refine lv_iinc (v := 1) (lv' := [(2, .int 1), (1, .int 5), (0, .ref h0)]) hx hb dX5_findOut_65 hl (k := 0) rfl (by decide +kernel) (by decide) rfl ?_
  clear hl
  clear ls
  intro ls hl
  refine lv_goto (tgt := 54) hx hb dX5_findOut_68 (by decide) ?_
  refine lv_iload_n hx hb dX5_findOut_54 rfl (lv_at hl 0 rfl) ?_
  refine lv_iconst (v := 3) hx hb dX5_findOut_55 (by decide) ?_
  refine lv_icmp_ge (tgt := 71) hx hb dX5_findOut_56 (by decide) (fun c9 => absurd c9 (by decide +kernel)) (fun _ => ?_)
  refine lv_aload_n hx hb dX5_findOut_59 rfl (lv_at hl 2 rfl) ?_
  refine lv_iload_n hx hb dX5_findOut_60 rfl (lv_at hl 0 rfl) ?_
  refine lv_iload_n hx hb dX5_findOut_61 rfl (lv_at hl 1 rfl) ?_
  refine g_av (wr := [(h1, .inr (8, [.ref h6, .int 6])), (h2, .inr (8, [.ref h7, .int wp30596])), (h7, .inl (y 1, 200, .inr (.inl (vp_updL (vp_updL (vp_updL (vp_updL (vp_updL (vp_updL wf30597 ((0 : Int32).toNatClampNeg) 0) ((1 : Int32).toNatClampNeg) 0) ((2 : Int32).toNatClampNeg) 0) ((3 : Int32).toNatClampNeg) 0) ((4 : Int32).toNatClampNeg) 0) ((5 : Int32).toNatClampNeg) 0))))]) (va_runV (As := [.int 1, .int 5]) (rest := []) ⟨hx, hb, hml, hown, hg⟩ (k_X5_find_16 l D y aS H.size h0 h1 h2 h3 h4 6 h10 wp30598) (cwV 2 hg ggV_RX5_54_X5_find rfl rfl rfl (by decide +kernel) ⟨Nat.le_of_ble_eq_true rfl, Nat.le_of_ble_eq_true rfl⟩) (g_preV (q := (RX5, TX5, 5)) hK hP hD [3, 4, 5] rfl (by decide) (ci := 5) (q0 := 3) rfl rfl) rfl rfl hl.1 rfl (lv_room (Nat.le_of_ble_eq_true rfl)) dX5_findOut_62 ⟨Nat.le_of_ble_eq_true rfl, Nat.le_of_ble_eq_true rfl⟩) hP hD hS hA [3, 4, 5] [0, 1, 2] rfl rfl (by decide) (by decide) ?_
  clear hP hD hS H locs
  refine fun u H locs hq hP hD hS => ?_
  replace hP : va_P D vwCl [(h1, .inr (8, [.ref h6, .int 6])), (h2, .inr (8, [.ref h7, .int wp30596])), (h7, .inl (y 1, 200, .inr (.inl (vp_updL (vp_updL (vp_updL (vp_updL (vp_updL (vp_updL wf30597 ((0 : Int32).toNatClampNeg) 0) ((1 : Int32).toNatClampNeg) 0) ((2 : Int32).toNatClampNeg) 0) ((3 : Int32).toNatClampNeg) 0) ((4 : Int32).toNatClampNeg) 0) ((5 : Int32).toNatClampNeg) 0)))), (h0, .inr (5, [.ref h1, .ref h2, .ref h3, .ref h4, .int 6])), (h4, .inr (8, [.ref h10, .int wp30598])), (h10, .inl (y 1, 3, .inr (.inl (fun _ => 0))))] H := hP
  replace hD : va_D A [(h1, .inr (8, [.ref h6, .int 6])), (h2, .inr (8, [.ref h7, .int wp30596])), (h7, .inl (y 1, 200, .inr (.inl (vp_updL (vp_updL (vp_updL (vp_updL (vp_updL (vp_updL wf30597 ((0 : Int32).toNatClampNeg) 0) ((1 : Int32).toNatClampNeg) 0) ((2 : Int32).toNatClampNeg) 0) ((3 : Int32).toNatClampNeg) 0) ((4 : Int32).toNatClampNeg) 0) ((5 : Int32).toNatClampNeg) 0)))), (h0, .inr (5, [.ref h1, .ref h2, .ref h3, .ref h4, .int 6])), (h4, .inr (8, [.ref h10, .int wp30598])), (h10, .inl (y 1, 3, .inr (.inl (fun _ => 0))))] := hD
  refine lv_iinc (v := 2) (lv' := [(2, .int 2), (1, .int 5), (0, .ref h0)]) hx hb dX5_findOut_65 hl (k := 0) rfl (by decide +kernel) (by decide) rfl ?_
  clear hl
  clear ls
  intro ls hl
  refine lv_goto (tgt := 54) hx hb dX5_findOut_68 (by decide) ?_
  refine lv_iload_n hx hb dX5_findOut_54 rfl (lv_at hl 0 rfl) ?_
  refine lv_iconst (v := 3) hx hb dX5_findOut_55 (by decide) ?_
  refine lv_icmp_ge (tgt := 71) hx hb dX5_findOut_56 (by decide) (fun c9 => absurd c9 (by decide +kernel)) (fun _ => ?_)
  refine lv_aload_n hx hb dX5_findOut_59 rfl (lv_at hl 2 rfl) ?_
  refine lv_iload_n hx hb dX5_findOut_60 rfl (lv_at hl 0 rfl) ?_
  refine lv_iload_n hx hb dX5_findOut_61 rfl (lv_at hl 1 rfl) ?_
  refine g_av (wr := [(h1, .inr (8, [.ref h6, .int 6])), (h2, .inr (8, [.ref h7, .int wp30596])), (h7, .inl (y 1, 200, .inr (.inl (vp_updL (vp_updL (vp_updL (vp_updL (vp_updL (vp_updL wf30597 ((0 : Int32).toNatClampNeg) 0) ((1 : Int32).toNatClampNeg) 0) ((2 : Int32).toNatClampNeg) 0) ((3 : Int32).toNatClampNeg) 0) ((4 : Int32).toNatClampNeg) 0) ((5 : Int32).toNatClampNeg) 0))))]) (va_runV (As := [.int 2, .int 5]) (rest := []) ⟨hx, hb, hml, hown, hg⟩ (k_X5_find_17 l D y aS H.size h0 h1 h2 h3 h4 6 h10 wp30598) (cwV 2 hg ggV_RX5_54_X5_find rfl rfl rfl (by decide +kernel) ⟨Nat.le_of_ble_eq_true rfl, Nat.le_of_ble_eq_true rfl⟩) (g_preV (q := (RX5, TX5, 5)) hK hP hD [3, 4, 5] rfl (by decide) (ci := 5) (q0 := 3) rfl rfl) rfl rfl hl.1 rfl (lv_room (Nat.le_of_ble_eq_true rfl)) dX5_findOut_62 ⟨Nat.le_of_ble_eq_true rfl, Nat.le_of_ble_eq_true rfl⟩) hP hD hS hA [3, 4, 5] [0, 1, 2] rfl rfl (by decide) (by decide) ?_
  clear hP hD hS H locs
  refine fun u H locs hq hP hD hS => ?_
  replace hP : va_P D vwCl [(h1, .inr (8, [.ref h6, .int 6])), (h2, .inr (8, [.ref h7, .int wp30596])), (h7, .inl (y 1, 200, .inr (.inl (vp_updL (vp_updL (vp_updL (vp_updL (vp_updL (vp_updL wf30597 ((0 : Int32).toNatClampNeg) 0) ((1 : Int32).toNatClampNeg) 0) ((2 : Int32).toNatClampNeg) 0) ((3 : Int32).toNatClampNeg) 0) ((4 : Int32).toNatClampNeg) 0) ((5 : Int32).toNatClampNeg) 0)))), (h0, .inr (5, [.ref h1, .ref h2, .ref h3, .ref h4, .int 6])), (h4, .inr (8, [.ref h10, .int wp30598])), (h10, .inl (y 1, 3, .inr (.inl (fun _ => 0))))] H := hP
  replace hD : va_D A [(h1, .inr (8, [.ref h6, .int 6])), (h2, .inr (8, [.ref h7, .int wp30596])), (h7, .inl (y 1, 200, .inr (.inl (vp_updL (vp_updL (vp_updL (vp_updL (vp_updL (vp_updL wf30597 ((0 : Int32).toNatClampNeg) 0) ((1 : Int32).toNatClampNeg) 0) ((2 : Int32).toNatClampNeg) 0) ((3 : Int32).toNatClampNeg) 0) ((4 : Int32).toNatClampNeg) 0) ((5 : Int32).toNatClampNeg) 0)))), (h0, .inr (5, [.ref h1, .ref h2, .ref h3, .ref h4, .int 6])), (h4, .inr (8, [.ref h10, .int wp30598])), (h10, .inl (y 1, 3, .inr (.inl (fun _ => 0))))] := hD
  refine lv_iinc (v := 3) (lv' := [(2, .int 3), (1, .int 5), (0, .ref h0)]) hx hb dX5_findOut_65 hl (k := 0) rfl (by decide +kernel) (by decide) rfl ?_
  clear hl
  clear ls
  intro ls hl
  refine lv_goto (tgt := 54) hx hb dX5_findOut_68 (by decide) ?_
  refine lv_iload_n hx hb dX5_findOut_54 rfl (lv_at hl 0 rfl) ?_
  refine lv_iconst (v := 3) hx hb dX5_findOut_55 (by decide) ?_
  refine lv_icmp_ge (tgt := 71) hx hb dX5_findOut_56 (by decide) (fun _ => ?_) (fun c9 => absurd c9 (by decide +kernel))
  refine lv_iinc (v := 6) (lv' := [(1, .int 6), (2, .int 3), (0, .ref h0)]) hx hb dX5_findOut_71 hl (k := 1) rfl (by decide +kernel) (by decide) rfl ?_
  clear hl
  clear ls
  intro ls hl
  refine lv_goto (tgt := 41) hx hb dX5_findOut_74 (by decide) ?_
  refine lv_iload_n hx hb dX5_findOut_41 rfl (lv_at hl 0 rfl) ?_
  refine lv_aload_n hx hb dX5_findOut_42 rfl (lv_at hl 2 rfl) ?_
  refine gm_get (D := D) (ci := 5) (v := .ref h1) (C := RX5) (T := TX5) (N := 5) hx hb hg inlX5 hown hK.1 hP 3 rfl rfl 0 (by decide) tX5_0 (hg _ gw_138) rfl dX5_findOut_43 ?_
  refine gm_get (D := D) (ci := 8) (v := .int 6) (C := RX8) (T := TX8) (N := 2) hx hb hg inlX8 hown hK.1 hP 0 rfl rfl 1 (by decide) tX8_1 (hg _ gw_1441) rfl dX5_findOut_46 ?_
  refine lv_icmp_ge (tgt := 77) hx hb dX5_findOut_49 (by decide) (fun _ => ?_) (fun c9 => absurd c9 (by decide +kernel))
  exact g_vret hx hb hr hlocks () (hP.sub [3, 0, 1, 2, 4, 5] rfl) (hD.sub [3, 0, 1, 2, 4, 5] (by decide +kernel) rfl) hS trivial (Nat.le_of_ble_eq_true rfl) (Nat.le_of_ble_eq_true rfl) dX5_findOut_77
set_option maxRecDepth 100000 in
set_option maxHeartbeats 4000000 in
theorem k_X5_append_5 (l : Launch) (D : va_G) (y : Nat → ClassId) (aS : Nat → Nat) (sz : Nat) (h0 : Nat) (p1 : Int32) (h2 : Nat) (h3 : Nat) (h4 : Nat) (h5 : Nat) (h6 : Nat) (wf30624 : Nat → Int64) (h8 : Nat) (wp30625 : Int32) (wf30626 : Nat → Int64) (h11 : Nat) (wp30627 : Int32) : Met l yX5_append (Cond.code yX5_append cX5_append 6 (some .int) :: wsL_law) ({ frames := 3, cells := 0, slots := 0, locals := 68 } : Room) (va_Pc [.ref h0, .int p1, .int 6] (gI D y aS [(h0, .inr (5, [.ref h2, .ref h3, .ref h4, .ref h5, .int 0])), (h2, .inr (8, [.ref h6, .int 0])), (h6, .inl (y 1, 200, .inr (.inl wf30624))), (h3, .inr (8, [.ref h8, .int wp30625])), (h8, .inl (y 1, 200, .inr (.inl wf30626))), (h5, .inr (8, [.ref h11, .int wp30627])), (h11, .inl (y 1, 3, .inr (.inl (fun _ => 0))))] sz)) (va_Qi (fun (r : Int32) (u : Unit) => 6 = r) (fun u => gO D (va_A [(h0, .inr (5, [.ref h2, .ref h3, .ref h4, .ref h5, .int 0])), (h2, .inr (8, [.ref h6, .int 0])), (h6, .inl (y 1, 200, .inr (.inl wf30624))), (h3, .inr (8, [.ref h8, .int wp30625])), (h8, .inl (y 1, 200, .inr (.inl wf30626))), (h5, .inr (8, [.ref h11, .int wp30627])), (h11, .inl (y 1, 3, .inr (.inl (fun _ => 0))))] sz) [(h0, .inr (5, [.ref h2, .ref h3, .ref h4, .ref h5, .int 6])), (h2, .inr (8, [.ref h6, .int 6])), (h6, .inl (y 1, 200, .inr (.inl (vp_updL (vp_updL (vp_updL (vp_updL (vp_updL (vp_updL (vp_updL (vp_updL (vp_updL (vp_updL (vp_updL (vp_updL wf30624 ((0 : Int32).toNatClampNeg) 0) ((1 : Int32).toNatClampNeg) 0) ((2 : Int32).toNatClampNeg) 0) ((3 : Int32).toNatClampNeg) 0) ((4 : Int32).toNatClampNeg) 0) ((5 : Int32).toNatClampNeg) 0) ((5 : Int32).toNatClampNeg) ((p1 - p1 / 10 * 10).toInt64)) ((4 : Int32).toNatClampNeg) (((p1 / 10) - (p1 / 10) / 10 * 10).toInt64)) ((3 : Int32).toNatClampNeg) ((((p1 / 10) / 10) - ((p1 / 10) / 10) / 10 * 10).toInt64)) ((2 : Int32).toNatClampNeg) (((((p1 / 10) / 10) / 10) - (((p1 / 10) / 10) / 10) / 10 * 10).toInt64)) ((1 : Int32).toNatClampNeg) ((((((p1 / 10) / 10) / 10) / 10) - ((((p1 / 10) / 10) / 10) / 10) / 10 * 10).toInt64)) ((0 : Int32).toNatClampNeg) (((((((p1 / 10) / 10) / 10) / 10) / 10) - (((((p1 / 10) / 10) / 10) / 10) / 10) / 10 * 10).toInt64))))), (h3, .inr (8, [.ref h8, .int wp30625])), (h8, .inl (y 1, 200, .inr (.inl (vp_updL (vp_updL (vp_updL (vp_updL (vp_updL (vp_updL wf30626 ((0 : Int32).toNatClampNeg) 0) ((1 : Int32).toNatClampNeg) 0) ((2 : Int32).toNatClampNeg) 0) ((3 : Int32).toNatClampNeg) 0) ((4 : Int32).toNatClampNeg) 0) ((5 : Int32).toNatClampNeg) 0)))), (h5, .inr (8, [.ref h11, .int wp30627])), (h11, .inl (y 1, 3, .inr (.inl (fun _ => 0))))]) (va_A [(h0, .inr (5, [.ref h2, .ref h3, .ref h4, .ref h5, .int 0])), (h2, .inr (8, [.ref h6, .int 0])), (h6, .inl (y 1, 200, .inr (.inl wf30624))), (h3, .inr (8, [.ref h8, .int wp30625])), (h8, .inl (y 1, 200, .inr (.inl wf30626))), (h5, .inr (8, [.ref h11, .int wp30627])), (h11, .inl (y 1, 3, .inr (.inl (fun _ => 0))))] sz)) 0 0 (va_A [(h0, .inr (5, [.ref h2, .ref h3, .ref h4, .ref h5, .int 0])), (h2, .inr (8, [.ref h6, .int 0])), (h6, .inl (y 1, 200, .inr (.inl wf30624))), (h3, .inr (8, [.ref h8, .int wp30625])), (h8, .inl (y 1, 200, .inr (.inl wf30626))), (h5, .inr (8, [.ref h11, .int wp30627])), (h11, .inl (y 1, 3, .inr (.inl (fun _ => 0))))] sz) := by
  refine g_of (by decide) (Nat.le_of_ble_eq_true rfl) ?_
  intro p e s m below meth c ls A hx hb hr hml hown hg hlocks hin hsz hK hP hD hS hA hAe hl
  rw [← hAe]
  replace hown : s.vm.findClass RX5 = some m.cls := hown
  replace hl : lv_has ls 6 [(0, .ref h0), (1, .int p1), (2, .int 6)] := hl
  refine lv_aload_n hx hb dX5_append_0 rfl (lv_at hl 0 rfl) ?_
  refine gm_get (D := D) (ci := 5) (v := .ref h2) (C := RX5) (T := TX5) (N := 5) hx hb hg inlX5 hown hK.1 hP 0 rfl rfl 0 (by decide) tX5_0 (hg _ gw_138) rfl dX5_append_1 ?_
  refine gm_get (D := D) (ci := 8) (v := .int 0) (C := RX8) (T := TX8) (N := 2) hx hb hg inlX8 hown hK.1 hP 1 rfl rfl 1 (by decide) tX8_1 (hg _ gw_1441) rfl dX5_append_4 ?_
  refine lv_istore_n (lv' := [(3, .int 0), (0, .ref h0), (1, .int p1), (2, .int 6)]) hx hb dX5_append_7 rfl hl (by decide) rfl ?_
  clear hl
  clear ls
  intro ls hl
  refine lv_aload_n hx hb dX5_append_8 rfl (lv_at hl 1 rfl) ?_
  refine gm_get (D := D) (ci := 5) (v := .ref h2) (C := RX5) (T := TX5) (N := 5) hx hb hg inlX5 hown hK.1 hP 0 rfl rfl 0 (by decide) tX5_0 (hg _ gw_138) rfl dX5_append_9 ?_
  refine lv_iload_n hx hb dX5_append_12 rfl (lv_at hl 3 rfl) ?_
  refine lv_lconst (v := 0) hx hb dX5_append_13 (by decide) ?_
  refine g_av (wr := [(h0, .inr (5, [.ref h2, .ref h3, .ref h4, .ref h5, .int 0])), (h3, .inr (8, [.ref h8, .int wp30625])), (h8, .inl (y 1, 200, .inr (.inl wf30626))), (h5, .inr (8, [.ref h11, .int wp30627])), (h11, .inl (y 1, 3, .inr (.inl (fun _ => 0))))]) (va_runV (As := [.int 6, .long 0]) (rest := []) ⟨hx, hb, hml, hown, hg⟩ (k_X8_addMany_9 l D y aS s.heap.size h2 h6 wf30624) (cwV 2 hg ggV_RX5_44_X8_addMany rfl rfl rfl (by decide +kernel) ⟨Nat.le_of_ble_eq_true rfl, Nat.le_of_ble_eq_true rfl⟩) (g_preV (q := (RX8, TX8, 2)) hK hP hD [1, 2] rfl (by decide) (ci := 8) (q0 := 1) rfl rfl) rfl rfl hl.1 rfl (lv_room (Nat.le_of_ble_eq_true rfl)) dX5_append_14 ⟨Nat.le_of_ble_eq_true rfl, Nat.le_of_ble_eq_true rfl⟩) hP hD hS hA [1, 2] [0, 3, 4, 5, 6] rfl rfl (by decide) (by decide) ?_
  clear hP hD hS
  refine fun u H locs hq hP hD hS => ?_
  replace hP : va_P D vwCl [(h0, .inr (5, [.ref h2, .ref h3, .ref h4, .ref h5, .int 0])), (h3, .inr (8, [.ref h8, .int wp30625])), (h8, .inl (y 1, 200, .inr (.inl wf30626))), (h5, .inr (8, [.ref h11, .int wp30627])), (h11, .inl (y 1, 3, .inr (.inl (fun _ => 0)))), (h2, .inr (8, [.ref h6, .int 6])), (h6, .inl (y 1, 200, .inr (.inl (vp_updL (vp_updL (vp_updL (vp_updL (vp_updL (vp_updL wf30624 ((0 : Int32).toNatClampNeg) 0) ((1 : Int32).toNatClampNeg) 0) ((2 : Int32).toNatClampNeg) 0) ((3 : Int32).toNatClampNeg) 0) ((4 : Int32).toNatClampNeg) 0) ((5 : Int32).toNatClampNeg) 0))))] H := hP
  replace hD : va_D A [(h0, .inr (5, [.ref h2, .ref h3, .ref h4, .ref h5, .int 0])), (h3, .inr (8, [.ref h8, .int wp30625])), (h8, .inl (y 1, 200, .inr (.inl wf30626))), (h5, .inr (8, [.ref h11, .int wp30627])), (h11, .inl (y 1, 3, .inr (.inl (fun _ => 0)))), (h2, .inr (8, [.ref h6, .int 6])), (h6, .inl (y 1, 200, .inr (.inl (vp_updL (vp_updL (vp_updL (vp_updL (vp_updL (vp_updL wf30624 ((0 : Int32).toNatClampNeg) 0) ((1 : Int32).toNatClampNeg) 0) ((2 : Int32).toNatClampNeg) 0) ((3 : Int32).toNatClampNeg) 0) ((4 : Int32).toNatClampNeg) 0) ((5 : Int32).toNatClampNeg) 0))))] := hD
  refine lv_iload_n hx hb dX5_append_17 rfl (lv_at hl 2 rfl) ?_
  refine lv_istore (lv' := [(4, .int p1), (3, .int 0), (0, .ref h0), (1, .int p1), (2, .int 6)]) hx hb dX5_append_18 hl (by decide) rfl ?_
  clear hl
  clear ls
  intro ls hl
  refine lv_iload_n hx hb dX5_append_20 rfl (lv_at hl 1 rfl) ?_
  refine lv_iload_n hx hb dX5_append_21 rfl (lv_at hl 4 rfl) ?_
  refine lv_iadd hx hb dX5_append_22 ?_
  refine g_fi (v := 6) (by decide +kernel) ?_
  refine lv_iconst (v := 1) hx hb dX5_append_23 (by decide) ?_
  refine lv_isub hx hb dX5_append_24 ?_
  refine g_fi (v := 5) (by decide +kernel) ?_
  refine lv_istore (lv' := [(5, .int 5), (4, .int p1), (3, .int 0), (0, .ref h0), (1, .int p1), (2, .int 6)]) hx hb dX5_append_25 hl (by decide) rfl ?_
  clear hl
  clear ls
  intro ls hl
  refine lv_iload hx hb dX5_append_27 (lv_at hl 0 rfl) ?_
  refine lv_iload_n hx hb dX5_append_29 rfl (lv_at hl 2 rfl) ?_
  refine lv_icmp_lt (tgt := 61) hx hb dX5_append_30 (by decide) (fun c9 => absurd c9 (by decide +kernel)) (fun _ => ?_)
  refine lv_aload_n hx hb dX5_append_33 rfl (lv_at hl 3 rfl) ?_
  refine gm_get (D := D) (ci := 5) (v := .ref h2) (C := RX5) (T := TX5) (N := 5) hx hb hg inlX5 hown hK.1 hP 0 rfl rfl 0 (by decide) tX5_0 (hg _ gw_138) rfl dX5_append_34 ?_
  refine lv_iload hx hb dX5_append_37 (lv_at hl 0 rfl) ?_
  refine lv_iload hx hb dX5_append_39 (lv_at hl 1 rfl) ?_
  refine lv_bipush (v := 10) hx hb dX5_append_41 (by decide +kernel) ?_
  refine lv_irem hx hb dX5_append_43 (by decide +kernel) ?_
  refine lv_i2l (v := ((p1 - p1 / 10 * 10).toInt64)) hx hb dX5_append_44 rfl ?_
  refine g_av (wr := [(h0, .inr (5, [.ref h2, .ref h3, .ref h4, .ref h5, .int 0])), (h3, .inr (8, [.ref h8, .int wp30625])), (h8, .inl (y 1, 200, .inr (.inl wf30626))), (h5, .inr (8, [.ref h11, .int wp30627])), (h11, .inl (y 1, 3, .inr (.inl (fun _ => 0))))]) (va_runV (As := [.int 5, .long ((p1 - p1 / 10 * 10).toInt64)]) (rest := []) ⟨hx, hb, hml, hown, hg⟩ (k_X8_set_50 l D y aS H.size h2 ((p1 - p1 / 10 * 10).toInt64) h6 6 (vp_updL (vp_updL (vp_updL (vp_updL (vp_updL (vp_updL wf30624 ((0 : Int32).toNatClampNeg) 0) ((1 : Int32).toNatClampNeg) 0) ((2 : Int32).toNatClampNeg) 0) ((3 : Int32).toNatClampNeg) 0) ((4 : Int32).toNatClampNeg) 0) ((5 : Int32).toNatClampNeg) 0)) (cwV 2 hg ggV_RX5_29_X8_set rfl rfl rfl (by decide +kernel) ⟨Nat.le_of_ble_eq_true rfl, Nat.le_of_ble_eq_true rfl⟩) (g_preV (q := (RX8, TX8, 2)) hK hP hD [5, 6] rfl (by decide) (ci := 8) (q0 := 5) rfl rfl) rfl rfl hl.1 rfl (lv_room (Nat.le_of_ble_eq_true rfl)) dX5_append_45 ⟨Nat.le_of_ble_eq_true rfl, Nat.le_of_ble_eq_true rfl⟩) hP hD hS hA [5, 6] [0, 1, 2, 3, 4] rfl rfl (by decide) (by decide) ?_
  clear hP hD hS H locs
  refine fun u H locs hq hP hD hS => ?_
  replace hP : va_P D vwCl [(h0, .inr (5, [.ref h2, .ref h3, .ref h4, .ref h5, .int 0])), (h3, .inr (8, [.ref h8, .int wp30625])), (h8, .inl (y 1, 200, .inr (.inl wf30626))), (h5, .inr (8, [.ref h11, .int wp30627])), (h11, .inl (y 1, 3, .inr (.inl (fun _ => 0)))), (h2, .inr (8, [.ref h6, .int 6])), (h6, .inl (y 1, 200, .inr (.inl (vp_updL (vp_updL (vp_updL (vp_updL (vp_updL (vp_updL (vp_updL wf30624 ((0 : Int32).toNatClampNeg) 0) ((1 : Int32).toNatClampNeg) 0) ((2 : Int32).toNatClampNeg) 0) ((3 : Int32).toNatClampNeg) 0) ((4 : Int32).toNatClampNeg) 0) ((5 : Int32).toNatClampNeg) 0) ((5 : Int32).toNatClampNeg) ((p1 - p1 / 10 * 10).toInt64)))))] H := hP
  replace hD : va_D A [(h0, .inr (5, [.ref h2, .ref h3, .ref h4, .ref h5, .int 0])), (h3, .inr (8, [.ref h8, .int wp30625])), (h8, .inl (y 1, 200, .inr (.inl wf30626))), (h5, .inr (8, [.ref h11, .int wp30627])), (h11, .inl (y 1, 3, .inr (.inl (fun _ => 0)))), (h2, .inr (8, [.ref h6, .int 6])), (h6, .inl (y 1, 200, .inr (.inl (vp_updL (vp_updL (vp_updL (vp_updL (vp_updL (vp_updL (vp_updL wf30624 ((0 : Int32).toNatClampNeg) 0) ((1 : Int32).toNatClampNeg) 0) ((2 : Int32).toNatClampNeg) 0) ((3 : Int32).toNatClampNeg) 0) ((4 : Int32).toNatClampNeg) 0) ((5 : Int32).toNatClampNeg) 0) ((5 : Int32).toNatClampNeg) ((p1 - p1 / 10 * 10).toInt64)))))] := hD
  refine lv_iload hx hb dX5_append_48 (lv_at hl 1 rfl) ?_
  refine lv_bipush (v := 10) hx hb dX5_append_50 (by decide +kernel) ?_
  refine lv_idiv hx hb dX5_append_52 (by decide +kernel) ?_
  refine lv_istore (lv' := [(4, .int (p1 / 10)), (5, .int 5), (3, .int 0), (0, .ref h0), (1, .int p1), (2, .int 6)]) hx hb dX5_append_53 hl (by decide) rfl ?_
  clear hl
  clear ls
  intro ls hl
  refine lv_iinc (v := 4) (lv' := [(5, .int 4), (4, .int (p1 / 10)), (3, .int 0), (0, .ref h0), (1, .int p1), (2, .int 6)]) hx hb dX5_append_55 hl (k := 1) rfl (by decide +kernel) (by decide) rfl ?_
  clear hl
  clear ls
  intro ls hl
  refine lv_goto (tgt := 27) hx hb dX5_append_58 (by decide) ?_
  refine lv_iload hx hb dX5_append_27 (lv_at hl 0 rfl) ?_
  refine lv_iload_n hx hb dX5_append_29 rfl (lv_at hl 2 rfl) ?_
  refine lv_icmp_lt (tgt := 61) hx hb dX5_append_30 (by decide) (fun c9 => absurd c9 (by decide +kernel)) (fun _ => ?_)
  refine lv_aload_n hx hb dX5_append_33 rfl (lv_at hl 3 rfl) ?_
  refine gm_get (D := D) (ci := 5) (v := .ref h2) (C := RX5) (T := TX5) (N := 5) hx hb hg inlX5 hown hK.1 hP 0 rfl rfl 0 (by decide) tX5_0 (hg _ gw_138) rfl dX5_append_34 ?_
  refine lv_iload hx hb dX5_append_37 (lv_at hl 0 rfl) ?_
  refine lv_iload hx hb dX5_append_39 (lv_at hl 1 rfl) ?_
  refine lv_bipush (v := 10) hx hb dX5_append_41 (by decide +kernel) ?_
  refine lv_irem hx hb dX5_append_43 (by decide +kernel) ?_
  refine lv_i2l (v := (((p1 / 10) - (p1 / 10) / 10 * 10).toInt64)) hx hb dX5_append_44 rfl ?_
  refine g_av (wr := [(h0, .inr (5, [.ref h2, .ref h3, .ref h4, .ref h5, .int 0])), (h3, .inr (8, [.ref h8, .int wp30625])), (h8, .inl (y 1, 200, .inr (.inl wf30626))), (h5, .inr (8, [.ref h11, .int wp30627])), (h11, .inl (y 1, 3, .inr (.inl (fun _ => 0))))]) (va_runV (As := [.int 4, .long (((p1 / 10) - (p1 / 10) / 10 * 10).toInt64)]) (rest := []) ⟨hx, hb, hml, hown, hg⟩ (k_X8_set_49 l D y aS H.size h2 (((p1 / 10) - (p1 / 10) / 10 * 10).toInt64) h6 6 (vp_updL (vp_updL (vp_updL (vp_updL (vp_updL (vp_updL (vp_updL wf30624 ((0 : Int32).toNatClampNeg) 0) ((1 : Int32).toNatClampNeg) 0) ((2 : Int32).toNatClampNeg) 0) ((3 : Int32).toNatClampNeg) 0) ((4 : Int32).toNatClampNeg) 0) ((5 : Int32).toNatClampNeg) 0) ((5 : Int32).toNatClampNeg) ((p1 - p1 / 10 * 10).toInt64))) (cwV 2 hg ggV_RX5_29_X8_set rfl rfl rfl (by decide +kernel) ⟨Nat.le_of_ble_eq_true rfl, Nat.le_of_ble_eq_true rfl⟩) (g_preV (q := (RX8, TX8, 2)) hK hP hD [5, 6] rfl (by decide) (ci := 8) (q0 := 5) rfl rfl) rfl rfl hl.1 rfl (lv_room (Nat.le_of_ble_eq_true rfl)) dX5_append_45 ⟨Nat.le_of_ble_eq_true rfl, Nat.le_of_ble_eq_true rfl⟩) hP hD hS hA [5, 6] [0, 1, 2, 3, 4] rfl rfl (by decide) (by decide) ?_
  clear hP hD hS H locs
  refine fun u H locs hq hP hD hS => ?_
  replace hP : va_P D vwCl [(h0, .inr (5, [.ref h2, .ref h3, .ref h4, .ref h5, .int 0])), (h3, .inr (8, [.ref h8, .int wp30625])), (h8, .inl (y 1, 200, .inr (.inl wf30626))), (h5, .inr (8, [.ref h11, .int wp30627])), (h11, .inl (y 1, 3, .inr (.inl (fun _ => 0)))), (h2, .inr (8, [.ref h6, .int 6])), (h6, .inl (y 1, 200, .inr (.inl (vp_updL (vp_updL (vp_updL (vp_updL (vp_updL (vp_updL (vp_updL (vp_updL wf30624 ((0 : Int32).toNatClampNeg) 0) ((1 : Int32).toNatClampNeg) 0) ((2 : Int32).toNatClampNeg) 0) ((3 : Int32).toNatClampNeg) 0) ((4 : Int32).toNatClampNeg) 0) ((5 : Int32).toNatClampNeg) 0) ((5 : Int32).toNatClampNeg) ((p1 - p1 / 10 * 10).toInt64)) ((4 : Int32).toNatClampNeg) (((p1 / 10) - (p1 / 10) / 10 * 10).toInt64)))))] H := hP
  replace hD : va_D A [(h0, .inr (5, [.ref h2, .ref h3, .ref h4, .ref h5, .int 0])), (h3, .inr (8, [.ref h8, .int wp30625])), (h8, .inl (y 1, 200, .inr (.inl wf30626))), (h5, .inr (8, [.ref h11, .int wp30627])), (h11, .inl (y 1, 3, .inr (.inl (fun _ => 0)))), (h2, .inr (8, [.ref h6, .int 6])), (h6, .inl (y 1, 200, .inr (.inl (vp_updL (vp_updL (vp_updL (vp_updL (vp_updL (vp_updL (vp_updL (vp_updL wf30624 ((0 : Int32).toNatClampNeg) 0) ((1 : Int32).toNatClampNeg) 0) ((2 : Int32).toNatClampNeg) 0) ((3 : Int32).toNatClampNeg) 0) ((4 : Int32).toNatClampNeg) 0) ((5 : Int32).toNatClampNeg) 0) ((5 : Int32).toNatClampNeg) ((p1 - p1 / 10 * 10).toInt64)) ((4 : Int32).toNatClampNeg) (((p1 / 10) - (p1 / 10) / 10 * 10).toInt64)))))] := hD
  refine lv_iload hx hb dX5_append_48 (lv_at hl 1 rfl) ?_
  refine lv_bipush (v := 10) hx hb dX5_append_50 (by decide +kernel) ?_
  refine lv_idiv hx hb dX5_append_52 (by decide +kernel) ?_
  refine lv_istore (lv' := [(4, .int ((p1 / 10) / 10)), (5, .int 4), (3, .int 0), (0, .ref h0), (1, .int p1), (2, .int 6)]) hx hb dX5_append_53 hl (by decide) rfl ?_
  clear hl
  clear ls
  intro ls hl
  refine lv_iinc (v := 3) (lv' := [(5, .int 3), (4, .int ((p1 / 10) / 10)), (3, .int 0), (0, .ref h0), (1, .int p1), (2, .int 6)]) hx hb dX5_append_55 hl (k := 1) rfl (by decide +kernel) (by decide) rfl ?_
  clear hl
  clear ls
  intro ls hl
  refine lv_goto (tgt := 27) hx hb dX5_append_58 (by decide) ?_
  refine lv_iload hx hb dX5_append_27 (lv_at hl 0 rfl) ?_
  refine lv_iload_n hx hb dX5_append_29 rfl (lv_at hl 2 rfl) ?_
  refine lv_icmp_lt (tgt := 61) hx hb dX5_append_30 (by decide) (fun c9 => absurd c9 (by decide +kernel)) (fun _ => ?_)
  refine lv_aload_n hx hb dX5_append_33 rfl (lv_at hl 3 rfl) ?_
  refine gm_get (D := D) (ci := 5) (v := .ref h2) (C := RX5) (T := TX5) (N := 5) hx hb hg inlX5 hown hK.1 hP 0 rfl rfl 0 (by decide) tX5_0 (hg _ gw_138) rfl dX5_append_34 ?_
  refine lv_iload hx hb dX5_append_37 (lv_at hl 0 rfl) ?_
  refine lv_iload hx hb dX5_append_39 (lv_at hl 1 rfl) ?_
  refine lv_bipush (v := 10) hx hb dX5_append_41 (by decide +kernel) ?_
  refine lv_irem hx hb dX5_append_43 (by decide +kernel) ?_
  refine lv_i2l (v := ((((p1 / 10) / 10) - ((p1 / 10) / 10) / 10 * 10).toInt64)) hx hb dX5_append_44 rfl ?_
  refine g_av (wr := [(h0, .inr (5, [.ref h2, .ref h3, .ref h4, .ref h5, .int 0])), (h3, .inr (8, [.ref h8, .int wp30625])), (h8, .inl (y 1, 200, .inr (.inl wf30626))), (h5, .inr (8, [.ref h11, .int wp30627])), (h11, .inl (y 1, 3, .inr (.inl (fun _ => 0))))]) (va_runV (As := [.int 3, .long ((((p1 / 10) / 10) - ((p1 / 10) / 10) / 10 * 10).toInt64)]) (rest := []) ⟨hx, hb, hml, hown, hg⟩ (k_X8_set_48 l D y aS H.size h2 ((((p1 / 10) / 10) - ((p1 / 10) / 10) / 10 * 10).toInt64) h6 6 (vp_updL (vp_updL (vp_updL (vp_updL (vp_updL (vp_updL (vp_updL (vp_updL wf30624 ((0 : Int32).toNatClampNeg) 0) ((1 : Int32).toNatClampNeg) 0) ((2 : Int32).toNatClampNeg) 0) ((3 : Int32).toNatClampNeg) 0) ((4 : Int32).toNatClampNeg) 0) ((5 : Int32).toNatClampNeg) 0) ((5 : Int32).toNatClampNeg) ((p1 - p1 / 10 * 10).toInt64)) ((4 : Int32).toNatClampNeg) (((p1 / 10) - (p1 / 10) / 10 * 10).toInt64))) (cwV 2 hg ggV_RX5_29_X8_set rfl rfl rfl (by decide +kernel) ⟨Nat.le_of_ble_eq_true rfl, Nat.le_of_ble_eq_true rfl⟩) (g_preV (q := (RX8, TX8, 2)) hK hP hD [5, 6] rfl (by decide) (ci := 8) (q0 := 5) rfl rfl) rfl rfl hl.1 rfl (lv_room (Nat.le_of_ble_eq_true rfl)) dX5_append_45 ⟨Nat.le_of_ble_eq_true rfl, Nat.le_of_ble_eq_true rfl⟩) hP hD hS hA [5, 6] [0, 1, 2, 3, 4] rfl rfl (by decide) (by decide) ?_
  clear hP hD hS H locs
  refine fun u H locs hq hP hD hS => ?_
  replace hP : va_P D vwCl [(h0, .inr (5, [.ref h2, .ref h3, .ref h4, .ref h5, .int 0])), (h3, .inr (8, [.ref h8, .int wp30625])), (h8, .inl (y 1, 200, .inr (.inl wf30626))), (h5, .inr (8, [.ref h11, .int wp30627])), (h11, .inl (y 1, 3, .inr (.inl (fun _ => 0)))), (h2, .inr (8, [.ref h6, .int 6])), (h6, .inl (y 1, 200, .inr (.inl (vp_updL (vp_updL (vp_updL (vp_updL (vp_updL (vp_updL (vp_updL (vp_updL (vp_updL wf30624 ((0 : Int32).toNatClampNeg) 0) ((1 : Int32).toNatClampNeg) 0) ((2 : Int32).toNatClampNeg) 0) ((3 : Int32).toNatClampNeg) 0) ((4 : Int32).toNatClampNeg) 0) ((5 : Int32).toNatClampNeg) 0) ((5 : Int32).toNatClampNeg) ((p1 - p1 / 10 * 10).toInt64)) ((4 : Int32).toNatClampNeg) (((p1 / 10) - (p1 / 10) / 10 * 10).toInt64)) ((3 : Int32).toNatClampNeg) ((((p1 / 10) / 10) - ((p1 / 10) / 10) / 10 * 10).toInt64)))))] H := hP
  replace hD : va_D A [(h0, .inr (5, [.ref h2, .ref h3, .ref h4, .ref h5, .int 0])), (h3, .inr (8, [.ref h8, .int wp30625])), (h8, .inl (y 1, 200, .inr (.inl wf30626))), (h5, .inr (8, [.ref h11, .int wp30627])), (h11, .inl (y 1, 3, .inr (.inl (fun _ => 0)))), (h2, .inr (8, [.ref h6, .int 6])), (h6, .inl (y 1, 200, .inr (.inl (vp_updL (vp_updL (vp_updL (vp_updL (vp_updL (vp_updL (vp_updL (vp_updL (vp_updL wf30624 ((0 : Int32).toNatClampNeg) 0) ((1 : Int32).toNatClampNeg) 0) ((2 : Int32).toNatClampNeg) 0) ((3 : Int32).toNatClampNeg) 0) ((4 : Int32).toNatClampNeg) 0) ((5 : Int32).toNatClampNeg) 0) ((5 : Int32).toNatClampNeg) ((p1 - p1 / 10 * 10).toInt64)) ((4 : Int32).toNatClampNeg) (((p1 / 10) - (p1 / 10) / 10 * 10).toInt64)) ((3 : Int32).toNatClampNeg) ((((p1 / 10) / 10) - ((p1 / 10) / 10) / 10 * 10).toInt64)))))] := hD
  refine lv_iload hx hb dX5_append_48 (lv_at hl 1 rfl) ?_
  refine lv_bipush (v := 10) hx hb dX5_append_50 (by decide +kernel) ?_
  refine lv_idiv hx hb dX5_append_52 (by decide +kernel) ?_
  refine lv_istore (lv' := [(4, .int (((p1 / 10) / 10) / 10)), (5, .int 3), (3, .int 0), (0, .ref h0), (1, .int p1), (2, .int 6)]) hx hb dX5_append_53 hl (by decide) rfl ?_
  clear hl
  clear ls
  intro ls hl
  refine lv_iinc (v := 2) (lv' := [(5, .int 2), (4, .int (((p1 / 10) / 10) / 10)), (3, .int 0), (0, .ref h0), (1, .int p1), (2, .int 6)]) hx hb dX5_append_55 hl (k := 1) rfl (by decide +kernel) (by decide) rfl ?_
  clear hl
  clear ls
  intro ls hl
  refine lv_goto (tgt := 27) hx hb dX5_append_58 (by decide) ?_
  refine lv_iload hx hb dX5_append_27 (lv_at hl 0 rfl) ?_
  refine lv_iload_n hx hb dX5_append_29 rfl (lv_at hl 2 rfl) ?_
  refine lv_icmp_lt (tgt := 61) hx hb dX5_append_30 (by decide) (fun c9 => absurd c9 (by decide +kernel)) (fun _ => ?_)
  refine lv_aload_n hx hb dX5_append_33 rfl (lv_at hl 3 rfl) ?_
  refine gm_get (D := D) (ci := 5) (v := .ref h2) (C := RX5) (T := TX5) (N := 5) hx hb hg inlX5 hown hK.1 hP 0 rfl rfl 0 (by decide) tX5_0 (hg _ gw_138) rfl dX5_append_34 ?_
  refine lv_iload hx hb dX5_append_37 (lv_at hl 0 rfl) ?_
  refine lv_iload hx hb dX5_append_39 (lv_at hl 1 rfl) ?_
  refine lv_bipush (v := 10) hx hb dX5_append_41 (by decide +kernel) ?_
  refine lv_irem hx hb dX5_append_43 (by decide +kernel) ?_
  refine lv_i2l (v := (((((p1 / 10) / 10) / 10) - (((p1 / 10) / 10) / 10) / 10 * 10).toInt64)) hx hb dX5_append_44 rfl ?_
  refine g_av (wr := [(h0, .inr (5, [.ref h2, .ref h3, .ref h4, .ref h5, .int 0])), (h3, .inr (8, [.ref h8, .int wp30625])), (h8, .inl (y 1, 200, .inr (.inl wf30626))), (h5, .inr (8, [.ref h11, .int wp30627])), (h11, .inl (y 1, 3, .inr (.inl (fun _ => 0))))]) (va_runV (As := [.int 2, .long (((((p1 / 10) / 10) / 10) - (((p1 / 10) / 10) / 10) / 10 * 10).toInt64)]) (rest := []) ⟨hx, hb, hml, hown, hg⟩ (k_X8_set_47 l D y aS H.size h2 (((((p1 / 10) / 10) / 10) - (((p1 / 10) / 10) / 10) / 10 * 10).toInt64) h6 6 (vp_updL (vp_updL (vp_updL (vp_updL (vp_updL (vp_updL (vp_updL (vp_updL (vp_updL wf30624 ((0 : Int32).toNatClampNeg) 0) ((1 : Int32).toNatClampNeg) 0) ((2 : Int32).toNatClampNeg) 0) ((3 : Int32).toNatClampNeg) 0) ((4 : Int32).toNatClampNeg) 0) ((5 : Int32).toNatClampNeg) 0) ((5 : Int32).toNatClampNeg) ((p1 - p1 / 10 * 10).toInt64)) ((4 : Int32).toNatClampNeg) (((p1 / 10) - (p1 / 10) / 10 * 10).toInt64)) ((3 : Int32).toNatClampNeg) ((((p1 / 10) / 10) - ((p1 / 10) / 10) / 10 * 10).toInt64))) (cwV 2 hg ggV_RX5_29_X8_set rfl rfl rfl (by decide +kernel) ⟨Nat.le_of_ble_eq_true rfl, Nat.le_of_ble_eq_true rfl⟩) (g_preV (q := (RX8, TX8, 2)) hK hP hD [5, 6] rfl (by decide) (ci := 8) (q0 := 5) rfl rfl) rfl rfl hl.1 rfl (lv_room (Nat.le_of_ble_eq_true rfl)) dX5_append_45 ⟨Nat.le_of_ble_eq_true rfl, Nat.le_of_ble_eq_true rfl⟩) hP hD hS hA [5, 6] [0, 1, 2, 3, 4] rfl rfl (by decide) (by decide) ?_
  clear hP hD hS H locs
  refine fun u H locs hq hP hD hS => ?_
  replace hP : va_P D vwCl [(h0, .inr (5, [.ref h2, .ref h3, .ref h4, .ref h5, .int 0])), (h3, .inr (8, [.ref h8, .int wp30625])), (h8, .inl (y 1, 200, .inr (.inl wf30626))), (h5, .inr (8, [.ref h11, .int wp30627])), (h11, .inl (y 1, 3, .inr (.inl (fun _ => 0)))), (h2, .inr (8, [.ref h6, .int 6])), (h6, .inl (y 1, 200, .inr (.inl (vp_updL (vp_updL (vp_updL (vp_updL (vp_updL (vp_updL (vp_updL (vp_updL (vp_updL (vp_updL wf30624 ((0 : Int32).toNatClampNeg) 0) ((1 : Int32).toNatClampNeg) 0) ((2 : Int32).toNatClampNeg) 0) ((3 : Int32).toNatClampNeg) 0) ((4 : Int32).toNatClampNeg) 0) ((5 : Int32).toNatClampNeg) 0) ((5 : Int32).toNatClampNeg) ((p1 - p1 / 10 * 10).toInt64)) ((4 : Int32).toNatClampNeg) (((p1 / 10) - (p1 / 10) / 10 * 10).toInt64)) ((3 : Int32).toNatClampNeg) ((((p1 / 10) / 10) - ((p1 / 10) / 10) / 10 * 10).toInt64)) ((2 : Int32).toNatClampNeg) (((((p1 / 10) / 10) / 10) - (((p1 / 10) / 10) / 10) / 10 * 10).toInt64)))))] H := hP
  replace hD : va_D A [(h0, .inr (5, [.ref h2, .ref h3, .ref h4, .ref h5, .int 0])), (h3, .inr (8, [.ref h8, .int wp30625])), (h8, .inl (y 1, 200, .inr (.inl wf30626))), (h5, .inr (8, [.ref h11, .int wp30627])), (h11, .inl (y 1, 3, .inr (.inl (fun _ => 0)))), (h2, .inr (8, [.ref h6, .int 6])), (h6, .inl (y 1, 200, .inr (.inl (vp_updL (vp_updL (vp_updL (vp_updL (vp_updL (vp_updL (vp_updL (vp_updL (vp_updL (vp_updL wf30624 ((0 : Int32).toNatClampNeg) 0) ((1 : Int32).toNatClampNeg) 0) ((2 : Int32).toNatClampNeg) 0) ((3 : Int32).toNatClampNeg) 0) ((4 : Int32).toNatClampNeg) 0) ((5 : Int32).toNatClampNeg) 0) ((5 : Int32).toNatClampNeg) ((p1 - p1 / 10 * 10).toInt64)) ((4 : Int32).toNatClampNeg) (((p1 / 10) - (p1 / 10) / 10 * 10).toInt64)) ((3 : Int32).toNatClampNeg) ((((p1 / 10) / 10) - ((p1 / 10) / 10) / 10 * 10).toInt64)) ((2 : Int32).toNatClampNeg) (((((p1 / 10) / 10) / 10) - (((p1 / 10) / 10) / 10) / 10 * 10).toInt64)))))] := hD
  refine lv_iload hx hb dX5_append_48 (lv_at hl 1 rfl) ?_
  refine lv_bipush (v := 10) hx hb dX5_append_50 (by decide +kernel) ?_
  refine lv_idiv hx hb dX5_append_52 (by decide +kernel) ?_
  refine lv_istore (lv' := [(4, .int ((((p1 / 10) / 10) / 10) / 10)), (5, .int 2), (3, .int 0), (0, .ref h0), (1, .int p1), (2, .int 6)]) hx hb dX5_append_53 hl (by decide) rfl ?_
  clear hl
  clear ls
  intro ls hl
  refine lv_iinc (v := 1) (lv' := [(5, .int 1), (4, .int ((((p1 / 10) / 10) / 10) / 10)), (3, .int 0), (0, .ref h0), (1, .int p1), (2, .int 6)]) hx hb dX5_append_55 hl (k := 1) rfl (by decide +kernel) (by decide) rfl ?_
  clear hl
  clear ls
  intro ls hl
  refine lv_goto (tgt := 27) hx hb dX5_append_58 (by decide) ?_
  refine lv_iload hx hb dX5_append_27 (lv_at hl 0 rfl) ?_
  refine lv_iload_n hx hb dX5_append_29 rfl (lv_at hl 2 rfl) ?_
  refine lv_icmp_lt (tgt := 61) hx hb dX5_append_30 (by decide) (fun c9 => absurd c9 (by decide +kernel)) (fun _ => ?_)
  refine lv_aload_n hx hb dX5_append_33 rfl (lv_at hl 3 rfl) ?_
  refine gm_get (D := D) (ci := 5) (v := .ref h2) (C := RX5) (T := TX5) (N := 5) hx hb hg inlX5 hown hK.1 hP 0 rfl rfl 0 (by decide) tX5_0 (hg _ gw_138) rfl dX5_append_34 ?_
  refine lv_iload hx hb dX5_append_37 (lv_at hl 0 rfl) ?_
  refine lv_iload hx hb dX5_append_39 (lv_at hl 1 rfl) ?_
  refine lv_bipush (v := 10) hx hb dX5_append_41 (by decide +kernel) ?_
  refine lv_irem hx hb dX5_append_43 (by decide +kernel) ?_
  refine lv_i2l (v := ((((((p1 / 10) / 10) / 10) / 10) - ((((p1 / 10) / 10) / 10) / 10) / 10 * 10).toInt64)) hx hb dX5_append_44 rfl ?_
  refine g_av (wr := [(h0, .inr (5, [.ref h2, .ref h3, .ref h4, .ref h5, .int 0])), (h3, .inr (8, [.ref h8, .int wp30625])), (h8, .inl (y 1, 200, .inr (.inl wf30626))), (h5, .inr (8, [.ref h11, .int wp30627])), (h11, .inl (y 1, 3, .inr (.inl (fun _ => 0))))]) (va_runV (As := [.int 1, .long ((((((p1 / 10) / 10) / 10) / 10) - ((((p1 / 10) / 10) / 10) / 10) / 10 * 10).toInt64)]) (rest := []) ⟨hx, hb, hml, hown, hg⟩ (k_X8_set_46 l D y aS H.size h2 ((((((p1 / 10) / 10) / 10) / 10) - ((((p1 / 10) / 10) / 10) / 10) / 10 * 10).toInt64) h6 6 (vp_updL (vp_updL (vp_updL (vp_updL (vp_updL (vp_updL (vp_updL (vp_updL (vp_updL (vp_updL wf30624 ((0 : Int32).toNatClampNeg) 0) ((1 : Int32).toNatClampNeg) 0) ((2 : Int32).toNatClampNeg) 0) ((3 : Int32).toNatClampNeg) 0) ((4 : Int32).toNatClampNeg) 0) ((5 : Int32).toNatClampNeg) 0) ((5 : Int32).toNatClampNeg) ((p1 - p1 / 10 * 10).toInt64)) ((4 : Int32).toNatClampNeg) (((p1 / 10) - (p1 / 10) / 10 * 10).toInt64)) ((3 : Int32).toNatClampNeg) ((((p1 / 10) / 10) - ((p1 / 10) / 10) / 10 * 10).toInt64)) ((2 : Int32).toNatClampNeg) (((((p1 / 10) / 10) / 10) - (((p1 / 10) / 10) / 10) / 10 * 10).toInt64))) (cwV 2 hg ggV_RX5_29_X8_set rfl rfl rfl (by decide +kernel) ⟨Nat.le_of_ble_eq_true rfl, Nat.le_of_ble_eq_true rfl⟩) (g_preV (q := (RX8, TX8, 2)) hK hP hD [5, 6] rfl (by decide) (ci := 8) (q0 := 5) rfl rfl) rfl rfl hl.1 rfl (lv_room (Nat.le_of_ble_eq_true rfl)) dX5_append_45 ⟨Nat.le_of_ble_eq_true rfl, Nat.le_of_ble_eq_true rfl⟩) hP hD hS hA [5, 6] [0, 1, 2, 3, 4] rfl rfl (by decide) (by decide) ?_
  clear hP hD hS H locs
  refine fun u H locs hq hP hD hS => ?_
  replace hP : va_P D vwCl [(h0, .inr (5, [.ref h2, .ref h3, .ref h4, .ref h5, .int 0])), (h3, .inr (8, [.ref h8, .int wp30625])), (h8, .inl (y 1, 200, .inr (.inl wf30626))), (h5, .inr (8, [.ref h11, .int wp30627])), (h11, .inl (y 1, 3, .inr (.inl (fun _ => 0)))), (h2, .inr (8, [.ref h6, .int 6])), (h6, .inl (y 1, 200, .inr (.inl (vp_updL (vp_updL (vp_updL (vp_updL (vp_updL (vp_updL (vp_updL (vp_updL (vp_updL (vp_updL (vp_updL wf30624 ((0 : Int32).toNatClampNeg) 0) ((1 : Int32).toNatClampNeg) 0) ((2 : Int32).toNatClampNeg) 0) ((3 : Int32).toNatClampNeg) 0) ((4 : Int32).toNatClampNeg) 0) ((5 : Int32).toNatClampNeg) 0) ((5 : Int32).toNatClampNeg) ((p1 - p1 / 10 * 10).toInt64)) ((4 : Int32).toNatClampNeg) (((p1 / 10) - (p1 / 10) / 10 * 10).toInt64)) ((3 : Int32).toNatClampNeg) ((((p1 / 10) / 10) - ((p1 / 10) / 10) / 10 * 10).toInt64)) ((2 : Int32).toNatClampNeg) (((((p1 / 10) / 10) / 10) - (((p1 / 10) / 10) / 10) / 10 * 10).toInt64)) ((1 : Int32).toNatClampNeg) ((((((p1 / 10) / 10) / 10) / 10) - ((((p1 / 10) / 10) / 10) / 10) / 10 * 10).toInt64)))))] H := hP
  replace hD : va_D A [(h0, .inr (5, [.ref h2, .ref h3, .ref h4, .ref h5, .int 0])), (h3, .inr (8, [.ref h8, .int wp30625])), (h8, .inl (y 1, 200, .inr (.inl wf30626))), (h5, .inr (8, [.ref h11, .int wp30627])), (h11, .inl (y 1, 3, .inr (.inl (fun _ => 0)))), (h2, .inr (8, [.ref h6, .int 6])), (h6, .inl (y 1, 200, .inr (.inl (vp_updL (vp_updL (vp_updL (vp_updL (vp_updL (vp_updL (vp_updL (vp_updL (vp_updL (vp_updL (vp_updL wf30624 ((0 : Int32).toNatClampNeg) 0) ((1 : Int32).toNatClampNeg) 0) ((2 : Int32).toNatClampNeg) 0) ((3 : Int32).toNatClampNeg) 0) ((4 : Int32).toNatClampNeg) 0) ((5 : Int32).toNatClampNeg) 0) ((5 : Int32).toNatClampNeg) ((p1 - p1 / 10 * 10).toInt64)) ((4 : Int32).toNatClampNeg) (((p1 / 10) - (p1 / 10) / 10 * 10).toInt64)) ((3 : Int32).toNatClampNeg) ((((p1 / 10) / 10) - ((p1 / 10) / 10) / 10 * 10).toInt64)) ((2 : Int32).toNatClampNeg) (((((p1 / 10) / 10) / 10) - (((p1 / 10) / 10) / 10) / 10 * 10).toInt64)) ((1 : Int32).toNatClampNeg) ((((((p1 / 10) / 10) / 10) / 10) - ((((p1 / 10) / 10) / 10) / 10) / 10 * 10).toInt64)))))] := hD
  refine lv_iload hx hb dX5_append_48 (lv_at hl 1 rfl) ?_
  refine lv_bipush (v := 10) hx hb dX5_append_50 (by decide +kernel) ?_
  refine lv_idiv hx hb dX5_append_52 (by decide +kernel) ?_
  refine lv_istore (lv' := [(4, .int (((((p1 / 10) / 10) / 10) / 10) / 10)), (5, .int 1), (3, .int 0), (0, .ref h0), (1, .int p1), (2, .int 6)]) hx hb dX5_append_53 hl (by decide) rfl ?_
  clear hl
  clear ls
  intro ls hl
  refine lv_iinc (v := 0) (lv' := [(5, .int 0), (4, .int (((((p1 / 10) / 10) / 10) / 10) / 10)), (3, .int 0), (0, .ref h0), (1, .int p1), (2, .int 6)]) hx hb dX5_append_55 hl (k := 1) rfl (by decide +kernel) (by decide) rfl ?_
  clear hl
  clear ls
  intro ls hl
  refine lv_goto (tgt := 27) hx hb dX5_append_58 (by decide) ?_
  refine lv_iload hx hb dX5_append_27 (lv_at hl 0 rfl) ?_
  refine lv_iload_n hx hb dX5_append_29 rfl (lv_at hl 2 rfl) ?_
  refine lv_icmp_lt (tgt := 61) hx hb dX5_append_30 (by decide) (fun c9 => absurd c9 (by decide +kernel)) (fun _ => ?_)
  refine lv_aload_n hx hb dX5_append_33 rfl (lv_at hl 3 rfl) ?_
  refine gm_get (D := D) (ci := 5) (v := .ref h2) (C := RX5) (T := TX5) (N := 5) hx hb hg inlX5 hown hK.1 hP 0 rfl rfl 0 (by decide) tX5_0 (hg _ gw_138) rfl dX5_append_34 ?_
  refine lv_iload hx hb dX5_append_37 (lv_at hl 0 rfl) ?_
  refine lv_iload hx hb dX5_append_39 (lv_at hl 1 rfl) ?_
  refine lv_bipush (v := 10) hx hb dX5_append_41 (by decide +kernel) ?_
  refine lv_irem hx hb dX5_append_43 (by decide +kernel) ?_
  refine lv_i2l (v := (((((((p1 / 10) / 10) / 10) / 10) / 10) - (((((p1 / 10) / 10) / 10) / 10) / 10) / 10 * 10).toInt64)) hx hb dX5_append_44 rfl ?_
  refine g_av (wr := [(h0, .inr (5, [.ref h2, .ref h3, .ref h4, .ref h5, .int 0])), (h3, .inr (8, [.ref h8, .int wp30625])), (h8, .inl (y 1, 200, .inr (.inl wf30626))), (h5, .inr (8, [.ref h11, .int wp30627])), (h11, .inl (y 1, 3, .inr (.inl (fun _ => 0))))]) (va_runV (As := [.int 0, .long (((((((p1 / 10) / 10) / 10) / 10) / 10) - (((((p1 / 10) / 10) / 10) / 10) / 10) / 10 * 10).toInt64)]) (rest := []) ⟨hx, hb, hml, hown, hg⟩ (k_X8_set_45 l D y aS H.size h2 (((((((p1 / 10) / 10) / 10) / 10) / 10) - (((((p1 / 10) / 10) / 10) / 10) / 10) / 10 * 10).toInt64) h6 6 (vp_updL (vp_updL (vp_updL (vp_updL (vp_updL (vp_updL (vp_updL (vp_updL (vp_updL (vp_updL (vp_updL wf30624 ((0 : Int32).toNatClampNeg) 0) ((1 : Int32).toNatClampNeg) 0) ((2 : Int32).toNatClampNeg) 0) ((3 : Int32).toNatClampNeg) 0) ((4 : Int32).toNatClampNeg) 0) ((5 : Int32).toNatClampNeg) 0) ((5 : Int32).toNatClampNeg) ((p1 - p1 / 10 * 10).toInt64)) ((4 : Int32).toNatClampNeg) (((p1 / 10) - (p1 / 10) / 10 * 10).toInt64)) ((3 : Int32).toNatClampNeg) ((((p1 / 10) / 10) - ((p1 / 10) / 10) / 10 * 10).toInt64)) ((2 : Int32).toNatClampNeg) (((((p1 / 10) / 10) / 10) - (((p1 / 10) / 10) / 10) / 10 * 10).toInt64)) ((1 : Int32).toNatClampNeg) ((((((p1 / 10) / 10) / 10) / 10) - ((((p1 / 10) / 10) / 10) / 10) / 10 * 10).toInt64))) (cwV 2 hg ggV_RX5_29_X8_set rfl rfl rfl (by decide +kernel) ⟨Nat.le_of_ble_eq_true rfl, Nat.le_of_ble_eq_true rfl⟩) (g_preV (q := (RX8, TX8, 2)) hK hP hD [5, 6] rfl (by decide) (ci := 8) (q0 := 5) rfl rfl) rfl rfl hl.1 rfl (lv_room (Nat.le_of_ble_eq_true rfl)) dX5_append_45 ⟨Nat.le_of_ble_eq_true rfl, Nat.le_of_ble_eq_true rfl⟩) hP hD hS hA [5, 6] [0, 1, 2, 3, 4] rfl rfl (by decide) (by decide) ?_
  clear hP hD hS H locs
  refine fun u H locs hq hP hD hS => ?_
  replace hP : va_P D vwCl [(h0, .inr (5, [.ref h2, .ref h3, .ref h4, .ref h5, .int 0])), (h3, .inr (8, [.ref h8, .int wp30625])), (h8, .inl (y 1, 200, .inr (.inl wf30626))), (h5, .inr (8, [.ref h11, .int wp30627])), (h11, .inl (y 1, 3, .inr (.inl (fun _ => 0)))), (h2, .inr (8, [.ref h6, .int 6])), (h6, .inl (y 1, 200, .inr (.inl (vp_updL (vp_updL (vp_updL (vp_updL (vp_updL (vp_updL (vp_updL (vp_updL (vp_updL (vp_updL (vp_updL (vp_updL wf30624 ((0 : Int32).toNatClampNeg) 0) ((1 : Int32).toNatClampNeg) 0) ((2 : Int32).toNatClampNeg) 0) ((3 : Int32).toNatClampNeg) 0) ((4 : Int32).toNatClampNeg) 0) ((5 : Int32).toNatClampNeg) 0) ((5 : Int32).toNatClampNeg) ((p1 - p1 / 10 * 10).toInt64)) ((4 : Int32).toNatClampNeg) (((p1 / 10) - (p1 / 10) / 10 * 10).toInt64)) ((3 : Int32).toNatClampNeg) ((((p1 / 10) / 10) - ((p1 / 10) / 10) / 10 * 10).toInt64)) ((2 : Int32).toNatClampNeg) (((((p1 / 10) / 10) / 10) - (((p1 / 10) / 10) / 10) / 10 * 10).toInt64)) ((1 : Int32).toNatClampNeg) ((((((p1 / 10) / 10) / 10) / 10) - ((((p1 / 10) / 10) / 10) / 10) / 10 * 10).toInt64)) ((0 : Int32).toNatClampNeg) (((((((p1 / 10) / 10) / 10) / 10) / 10) - (((((p1 / 10) / 10) / 10) / 10) / 10) / 10 * 10).toInt64)))))] H := hP
  replace hD : va_D A [(h0, .inr (5, [.ref h2, .ref h3, .ref h4, .ref h5, .int 0])), (h3, .inr (8, [.ref h8, .int wp30625])), (h8, .inl (y 1, 200, .inr (.inl wf30626))), (h5, .inr (8, [.ref h11, .int wp30627])), (h11, .inl (y 1, 3, .inr (.inl (fun _ => 0)))), (h2, .inr (8, [.ref h6, .int 6])), (h6, .inl (y 1, 200, .inr (.inl (vp_updL (vp_updL (vp_updL (vp_updL (vp_updL (vp_updL (vp_updL (vp_updL (vp_updL (vp_updL (vp_updL (vp_updL wf30624 ((0 : Int32).toNatClampNeg) 0) ((1 : Int32).toNatClampNeg) 0) ((2 : Int32).toNatClampNeg) 0) ((3 : Int32).toNatClampNeg) 0) ((4 : Int32).toNatClampNeg) 0) ((5 : Int32).toNatClampNeg) 0) ((5 : Int32).toNatClampNeg) ((p1 - p1 / 10 * 10).toInt64)) ((4 : Int32).toNatClampNeg) (((p1 / 10) - (p1 / 10) / 10 * 10).toInt64)) ((3 : Int32).toNatClampNeg) ((((p1 / 10) / 10) - ((p1 / 10) / 10) / 10 * 10).toInt64)) ((2 : Int32).toNatClampNeg) (((((p1 / 10) / 10) / 10) - (((p1 / 10) / 10) / 10) / 10 * 10).toInt64)) ((1 : Int32).toNatClampNeg) ((((((p1 / 10) / 10) / 10) / 10) - ((((p1 / 10) / 10) / 10) / 10) / 10 * 10).toInt64)) ((0 : Int32).toNatClampNeg) (((((((p1 / 10) / 10) / 10) / 10) / 10) - (((((p1 / 10) / 10) / 10) / 10) / 10) / 10 * 10).toInt64)))))] := hD
  refine lv_iload hx hb dX5_append_48 (lv_at hl 1 rfl) ?_
  refine lv_bipush (v := 10) hx hb dX5_append_50 (by decide +kernel) ?_
  refine lv_idiv hx hb dX5_append_52 (by decide +kernel) ?_
  refine lv_istore (lv' := [(4, .int ((((((p1 / 10) / 10) / 10) / 10) / 10) / 10)), (5, .int 0), (3, .int 0), (0, .ref h0), (1, .int p1), (2, .int 6)]) hx hb dX5_append_53 hl (by decide) rfl ?_
  clear hl
  clear ls
  intro ls hl
  refine lv_iinc (v := (-1)) (lv' := [(5, .int (-1)), (4, .int ((((((p1 / 10) / 10) / 10) / 10) / 10) / 10)), (3, .int 0), (0, .ref h0), (1, .int p1), (2, .int 6)]) hx hb dX5_append_55 hl (k := 1) rfl (by decide +kernel) (by decide) rfl ?_
  clear hl
  clear ls
  intro ls hl
  refine lv_goto (tgt := 27) hx hb dX5_append_58 (by decide) ?_
  refine lv_iload hx hb dX5_append_27 (lv_at hl 0 rfl) ?_
  refine lv_iload_n hx hb dX5_append_29 rfl (lv_at hl 2 rfl) ?_
  refine lv_icmp_lt (tgt := 61) hx hb dX5_append_30 (by decide) (fun _ => ?_) (fun c9 => absurd c9 (by decide +kernel))
  refine lv_aload_n hx hb dX5_append_61 rfl (lv_at hl 3 rfl) ?_
  refine g_av (wr := [(h6, .inl (y 1, 200, .inr (.inl (vp_updL (vp_updL (vp_updL (vp_updL (vp_updL (vp_updL (vp_updL (vp_updL (vp_updL (vp_updL (vp_updL (vp_updL wf30624 ((0 : Int32).toNatClampNeg) 0) ((1 : Int32).toNatClampNeg) 0) ((2 : Int32).toNatClampNeg) 0) ((3 : Int32).toNatClampNeg) 0) ((4 : Int32).toNatClampNeg) 0) ((5 : Int32).toNatClampNeg) 0) ((5 : Int32).toNatClampNeg) ((p1 - p1 / 10 * 10).toInt64)) ((4 : Int32).toNatClampNeg) (((p1 / 10) - (p1 / 10) / 10 * 10).toInt64)) ((3 : Int32).toNatClampNeg) ((((p1 / 10) / 10) - ((p1 / 10) / 10) / 10 * 10).toInt64)) ((2 : Int32).toNatClampNeg) (((((p1 / 10) / 10) / 10) - (((p1 / 10) / 10) / 10) / 10 * 10).toInt64)) ((1 : Int32).toNatClampNeg) ((((((p1 / 10) / 10) / 10) / 10) - ((((p1 / 10) / 10) / 10) / 10) / 10 * 10).toInt64)) ((0 : Int32).toNatClampNeg) (((((((p1 / 10) / 10) / 10) / 10) / 10) - (((((p1 / 10) / 10) / 10) / 10) / 10) / 10 * 10).toInt64)))))]) (va_runV (As := []) (rest := []) ⟨hx, hb, hml, hown, hg⟩ (k_X5_findOut_6 l D y aS H.size h0 h2 h3 h4 h5 0 h6 h8 wp30625 wf30626 h11 wp30627) (cwV 0 hg ggV_RX5_33_X5_findOut rfl rfl rfl (by decide +kernel) ⟨Nat.le_of_ble_eq_true rfl, Nat.le_of_ble_eq_true rfl⟩) (g_preV (q := (RX5, TX5, 5)) hK hP hD [0, 5, 1, 2, 3, 4] rfl (by decide) (ci := 5) (q0 := 0) rfl rfl) rfl rfl hl.1 rfl (lv_room (Nat.le_of_ble_eq_true rfl)) dX5_append_62 ⟨Nat.le_of_ble_eq_true rfl, Nat.le_of_ble_eq_true rfl⟩) hP hD hS hA [0, 5, 1, 2, 3, 4] [6] rfl rfl (by decide) (by decide) ?_
  clear hP hD hS H locs
  refine fun u H locs hq hP hD hS => ?_
  replace hP : va_P D vwCl [(h6, .inl (y 1, 200, .inr (.inl (vp_updL (vp_updL (vp_updL (vp_updL (vp_updL (vp_updL (vp_updL (vp_updL (vp_updL (vp_updL (vp_updL (vp_updL wf30624 ((0 : Int32).toNatClampNeg) 0) ((1 : Int32).toNatClampNeg) 0) ((2 : Int32).toNatClampNeg) 0) ((3 : Int32).toNatClampNeg) 0) ((4 : Int32).toNatClampNeg) 0) ((5 : Int32).toNatClampNeg) 0) ((5 : Int32).toNatClampNeg) ((p1 - p1 / 10 * 10).toInt64)) ((4 : Int32).toNatClampNeg) (((p1 / 10) - (p1 / 10) / 10 * 10).toInt64)) ((3 : Int32).toNatClampNeg) ((((p1 / 10) / 10) - ((p1 / 10) / 10) / 10 * 10).toInt64)) ((2 : Int32).toNatClampNeg) (((((p1 / 10) / 10) / 10) - (((p1 / 10) / 10) / 10) / 10 * 10).toInt64)) ((1 : Int32).toNatClampNeg) ((((((p1 / 10) / 10) / 10) / 10) - ((((p1 / 10) / 10) / 10) / 10) / 10 * 10).toInt64)) ((0 : Int32).toNatClampNeg) (((((((p1 / 10) / 10) / 10) / 10) / 10) - (((((p1 / 10) / 10) / 10) / 10) / 10) / 10 * 10).toInt64))))), (h0, .inr (5, [.ref h2, .ref h3, .ref h4, .ref h5, .int 6])), (h2, .inr (8, [.ref h6, .int 6])), (h3, .inr (8, [.ref h8, .int wp30625])), (h8, .inl (y 1, 200, .inr (.inl (vp_updL (vp_updL (vp_updL (vp_updL (vp_updL (vp_updL wf30626 ((0 : Int32).toNatClampNeg) 0) ((1 : Int32).toNatClampNeg) 0) ((2 : Int32).toNatClampNeg) 0) ((3 : Int32).toNatClampNeg) 0) ((4 : Int32).toNatClampNeg) 0) ((5 : Int32).toNatClampNeg) 0)))), (h5, .inr (8, [.ref h11, .int wp30627])), (h11, .inl (y 1, 3, .inr (.inl (fun _ => 0))))] H := hP
  replace hD : va_D A [(h6, .inl (y 1, 200, .inr (.inl (vp_updL (vp_updL (vp_updL (vp_updL (vp_updL (vp_updL (vp_updL (vp_updL (vp_updL (vp_updL (vp_updL (vp_updL wf30624 ((0 : Int32).toNatClampNeg) 0) ((1 : Int32).toNatClampNeg) 0) ((2 : Int32).toNatClampNeg) 0) ((3 : Int32).toNatClampNeg) 0) ((4 : Int32).toNatClampNeg) 0) ((5 : Int32).toNatClampNeg) 0) ((5 : Int32).toNatClampNeg) ((p1 - p1 / 10 * 10).toInt64)) ((4 : Int32).toNatClampNeg) (((p1 / 10) - (p1 / 10) / 10 * 10).toInt64)) ((3 : Int32).toNatClampNeg) ((((p1 / 10) / 10) - ((p1 / 10) / 10) / 10 * 10).toInt64)) ((2 : Int32).toNatClampNeg) (((((p1 / 10) / 10) / 10) - (((p1 / 10) / 10) / 10) / 10 * 10).toInt64)) ((1 : Int32).toNatClampNeg) ((((((p1 / 10) / 10) / 10) / 10) - ((((p1 / 10) / 10) / 10) / 10) / 10 * 10).toInt64)) ((0 : Int32).toNatClampNeg) (((((((p1 / 10) / 10) / 10) / 10) / 10) - (((((p1 / 10) / 10) / 10) / 10) / 10) / 10 * 10).toInt64))))), (h0, .inr (5, [.ref h2, .ref h3, .ref h4, .ref h5, .int 6])), (h2, .inr (8, [.ref h6, .int 6])), (h3, .inr (8, [.ref h8, .int wp30625])), (h8, .inl (y 1, 200, .inr (.inl (vp_updL (vp_updL (vp_updL (vp_updL (vp_updL (vp_updL wf30626 ((0 : Int32).toNatClampNeg) 0) ((1 : Int32).toNatClampNeg) 0) ((2 : Int32).toNatClampNeg) 0) ((3 : Int32).toNatClampNeg) 0) ((4 : Int32).toNatClampNeg) 0) ((5 : Int32).toNatClampNeg) 0)))), (h5, .inr (8, [.ref h11, .int wp30627])), (h11, .inl (y 1, 3, .inr (.inl (fun _ => 0))))] := hD
  refine lv_aload_n hx hb dX5_append_65 rfl (lv_at hl 3 rfl) ?_
  refine gm_get (D := D) (ci := 5) (v := .int 6) (C := RX5) (T := TX5) (N := 5) hx hb hg inlX5 hown hK.1 hP 1 rfl rfl 4 (by decide) tX5_4 (hg _ gw_1442) rfl dX5_append_66 ?_
  exact g_iret hx hb hr hlocks () (hP.sub [1, 2, 0, 3, 4, 5, 6] rfl) (hD.sub [1, 2, 0, 3, 4, 5, 6] (by decide +kernel) rfl) hS rfl rfl (Nat.le_of_ble_eq_true rfl) (Nat.le_of_ble_eq_true rfl) dX5_append_69
