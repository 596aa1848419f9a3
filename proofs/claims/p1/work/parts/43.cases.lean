
set_option maxRecDepth 100000 in
set_option maxHeartbeats 4000000 in
theorem k_X8_set_33 (l : Launch) (D : va_G) (y : Nat → ClassId) (aS : Nat → Nat) (sz : Nat) (h0 : Nat) (p1 : Int64) (h2 : Nat) (wp4000228 : Int32) (wf4000229 : Nat → Int64) : Met l yX8_set (Cond.code yX8_set cX8_set 4 none :: wsL_law) ({ frames := 0, cells := 0, slots := 0, locals := 0 } : Room) (va_Pc [.ref h0, .int 2, .long p1] (gI D y aS [(h0, .inr (8, [.ref h2, .int wp4000228])), (h2, .inl (y 1, 18, .inr (.inl wf4000229)))] sz)) (va_Qv (fun (u : Unit) => True) (fun u => gO D (va_A [(h0, .inr (8, [.ref h2, .int wp4000228])), (h2, .inl (y 1, 18, .inr (.inl wf4000229)))] sz) [(h0, .inr (8, [.ref h2, .int wp4000228])), (h2, .inl (y 1, 18, .inr (.inl (vp_updL wf4000229 ((2 : Int32).toNatClampNeg) p1))))]) (va_A [(h0, .inr (8, [.ref h2, .int wp4000228])), (h2, .inl (y 1, 18, .inr (.inl wf4000229)))] sz)) 0 0 (va_A [(h0, .inr (8, [.ref h2, .int wp4000228])), (h2, .inl (y 1, 18, .inr (.inl wf4000229)))] sz) := by
  refine g_of (by decide) (Nat.le_of_ble_eq_true rfl) ?_
  intro p e s m below meth c ls A hx hb hr hml hown hg hlocks hin hsz hK hP hD hS hA hAe hl
  rw [← hAe]
  replace hown : s.vm.findClass RX8 = some m.cls := hown
  replace hl : lv_has ls 4 [(0, .ref h0), (1, .int 2), (2, .long p1)] := hl
  refine lv_iload_n hx hb dX8_set_0 rfl (lv_at hl 1 rfl) ?_
  refine lv_if_lt (tgt := 20) hx hb dX8_set_1 (by decide) (fun c9 => absurd c9 (by decide +kernel)) (fun _ => ?_)
  refine lv_iload_n hx hb dX8_set_4 rfl (lv_at hl 1 rfl) ?_
  refine lv_aload_n hx hb dX8_set_5 rfl (lv_at hl 0 rfl) ?_
  refine gm_get (D := D) (ci := 8) (v := .ref h2) (C := RX8) (T := TX8) (N := 2) hx hb hg inlX8 hown hK.1 hP 0 rfl rfl 0 (by decide) tX8_0 (hg _ gw_98) rfl dX8_set_6 ?_
  refine va_alen hx hb hK.1 hP 1 1 rfl rfl (v := 18) rfl dX8_set_9 ?_
  refine lv_icmp_ge (tgt := 20) hx hb dX8_set_10 (by decide) (fun c9 => absurd c9 (by decide +kernel)) (fun _ => ?_)
  refine lv_aload_n hx hb dX8_set_13 rfl (lv_at hl 0 rfl) ?_
  refine gm_get (D := D) (ci := 8) (v := .ref h2) (C := RX8) (T := TX8) (N := 2) hx hb hg inlX8 hown hK.1 hP 0 rfl rfl 0 (by decide) tX8_0 (hg _ gw_98) rfl dX8_set_14 ?_
  refine lv_iload_n hx hb dX8_set_17 rfl (lv_at hl 1 rfl) ?_
  refine lv_lload_n hx hb dX8_set_18 rfl (lv_at hl 2 rfl) ?_
  refine va_last hx hb hK.1 hP hD hS 1 1 rfl rfl (by unfold vp_in; decide +kernel) dX8_set_19 ?_
  clear hP hD hS
  refine fun H locs (hP : va_P D vwCl [(h0, .inr (8, [.ref h2, .int wp4000228])), (h2, .inl (y 1, 18, .inr (.inl (vp_updL wf4000229 ((2 : Int32).toNatClampNeg) p1))))] H) (hD : va_D A [(h0, .inr (8, [.ref h2, .int wp4000228])), (h2, .inl (y 1, 18, .inr (.inl (vp_updL wf4000229 ((2 : Int32).toNatClampNeg) p1))))]) hS => ?_
  exact g_vret hx hb hr hlocks () hP hD hS trivial (Nat.le_of_ble_eq_true rfl) (Nat.le_of_ble_eq_true rfl) dX8_set_20
set_option maxRecDepth 100000 in
set_option maxHeartbeats 4000000 in
theorem k_X8_get_11 (l : Launch) (D : va_G) (y : Nat → ClassId) (aS : Nat → Nat) (sz : Nat) (h0 : Nat) (h1 : Nat) (wp4000235 : Int32) : Met l yX8_get (Cond.code yX8_get cX8_get 2 (some .long) :: wsL_law) ({ frames := 0, cells := 0, slots := 0, locals := 0 } : Room) (va_Pc [.ref h0, .int 0] (gI D y aS [(h0, .inr (8, [.ref h1, .int wp4000235])), (h1, .inl (y 1, 3, .inr (.inl (vp_updL (fun _ => 0) ((0 : Int32).toNatClampNeg) 3))))] sz)) (va_Ql (fun (r : Int64) (u : Unit) => 3 = r) (fun u => gO D (va_A [(h0, .inr (8, [.ref h1, .int wp4000235])), (h1, .inl (y 1, 3, .inr (.inl (vp_updL (fun _ => 0) ((0 : Int32).toNatClampNeg) 3))))] sz) [(h0, .inr (8, [.ref h1, .int wp4000235])), (h1, .inl (y 1, 3, .inr (.inl (vp_updL (fun _ => 0) ((0 : Int32).toNatClampNeg) 3))))]) (va_A [(h0, .inr (8, [.ref h1, .int wp4000235])), (h1, .inl (y 1, 3, .inr (.inl (vp_updL (fun _ => 0) ((0 : Int32).toNatClampNeg) 3))))] sz)) 0 0 (va_A [(h0, .inr (8, [.ref h1, .int wp4000235])), (h1, .inl (y 1, 3, .inr (.inl (vp_updL (fun _ => 0) ((0 : Int32).toNatClampNeg) 3))))] sz) := by
  refine g_of (by decide) (Nat.le_of_ble_eq_true rfl) ?_
  intro p e s m below meth c ls A hx hb hr hml hown hg hlocks hin hsz hK hP hD hS hA hAe hl
  rw [← hAe]
  replace hown : s.vm.findClass RX8 = some m.cls := hown
  replace hl : lv_has ls 2 [(0, .ref h0), (1, .int 0)] := hl
  refine lv_iload_n hx hb dX8_get_0 rfl (lv_at hl 1 rfl) ?_
  refine lv_if_lt (tgt := 22) hx hb dX8_get_1 (by decide) (fun c9 => absurd c9 (by decide +kernel)) (fun _ => ?_)
  refine lv_iload_n hx hb dX8_get_4 rfl (lv_at hl 1 rfl) ?_
  refine lv_aload_n hx hb dX8_get_5 rfl (lv_at hl 0 rfl) ?_
  refine gm_get (D := D) (ci := 8) (v := .ref h1) (C := RX8) (T := TX8) (N := 2) hx hb hg inlX8 hown hK.1 hP 0 rfl rfl 0 (by decide) tX8_0 (hg _ gw_98) rfl dX8_get_6 ?_
  refine va_alen hx hb hK.1 hP 1 1 rfl rfl (v := 3) rfl dX8_get_9 ?_
  refine lv_icmp_ge (tgt := 22) hx hb dX8_get_10 (by decide) (fun c9 => absurd c9 (by decide +kernel)) (fun _ => ?_)
  refine lv_aload_n hx hb dX8_get_13 rfl (lv_at hl 0 rfl) ?_
  refine gm_get (D := D) (ci := 8) (v := .ref h1) (C := RX8) (T := TX8) (N := 2) hx hb hg inlX8 hown hK.1 hP 0 rfl rfl 0 (by decide) tX8_0 (hg _ gw_98) rfl dX8_get_14 ?_
  refine lv_iload_n hx hb dX8_get_17 rfl (lv_at hl 1 rfl) ?_
  refine va_lald hx hb hK.1 hP 1 1 rfl rfl (by unfold vp_in; decide +kernel) dX8_get_18 ?_
  refine g_fj (v := 3) (by rfl) ?_
  refine lv_goto (tgt := 23) hx hb dX8_get_19 (by decide) ?_
  exact g_lret hx hb hr hlocks () hP hD hS rfl (Nat.le_of_ble_eq_true rfl) (Nat.le_of_ble_eq_true rfl) dX8_get_23
set_option maxRecDepth 100000 in
set_option maxHeartbeats 4000000 in
theorem k_X8_get_12 (l : Launch) (D : va_G) (y : Nat → ClassId) (aS : Nat → Nat) (sz : Nat) (h0 : Nat) (h1 : Nat) (wp4000237 : Int32) : Met l yX8_get (Cond.code yX8_get cX8_get 2 (some .long) :: wsL_law) ({ frames := 0, cells := 0, slots := 0, locals := 0 } : Room) (va_Pc [.ref h0, .int 1] (gI D y aS [(h0, .inr (8, [.ref h1, .int wp4000237])), (h1, .inl (y 1, 3, .inr (.inl (vp_updL (fun _ => 0) ((0 : Int32).toNatClampNeg) 3))))] sz)) (va_Ql (fun (r : Int64) (u : Unit) => 0 = r) (fun u => gO D (va_A [(h0, .inr (8, [.ref h1, .int wp4000237])), (h1, .inl (y 1, 3, .inr (.inl (vp_updL (fun _ => 0) ((0 : Int32).toNatClampNeg) 3))))] sz) [(h0, .inr (8, [.ref h1, .int wp4000237])), (h1, .inl (y 1, 3, .inr (.inl (vp_updL (fun _ => 0) ((0 : Int32).toNatClampNeg) 3))))]) (va_A [(h0, .inr (8, [.ref h1, .int wp4000237])), (h1, .inl (y 1, 3, .inr (.inl (vp_updL (fun _ => 0) ((0 : Int32).toNatClampNeg) 3))))] sz)) 0 0 (va_A [(h0, .inr (8, [.ref h1, .int wp4000237])), (h1, .inl (y 1, 3, .inr (.inl (vp_updL (fun _ => 0) ((0 : Int32).toNatClampNeg) 3))))] sz) := by
  refine g_of (by decide) (Nat.le_of_ble_eq_true rfl) ?_
  intro p e s m below meth c ls A hx hb hr hml hown hg hlocks hin hsz hK hP hD hS hA hAe hl
  rw [← hAe]
  replace hown : s.vm.findClass RX8 = some m.cls := hown
  replace hl : lv_has ls 2 [(0, .ref h0), (1, .int 1)] := hl
  refine lv_iload_n hx hb dX8_get_0 rfl (lv_at hl 1 rfl) ?_
  refine lv_if_lt (tgt := 22) hx hb dX8_get_1 (by decide) (fun c9 => absurd c9 (by decide +kernel)) (fun _ => ?_)
  refine lv_iload_n hx hb dX8_get_4 rfl (lv_at hl 1 rfl) ?_
  refine lv_aload_n hx hb dX8_get_5 rfl (lv_at hl 0 rfl) ?_
  refine gm_get (D := D) (ci := 8) (v := .ref h1) (C := RX8) (T := TX8) (N := 2) hx hb hg inlX8 hown hK.1 hP 0 rfl rfl 0 (by decide) tX8_0 (hg _ gw_98) rfl dX8_get_6 ?_
  refine va_alen hx hb hK.1 hP 1 1 rfl rfl (v := 3) rfl dX8_get_9 ?_
  refine lv_icmp_ge (tgt := 22) hx hb dX8_get_10 (by decide) (fun c9 => absurd c9 (by decide +kernel)) (fun _ => ?_)
  refine lv_aload_n hx hb dX8_get_13 rfl (lv_at hl 0 rfl) ?_
  refine gm_get (D := D) (ci := 8) (v := .ref h1) (C := RX8) (T := TX8) (N := 2) hx hb hg inlX8 hown hK.1 hP 0 rfl rfl 0 (by decide) tX8_0 (hg _ gw_98) rfl dX8_get_14 ?_
  refine lv_iload_n hx hb dX8_get_17 rfl (lv_at hl 1 rfl) ?_
  refine va_lald hx hb hK.1 hP 1 1 rfl rfl (by unfold vp_in; decide +kernel) dX8_get_18 ?_
  refine g_fj (v := 0) (by rfl) ?_
  refine lv_goto (tgt := 23) hx hb dX8_get_19 (by decide) ?_
  exact g_lret hx hb hr hlocks () hP hD hS rfl (Nat.le_of_ble_eq_true rfl) (Nat.le_of_ble_eq_true rfl) dX8_get_23
set_option maxRecDepth 100000 in
set_option maxHeartbeats 4000000 in
theorem k_X8_get_13 (l : Launch) (D : va_G) (y : Nat → ClassId) (aS : Nat → Nat) (sz : Nat) (h0 : Nat) (h1 : Nat) (wp4000239 : Int32) : Met l yX8_get (Cond.code yX8_get cX8_get 2 (some .long) :: wsL_law) ({ frames := 0, cells := 0, slots := 0, locals := 0 } : Room) (va_Pc [.ref h0, .int 2] (gI D y aS [(h0, .inr (8, [.ref h1, .int wp4000239])), (h1, .inl (y 1, 3, .inr (.inl (vp_updL (fun _ => 0) ((0 : Int32).toNatClampNeg) 3))))] sz)) (va_Ql (fun (r : Int64) (u : Unit) => 0 = r) (fun u => gO D (va_A [(h0, .inr (8, [.ref h1, .int wp4000239])), (h1, .inl (y 1, 3, .inr (.inl (vp_updL (fun _ => 0) ((0 : Int32).toNatClampNeg) 3))))] sz) [(h0, .inr (8, [.ref h1, .int wp4000239])), (h1, .inl (y 1, 3, .inr (.inl (vp_updL (fun _ => 0) ((0 : Int32).toNatClampNeg) 3))))]) (va_A [(h0, .inr (8, [.ref h1, .int wp4000239])), (h1, .inl (y 1, 3, .inr (.inl (vp_updL (fun _ => 0) ((0 : Int32).toNatClampNeg) 3))))] sz)) 0 0 (va_A [(h0, .inr (8, [.ref h1, .int wp4000239])), (h1, .inl (y 1, 3, .inr (.inl (vp_updL (fun _ => 0) ((0 : Int32).toNatClampNeg) 3))))] sz) := by
  refine g_of (by decide) (Nat.le_of_ble_eq_true rfl) ?_
  intro p e s m below meth c ls A hx hb hr hml hown hg hlocks hin hsz hK hP hD hS hA hAe hl
  rw [← hAe]
  replace hown : s.vm.findClass RX8 = some m.cls := hown
  replace hl : lv_has ls 2 [(0, .ref h0), (1, .int 2)] := hl
  refine lv_iload_n hx hb dX8_get_0 rfl (lv_at hl 1 rfl) ?_
  refine lv_if_lt (tgt := 22) hx hb dX8_get_1 (by decide) (fun c9 => absurd c9 (by decide +kernel)) (fun _ => ?_)
  refine lv_iload_n hx hb dX8_get_4 rfl (lv_at hl 1 rfl) ?_
  refine lv_aload_n hx hb dX8_get_5 rfl (lv_at hl 0 rfl) ?_
  refine gm_get (D := D) (ci := 8) (v := .ref h1) (C := RX8) (T := TX8) (N := 2) hx hb hg inlX8 hown hK.1 hP 0 rfl rfl 0 (by decide) tX8_0 (hg _ gw_98) rfl dX8_get_6 ?_
  refine va_alen hx hb hK.1 hP 1 1 rfl rfl (v := 3) rfl dX8_get_9 ?_
  refine lv_icmp_ge (tgt := 22) hx hb dX8_get_10 (by decide) (fun c9 => absurd c9 (by decide +kernel)) (fun _ => ?_)
  refine lv_aload_n hx hb dX8_get_13 rfl (lv_at hl 0 rfl) ?_
  refine gm_get (D := D) (ci := 8) (v := .ref h1) (C := RX8) (T := TX8) (N := 2) hx hb hg inlX8 hown hK.1 hP 0 rfl rfl 0 (by decide) tX8_0 (hg _ gw_98) rfl dX8_get_14 ?_
  refine lv_iload_n hx hb dX8_get_17 rfl (lv_at hl 1 rfl) ?_
  refine va_lald hx hb hK.1 hP 1 1 rfl rfl (by unfold vp_in; decide +kernel) dX8_get_18 ?_
  refine g_fj (v := 0) (by rfl) ?_
  refine lv_goto (tgt := 23) hx hb dX8_get_19 (by decide) ?_
  exact g_lret hx hb hr hlocks () hP hD hS rfl (Nat.le_of_ble_eq_true rfl) (Nat.le_of_ble_eq_true rfl) dX8_get_23
set_option maxRecDepth 100000 in
set_option maxHeartbeats 4000000 in
theorem k_X5_tellSecret_3 (l : Launch) (D : va_G) (y : Nat → ClassId) (aS : Nat → Nat) (sz : Nat) (h0 : Nat) (p1 : Int32) (h2 : Nat) (h3 : Nat) (h4 : Nat) (h5 : Nat) (wp4000241 : Int32) (h7 : Nat) (wp4000242 : Int32) (wf4000243 : Nat → Int64) (h10 : Nat) (wp4000244 : Int32) (h12 : Nat) : Met l yX5_tellSecret (Cond.code yX5_tellSecret cX5_tellSecret 7 (some .int) :: wsL_law) ({ frames := 1, cells := 0, slots := 0, locals := 23 } : Room) (va_Pc [.ref h0, .int 0, .int p1, .int 3] (gI D y aS [(h0, .inr (5, [.ref h2, .ref h3, .ref h4, .ref h5, .int wp4000241])), (h4, .inr (8, [.ref h7, .int wp4000242])), (h7, .inl (y 1, 18, .inr (.inl wf4000243))), (h5, .inr (8, [.ref h10, .int wp4000244])), (h10, .inl (y 1, 3, .inr (.inl (fun _ => 0)))), (h2, .inr (8, [.ref h12, .int 0]))] sz)) (va_Qi (fun (r : Int32) (u : Unit) => 1 = r) (fun u => gO D (va_A [(h0, .inr (5, [.ref h2, .ref h3, .ref h4, .ref h5, .int wp4000241])), (h4, .inr (8, [.ref h7, .int wp4000242])), (h7, .inl (y 1, 18, .inr (.inl wf4000243))), (h5, .inr (8, [.ref h10, .int wp4000244])), (h10, .inl (y 1, 3, .inr (.inl (fun _ => 0)))), (h2, .inr (8, [.ref h12, .int 0]))] sz) [(h0, .inr (5, [.ref h2, .ref h3, .ref h4, .ref h5, .int 0])), (h4, .inr (8, [.ref h7, .int wp4000242])), (h7, .inl (y 1, 18, .inr (.inl (vp_updL (vp_updL (vp_updL wf4000243 ((2 : Int32).toNatClampNeg) ((p1 - p1 / 10 * 10).toInt64)) ((1 : Int32).toNatClampNeg) (((p1 / 10) - (p1 / 10) / 10 * 10).toInt64)) ((0 : Int32).toNatClampNeg) ((((p1 / 10) / 10) - ((p1 / 10) / 10) / 10 * 10).toInt64))))), (h5, .inr (8, [.ref h10, .int wp4000244])), (h10, .inl (y 1, 3, .inr (.inl (vp_updL (fun _ => 0) ((0 : Int32).toNatClampNeg) 3)))), (h2, .inr (8, [.ref h12, .int 0]))]) (va_A [(h0, .inr (5, [.ref h2, .ref h3, .ref h4, .ref h5, .int wp4000241])), (h4, .inr (8, [.ref h7, .int wp4000242])), (h7, .inl (y 1, 18, .inr (.inl wf4000243))), (h5, .inr (8, [.ref h10, .int wp4000244])), (h10, .inl (y 1, 3, .inr (.inl (fun _ => 0)))), (h2, .inr (8, [.ref h12, .int 0]))] sz)) 0 0 (va_A [(h0, .inr (5, [.ref h2, .ref h3, .ref h4, .ref h5, .int wp4000241])), (h4, .inr (8, [.ref h7, .int wp4000242])), (h7, .inl (y 1, 18, .inr (.inl wf4000243))), (h5, .inr (8, [.ref h10, .int wp4000244])), (h10, .inl (y 1, 3, .inr (.inl (fun _ => 0)))), (h2, .inr (8, [.ref h12, .int 0]))] sz) := by
  refine g_of (by decide) (Nat.le_of_ble_eq_true rfl) ?_
  intro p e s m below meth c ls A hx hb hr hml hown hg hlocks hin hsz hK hP hD hS hA hAe hl
  rw [← hAe]
  replace hown : s.vm.findClass RX5 = some m.cls := hown
  replace hl : lv_has ls 7 [(0, .ref h0), (1, .int 0), (2, .int p1), (3, .int 3)] := hl
  refine lv_iload_n hx hb dX5_tellSecret_0 rfl (lv_at hl 2 rfl) ?_
  refine lv_istore (lv' := [(4, .int p1), (0, .ref h0), (1, .int 0), (2, .int p1), (3, .int 3)]) hx hb dX5_tellSecret_1 hl (by decide) rfl ?_
  clear hl
  clear ls
  intro ls hl
  refine lv_iload_n hx hb dX5_tellSecret_3 rfl (lv_at hl 4 rfl) ?_
  refine lv_iconst (v := 1) hx hb dX5_tellSecret_4 (by decide) ?_
  refine lv_isub hx hb dX5_tellSecret_5 ?_
  refine g_fi (v := 2) (by decide +kernel) ?_
  refine lv_istore (lv' := [(5, .int 2), (4, .int p1), (0, .ref h0), (1, .int 0), (2, .int p1), (3, .int 3)]) hx hb dX5_tellSecret_6 hl (by decide) rfl ?_
  clear hl
  clear ls
  intro ls hl
  refine lv_iload hx hb dX5_tellSecret_8 (lv_at hl 0 rfl) ?_
  refine lv_if_lt (tgt := 46) hx hb dX5_tellSecret_10 (by decide) (fun c9 => absurd c9 (by decide +kernel)) (fun _ => ?_)
  refine lv_aload_n hx hb dX5_tellSecret_13 rfl (lv_at hl 2 rfl) ?_
  refine gm_get (D := D) (ci := 5) (v := .ref h4) (C := RX5) (T := TX5) (N := 5) hx hb hg inlX5 hown hK.1 hP 0 rfl rfl 2 (by decide) tX5_2 (hg _ gw_140) rfl dX5_tellSecret_14 ?_
  refine lv_iload_n hx hb dX5_tellSecret_17 rfl (lv_at hl 3 rfl) ?_
  refine lv_bipush (v := 6) hx hb dX5_tellSecret_18 (by decide +kernel) ?_
  refine lv_imul hx hb dX5_tellSecret_20 ?_
  refine g_fi (v := 0) (by decide +kernel) ?_
  refine lv_iload hx hb dX5_tellSecret_21 (lv_at hl 0 rfl) ?_
  refine lv_iadd hx hb dX5_tellSecret_23 ?_
  refine g_fi (v := 2) (by decide +kernel) ?_
  refine lv_iload hx hb dX5_tellSecret_24 (lv_at hl 1 rfl) ?_
  refine lv_bipush (v := 10) hx hb dX5_tellSecret_26 (by decide +kernel) ?_
  refine lv_irem hx hb dX5_tellSecret_28 (by decide +kernel) ?_
  refine lv_i2l (v := ((p1 - p1 / 10 * 10).toInt64)) hx hb dX5_tellSecret_29 rfl ?_
  refine g_av (wr := [(h0, .inr (5, [.ref h2, .ref h3, .ref h4, .ref h5, .int wp4000241])), (h5, .inr (8, [.ref h10, .int wp4000244])), (h10, .inl (y 1, 3, .inr (.inl (fun _ => 0)))), (h2, .inr (8, [.ref h12, .int 0]))]) (va_runV (As := [.int 2, .long ((p1 - p1 / 10 * 10).toInt64)]) (rest := []) ⟨hx, hb, hml, hown, hg⟩ (k_X8_set_33 l D y aS s.heap.size h4 ((p1 - p1 / 10 * 10).toInt64) h7 wp4000242 wf4000243) (cwV 2 hg ggV_RX5_29_X8_set rfl rfl rfl (by decide +kernel) ⟨Nat.le_of_ble_eq_true rfl, Nat.le_of_ble_eq_true rfl⟩) (g_preV (q := (RX8, TX8, 2)) hK hP hD [1, 2] rfl (by decide) (ci := 8) (q0 := 1) rfl rfl) rfl rfl hl.1 rfl (lv_room (Nat.le_of_ble_eq_true rfl)) dX5_tellSecret_30 ⟨Nat.le_of_ble_eq_true rfl, Nat.le_of_ble_eq_true rfl⟩) hP hD hS hA [1, 2] [0, 3, 4, 5] rfl rfl (by decide) (by decide) ?_
  clear hP hD hS
  refine fun u H locs hq hP hD hS => ?_
  replace hP : va_P D vwCl [(h0, .inr (5, [.ref h2, .ref h3, .ref h4, .ref h5, .int wp4000241])), (h5, .inr (8, [.ref h10, .int wp4000244])), (h10, .inl (y 1, 3, .inr (.inl (fun _ => 0)))), (h2, .inr (8, [.ref h12, .int 0])), (h4, .inr (8, [.ref h7, .int wp4000242])), (h7, .inl (y 1, 18, .inr (.inl (vp_updL wf4000243 ((2 : Int32).toNatClampNeg) ((p1 - p1 / 10 * 10).toInt64)))))] H := hP
  replace hD : va_D A [(h0, .inr (5, [.ref h2, .ref h3, .ref h4, .ref h5, .int wp4000241])), (h5, .inr (8, [.ref h10, .int wp4000244])), (h10, .inl (y 1, 3, .inr (.inl (fun _ => 0)))), (h2, .inr (8, [.ref h12, .int 0])), (h4, .inr (8, [.ref h7, .int wp4000242])), (h7, .inl (y 1, 18, .inr (.inl (vp_updL wf4000243 ((2 : Int32).toNatClampNeg) ((p1 - p1 / 10 * 10).toInt64)))))] := hD
  refine lv_iload hx hb dX5_tellSecret_33 (lv_at hl 1 rfl) ?_
  refine lv_bipush (v := 10) hx hb dX5_tellSecret_35 (by decide +kernel) ?_
  refine lv_idiv hx hb dX5_tellSecret_37 (by decide +kernel) ?_
  refine lv_istore (lv' := [(4, .int (p1 / 10)), (5, .int 2), (0, .ref h0), (1, .int 0), (2, .int p1), (3, .int 3)]) hx hb dX5_tellSecret_38 hl (by decide) rfl ?_
  clear hl
  clear ls
  intro ls hl
  refine lv_iinc (v := 1) (lv' := [(5, .int 1), (4, .int (p1 / 10)), (0, .ref h0), (1, .int 0), (2, .int p1), (3, .int 3)]) hx hb dX5_tellSecret_40 hl (k := 1) rfl (by decide +kernel) (by decide) rfl ?_
  clear hl
  clear ls
  intro ls hl
  refine lv_goto (tgt := 8) hx hb dX5_tellSecret_43 (by decide) ?_
  refine lv_iload hx hb dX5_tellSecret_8 (lv_at hl 0 rfl) ?_
  refine lv_if_lt (tgt := 46) hx hb dX5_tellSecret_10 (by decide) (fun c9 => absurd c9 (by decide +kernel)) (fun _ => ?_)
  refine lv_aload_n hx hb dX5_tellSecret_13 rfl (lv_at hl 2 rfl) ?_
  refine gm_get (D := D) (ci := 5) (v := .ref h4) (C := RX5) (T := TX5) (N := 5) hx hb hg inlX5 hown hK.1 hP 0 rfl rfl 2 (by decide) tX5_2 (hg _ gw_140) rfl dX5_tellSecret_14 ?_
  refine lv_iload_n hx hb dX5_tellSecret_17 rfl (lv_at hl 3 rfl) ?_
  refine lv_bipush (v := 6) hx hb dX5_tellSecret_18 (by decide +kernel) ?_
  refine lv_imul hx hb dX5_tellSecret_20 ?_
  refine g_fi (v := 0) (by decide +kernel) ?_
  refine lv_iload hx hb dX5_tellSecret_21 (lv_at hl 0 rfl) ?_
  refine lv_iadd hx hb dX5_tellSecret_23 ?_
  refine g_fi (v := 1) (by decide +kernel) ?_
  refine lv_iload hx hb dX5_tellSecret_24 (lv_at hl 1 rfl) ?_
  refine lv_bipush (v := 10) hx hb dX5_tellSecret_26 (by decide +kernel) ?_
  refine lv_irem hx hb dX5_tellSecret_28 (by decide +kernel) ?_
  refine lv_i2l (v := (((p1 / 10) - (p1 / 10) / 10 * 10).toInt64)) hx hb dX5_tellSecret_29 rfl ?_
  refine g_av (wr := [(h0, .inr (5, [.ref h2, .ref h3, .ref h4, .ref h5, .int wp4000241])), (h5, .inr (8, [.ref h10, .int wp4000244])), (h10, .inl (y 1, 3, .inr (.inl (fun _ => 0)))), (h2, .inr (8, [.ref h12, .int 0]))]) (va_runV (As := [.int 1, .long (((p1 / 10) - (p1 / 10) / 10 * 10).toInt64)]) (rest := []) ⟨hx, hb, hml, hown, hg⟩ (k_X8_set_27 l D y aS H.size h4 (((p1 / 10) - (p1 / 10) / 10 * 10).toInt64) h7 wp4000242 (vp_updL wf4000243 ((2 : Int32).toNatClampNeg) ((p1 - p1 / 10 * 10).toInt64))) (cwV 2 hg ggV_RX5_29_X8_set rfl rfl rfl (by decide +kernel) ⟨Nat.le_of_ble_eq_true rfl, Nat.le_of_ble_eq_true rfl⟩) (g_preV (q := (RX8, TX8, 2)) hK hP hD [4, 5] rfl (by decide) (ci := 8) (q0 := 4) rfl rfl) rfl rfl hl.1 rfl (lv_room (Nat.le_of_ble_eq_true rfl)) dX5_tellSecret_30 ⟨Nat.le_of_ble_eq_true rfl, Nat.le_of_ble_eq_true rfl⟩) hP hD hS hA [4, 5] [0, 1, 2, 3] rfl rfl (by decide) (by decide) ?_
  clear hP hD hS H locs
  refine fun u H locs hq hP hD hS => ?_
  replace hP : va_P D vwCl [(h0, .inr (5, [.ref h2, .ref h3, .ref h4, .ref h5, .int wp4000241])), (h5, .inr (8, [.ref h10, .int wp4000244])), (h10, .inl (y 1, 3, .inr (.inl (fun _ => 0)))), (h2, .inr (8, [.ref h12, .int 0])), (h4, .inr (8, [.ref h7, .int wp4000242])), (h7, .inl (y 1, 18, .inr (.inl (vp_updL (vp_updL wf4000243 ((2 : Int32).toNatClampNeg) ((p1 - p1 / 10 * 10).toInt64)) ((1 : Int32).toNatClampNeg) (((p1 / 10) - (p1 / 10) / 10 * 10).toInt64)))))] H := hP
  replace hD : va_D A [(h0, .inr (5, [.ref h2, .ref h3, .ref h4, .ref h5, .int wp4000241])), (h5, .inr (8, [.ref h10, .int wp4000244])), (h10, .inl (y 1, 3, .inr (.inl (fun _ => 0)))), (h2, .inr (8, [.ref h12, .int 0])), (h4, .inr (8, [.ref h7, .int wp4000242])), (h7, .inl (y 1, 18, .inr (.inl (vp_updL (vp_updL wf4000243 ((2 : Int32).toNatClampNeg) ((p1 - p1 / 10 * 10).toInt64)) ((1 : Int32).toNatClampNeg) (((p1 / 10) - (p1 / 10) / 10 * 10).toInt64)))))] := hD
  refine lv_iload hx hb dX5_tellSecret_33 (lv_at hl 1 rfl) ?_
  refine lv_bipush (v := 10) hx hb dX5_tellSecret_35 (by decide +kernel) ?_
  refine lv_idiv hx hb dX5_tellSecret_37 (by decide +kernel) ?_
  refine lv_istore (lv' := [(4, .int ((p1 / 10) / 10)), (5, .int 1), (0, .ref h0), (1, .int 0), (2, .int p1), (3, .int 3)]) hx hb dX5_tellSecret_38 hl (by decide) rfl ?_
  clear hl
  clear ls
  intro ls hl
  refine lv_iinc (v := 0) (lv' := [(5, .int 0), (4, .int ((p1 / 10) / 10)), (0, .ref h0), (1, .int 0), (2, .int p1), (3, .int 3)]) hx hb dX5_tellSecret_40 hl (k := 1) rfl (by decide +kernel) (by decide) rfl ?_
  clear hl
  clear ls
  intro ls hl
  refine lv_goto (tgt := 8) hx hb dX5_tellSecret_43 (by decide) ?_
  refine lv_iload hx hb dX5_tellSecret_8 (lv_at hl 0 rfl) ?_
  refine lv_if_lt (tgt := 46) hx hb dX5_tellSecret_10 (by decide) (fun c9 => absurd c9 (by decide +kernel)) (fun _ => ?_)
  refine lv_aload_n hx hb dX5_tellSecret_13 rfl (lv_at hl 2 rfl) ?_
  refine gm_get (D := D) (ci := 5) (v := .ref h4) (C := RX5) (T := TX5) (N := 5) hx hb hg inlX5 hown hK.1 hP 0 rfl rfl 2 (by decide) tX5_2 (hg _ gw_140) rfl dX5_tellSecret_14 ?_
  refine lv_iload_n hx hb dX5_tellSecret_17 rfl (lv_at hl 3 rfl) ?_
  refine lv_bipush (v := 6) hx hb dX5_tellSecret_18 (by decide +kernel) ?_
  refine lv_imul hx hb dX5_tellSecret_20 ?_
  refine g_fi (v := 0) (by decide +kernel) ?_
  refine lv_iload hx hb dX5_tellSecret_21 (lv_at hl 0 rfl) ?_
  refine lv_iadd hx hb dX5_tellSecret_23 ?_
  refine g_fi (v := 0) (by decide +kernel) ?_
  refine lv_iload hx hb dX5_tellSecret_24 (lv_at hl 1 rfl) ?_
  refine lv_bipush (v := 10) hx hb dX5_tellSecret_26 (by decide +kernel) ?_
  refine lv_irem hx hb dX5_tellSecret_28 (by decide +kernel) ?_
  refine lv_i2l (v := ((((p1 / 10) / 10) - ((p1 / 10) / 10) / 10 * 10).toInt64)) hx hb dX5_tellSecret_29 rfl ?_
  refine g_av (wr := [(h0, .inr (5, [.ref h2, .ref h3, .ref h4, .ref h5, .int wp4000241])), (h5, .inr (8, [.ref h10, .int wp4000244])), (h10, .inl (y 1, 3, .inr (.inl (fun _ => 0)))), (h2, .inr (8, [.ref h12, .int 0]))]) (va_runV (As := [.int 0, .long ((((p1 / 10) / 10) - ((p1 / 10) / 10) / 10 * 10).toInt64)]) (rest := []) ⟨hx, hb, hml, hown, hg⟩ (k_X8_set_28 l D y aS H.size h4 ((((p1 / 10) / 10) - ((p1 / 10) / 10) / 10 * 10).toInt64) h7 wp4000242 (vp_updL (vp_updL wf4000243 ((2 : Int32).toNatClampNeg) ((p1 - p1 / 10 * 10).toInt64)) ((1 : Int32).toNatClampNeg) (((p1 / 10) - (p1 / 10) / 10 * 10).toInt64))) (cwV 2 hg ggV_RX5_29_X8_set rfl rfl rfl (by decide +kernel) ⟨Nat.le_of_ble_eq_true rfl, Nat.le_of_ble_eq_true rfl⟩) (g_preV (q := (RX8, TX8, 2)) hK hP hD [4, 5] rfl (by decide) (ci := 8) (q0 := 4) rfl rfl) rfl rfl hl.1 rfl (lv_room (Nat.le_of_ble_eq_true rfl)) dX5_tellSecret_30 ⟨Nat.le_of_ble_eq_true rfl, Nat.le_of_ble_eq_true rfl⟩) hP hD hS hA [4, 5] [0, 1, 2, 3] rfl rfl (by decide) (by decide) ?_
  clear hP hD hS H locs
  refine fun u H locs hq hP hD hS => ?_
  replace hP : va_P D vwCl [(h0, .inr (5, [.ref h2, .ref h3, .ref h4, .ref h5, .int wp4000241])), (h5, .inr (8, [.ref h10, .int wp4000244])), (h10, .inl (y 1, 3, .inr (.inl (fun _ => 0)))), (h2, .inr (8, [.ref h12, .int 0])), (h4, .inr (8, [.ref h7, .int wp4000242])), (h7, .inl (y 1, 18, .inr (.inl (vp_updL (vp_updL (vp_updL wf4000243 ((2 : Int32).toNatClampNeg) ((p1 - p1 / 10 * 10).toInt64)) ((1 : Int32).toNatClampNeg) (((p1 / 10) - (p1 / 10) / 10 * 10).toInt64)) ((0 : Int32).toNatClampNeg) ((((p1 / 10) / 10) - ((p1 / 10) / 10) / 10 * 10).toInt64)))))] H := hP
  replace hD : va_D A [(h0, .inr (5, [.ref h2, .ref h3, .ref h4, .ref h5, .int wp4000241])), (h5, .inr (8, [.ref h10, .int wp4000244])), (h10, .inl (y 1, 3, .inr (.inl (fun _ => 0)))), (h2, .inr (8, [.ref h12, .int 0])), (h4, .inr (8, [.ref h7, .int wp4000242])), (h7, .inl (y 1, 18, .inr (.inl (vp_updL (vp_updL (vp_updL wf4000243 ((2 : Int32).toNatClampNeg) ((p1 - p1 / 10 * 10).toInt64)) ((1 : Int32).toNatClampNeg) (((p1 / 10) - (p1 / 10) / 10 * 10).toInt64)) ((0 : Int32).toNatClampNeg) ((((p1 / 10) / 10) - ((p1 / 10) / 10) / 10 * 10).toInt64)))))] := hD
  refine lv_iload hx hb dX5_tellSecret_33 (lv_at hl 1 rfl) ?_
  refine lv_bipush (v := 10) hx hb dX5_tellSecret_35 (by decide +kernel) ?_
  refine lv_idiv hx hb dX5_tellSecret_37 (by decide +kernel) ?_
  refine lv_istore (lv' := [(4, .int (((p1 / 10) / 10) / 10)), (5, .int 0), (0, .ref h0), (1, .int 0), (2, .int p1), (3, .int 3)]) hx hb dX5_tellSecret_38 hl (by decide) rfl ?_
  clear hl
  clear ls
  intro ls hl
  refine lv_iinc (v := (-1)) (lv' := [(5, .int (-1)), (4, .int (((p1 / 10) / 10) / 10)), (0, .ref h0), (1, .int 0), (2, .int p1), (3, .int 3)]) hx hb dX5_tellSecret_40 hl (k := 1) rfl (by decide +kernel) (by decide) rfl ?_
  clear hl
  clear ls
  intro ls hl
  refine lv_goto (tgt := 8) hx hb dX5_tellSecret_43 (by decide) ?_
  refine lv_iload hx hb dX5_tellSecret_8 (lv_at hl 0 rfl) ?_
  refine lv_if_lt (tgt := 46) hx hb dX5_tellSecret_10 (by decide) (fun _ => ?_) (fun c9 => absurd c9 (by decide +kernel))
  refine lv_aload_n hx hb dX5_tellSecret_46 rfl (lv_at hl 2 rfl) ?_
  refine gm_get (D := D) (ci := 5) (v := .ref h5) (C := RX5) (T := TX5) (N := 5) hx hb hg inlX5 hown hK.1 hP 0 rfl rfl 3 (by decide) tX5_3 (hg _ gw_141) rfl dX5_tellSecret_47 ?_
  refine lv_iload_n hx hb dX5_tellSecret_50 rfl (lv_at hl 3 rfl) ?_
  refine lv_iload_n hx hb dX5_tellSecret_51 rfl (lv_at hl 5 rfl) ?_
  refine lv_i2l (v := 3) hx hb dX5_tellSecret_52 (by decide +kernel) ?_
  refine g_av (wr := [(h0, .inr (5, [.ref h2, .ref h3, .ref h4, .ref h5, .int wp4000241])), (h2, .inr (8, [.ref h12, .int 0])), (h4, .inr (8, [.ref h7, .int wp4000242])), (h7, .inl (y 1, 18, .inr (.inl (vp_updL (vp_updL (vp_updL wf4000243 ((2 : Int32).toNatClampNeg) ((p1 - p1 / 10 * 10).toInt64)) ((1 : Int32).toNatClampNeg) (((p1 / 10) - (p1 / 10) / 10 * 10).toInt64)) ((0 : Int32).toNatClampNeg) ((((p1 / 10) / 10) - ((p1 / 10) / 10) / 10 * 10).toInt64)))))]) (va_runV (As := [.int 0, .long 3]) (rest := []) ⟨hx, hb, hml, hown, hg⟩ (k_X8_set_24 l D y aS H.size h5 3 h10 wp4000244 (fun _ => 0)) (cwV 2 hg ggV_RX5_29_X8_set rfl rfl rfl (by decide +kernel) ⟨Nat.le_of_ble_eq_true rfl, Nat.le_of_ble_eq_true rfl⟩) (g_preV (q := (RX8, TX8, 2)) hK hP hD [1, 2] rfl (by decide) (ci := 8) (q0 := 1) rfl rfl) rfl rfl hl.1 rfl (lv_room (Nat.le_of_ble_eq_true rfl)) dX5_tellSecret_53 ⟨Nat.le_of_ble_eq_true rfl, Nat.le_of_ble_eq_true rfl⟩) hP hD hS hA [1, 2] [0, 3, 4, 5] rfl rfl (by decide) (by decide) ?_
  clear hP hD hS H locs
  refine fun u H locs hq hP hD hS => ?_
  replace hP : va_P D vwCl [(h0, .inr (5, [.ref h2, .ref h3, .ref h4, .ref h5, .int wp4000241])), (h2, .inr (8, [.ref h12, .int 0])), (h4, .inr (8, [.ref h7, .int wp4000242])), (h7, .inl (y 1, 18, .inr (.inl (vp_updL (vp_updL (vp_updL wf4000243 ((2 : Int32).toNatClampNeg) ((p1 - p1 / 10 * 10).toInt64)) ((1 : Int32).toNatClampNeg) (((p1 / 10) - (p1 / 10) / 10 * 10).toInt64)) ((0 : Int32).toNatClampNeg) ((((p1 / 10) / 10) - ((p1 / 10) / 10) / 10 * 10).toInt64))))), (h5, .inr (8, [.ref h10, .int wp4000244])), (h10, .inl (y 1, 3, .inr (.inl (vp_updL (fun _ => 0) ((0 : Int32).toNatClampNeg) 3))))] H := hP
  replace hD : va_D A [(h0, .inr (5, [.ref h2, .ref h3, .ref h4, .ref h5, .int wp4000241])), (h2, .inr (8, [.ref h12, .int 0])), (h4, .inr (8, [.ref h7, .int wp4000242])), (h7, .inl (y 1, 18, .inr (.inl (vp_updL (vp_updL (vp_updL wf4000243 ((2 : Int32).toNatClampNeg) ((p1 - p1 / 10 * 10).toInt64)) ((1 : Int32).toNatClampNeg) (((p1 / 10) - (p1 / 10) / 10 * 10).toInt64)) ((0 : Int32).toNatClampNeg) ((((p1 / 10) / 10) - ((p1 / 10) / 10) / 10 * 10).toInt64))))), (h5, .inr (8, [.ref h10, .int wp4000244])), (h10, .inl (y 1, 3, .inr (.inl (vp_updL (fun _ => 0) ((0 : Int32).toNatClampNeg) 3))))] := hD
  refine lv_aload_n hx hb dX5_tellSecret_56 rfl (lv_at hl 2 rfl) ?_
  refine g_av (wr := [(h4, .inr (8, [.ref h7, .int wp4000242])), (h7, .inl (y 1, 18, .inr (.inl (vp_updL (vp_updL (vp_updL wf4000243 ((2 : Int32).toNatClampNeg) ((p1 - p1 / 10 * 10).toInt64)) ((1 : Int32).toNatClampNeg) (((p1 / 10) - (p1 / 10) / 10 * 10).toInt64)) ((0 : Int32).toNatClampNeg) ((((p1 / 10) / 10) - ((p1 / 10) / 10) / 10 * 10).toInt64))))), (h5, .inr (8, [.ref h10, .int wp4000244])), (h10, .inl (y 1, 3, .inr (.inl (vp_updL (fun _ => 0) ((0 : Int32).toNatClampNeg) 3))))]) (va_runV (As := []) (rest := []) ⟨hx, hb, hml, hown, hg⟩ (k_X5_findOut_0 l D y aS H.size h0 h2 h3 h4 h5 wp4000241 h12) (cwV 0 hg ggV_RX5_33_X5_findOut rfl rfl rfl (by decide +kernel) ⟨Nat.le_of_ble_eq_true rfl, Nat.le_of_ble_eq_true rfl⟩) (g_preV (q := (RX5, TX5, 5)) hK hP hD [0, 1] rfl (by decide) (ci := 5) (q0 := 0) rfl rfl) rfl rfl hl.1 rfl (lv_room (Nat.le_of_ble_eq_true rfl)) dX5_tellSecret_57 ⟨Nat.le_of_ble_eq_true rfl, Nat.le_of_ble_eq_true rfl⟩) hP hD hS hA [0, 1] [2, 3, 4, 5] rfl rfl (by decide) (by decide) ?_
  clear hP hD hS H locs
  refine fun u H locs hq hP hD hS => ?_
  replace hP : va_P D vwCl [(h4, .inr (8, [.ref h7, .int wp4000242])), (h7, .inl (y 1, 18, .inr (.inl (vp_updL (vp_updL (vp_updL wf4000243 ((2 : Int32).toNatClampNeg) ((p1 - p1 / 10 * 10).toInt64)) ((1 : Int32).toNatClampNeg) (((p1 / 10) - (p1 / 10) / 10 * 10).toInt64)) ((0 : Int32).toNatClampNeg) ((((p1 / 10) / 10) - ((p1 / 10) / 10) / 10 * 10).toInt64))))), (h5, .inr (8, [.ref h10, .int wp4000244])), (h10, .inl (y 1, 3, .inr (.inl (vp_updL (fun _ => 0) ((0 : Int32).toNatClampNeg) 3)))), (h0, .inr (5, [.ref h2, .ref h3, .ref h4, .ref h5, .int 0])), (h2, .inr (8, [.ref h12, .int 0]))] H := hP
  replace hD : va_D A [(h4, .inr (8, [.ref h7, .int wp4000242])), (h7, .inl (y 1, 18, .inr (.inl (vp_updL (vp_updL (vp_updL wf4000243 ((2 : Int32).toNatClampNeg) ((p1 - p1 / 10 * 10).toInt64)) ((1 : Int32).toNatClampNeg) (((p1 / 10) - (p1 / 10) / 10 * 10).toInt64)) ((0 : Int32).toNatClampNeg) ((((p1 / 10) / 10) - ((p1 / 10) / 10) / 10 * 10).toInt64))))), (h5, .inr (8, [.ref h10, .int wp4000244])), (h10, .inl (y 1, 3, .inr (.inl (vp_updL (fun _ => 0) ((0 : Int32).toNatClampNeg) 3)))), (h0, .inr (5, [.ref h2, .ref h3, .ref h4, .ref h5, .int 0])), (h2, .inr (8, [.ref h12, .int 0]))] := hD
  refine lv_iconst (v := 0) hx hb dX5_tellSecret_60 (by decide) ?_
  refine lv_istore (lv' := [(5, .int 0), (4, .int (((p1 / 10) / 10) / 10)), (0, .ref h0), (1, .int 0), (2, .int p1), (3, .int 3)]) hx hb dX5_tellSecret_61 hl (by decide) rfl ?_
  clear hl
  clear ls
  intro ls hl
  refine lv_iconst (v := 0) hx hb dX5_tellSecret_63 (by decide) ?_
  refine lv_istore (lv' := [(6, .int 0), (5, .int 0), (4, .int (((p1 / 10) / 10) / 10)), (0, .ref h0), (1, .int 0), (2, .int p1), (3, .int 3)]) hx hb dX5_tellSecret_64 hl (by decide) rfl ?_
  clear hl
  clear ls
  intro ls hl
  refine lv_iload hx hb dX5_tellSecret_66 (lv_at hl 0 rfl) ?_
  refine lv_iconst (v := 3) hx hb dX5_tellSecret_68 (by decide) ?_
  refine lv_icmp_ge (tgt := 95) hx hb dX5_tellSecret_69 (by decide) (fun c9 => absurd c9 (by decide +kernel)) (fun _ => ?_)
  refine lv_aload_n hx hb dX5_tellSecret_72 rfl (lv_at hl 3 rfl) ?_
  refine gm_get (D := D) (ci := 5) (v := .ref h5) (C := RX5) (T := TX5) (N := 5) hx hb hg inlX5 hown hK.1 hP 4 rfl rfl 3 (by decide) tX5_3 (hg _ gw_141) rfl dX5_tellSecret_73 ?_
  refine lv_iload hx hb dX5_tellSecret_76 (lv_at hl 0 rfl) ?_
  refine g_al (wr := [(h4, .inr (8, [.ref h7, .int wp4000242])), (h7, .inl (y 1, 18, .inr (.inl (vp_updL (vp_updL (vp_updL wf4000243 ((2 : Int32).toNatClampNeg) ((p1 - p1 / 10 * 10).toInt64)) ((1 : Int32).toNatClampNeg) (((p1 / 10) - (p1 / 10) / 10 * 10).toInt64)) ((0 : Int32).toNatClampNeg) ((((p1 / 10) / 10) - ((p1 / 10) / 10) / 10 * 10).toInt64))))), (h0, .inr (5, [.ref h2, .ref h3, .ref h4, .ref h5, .int 0])), (h2, .inr (8, [.ref h12, .int 0]))]) (va_runV (As := [.int 0]) (rest := []) ⟨hx, hb, hml, hown, hg⟩ (k_X8_get_11 l D y aS H.size h5 h10 wp4000244) (cwV 1 hg ggV_RX5_36_X8_get rfl rfl rfl (by decide +kernel) ⟨Nat.le_of_ble_eq_true rfl, Nat.le_of_ble_eq_true rfl⟩) (g_preV (q := (RX8, TX8, 2)) hK hP hD [2, 3] rfl (by decide) (ci := 8) (q0 := 2) rfl rfl) rfl rfl hl.1 rfl (lv_room (Nat.le_of_ble_eq_true rfl)) dX5_tellSecret_78 ⟨Nat.le_of_ble_eq_true rfl, Nat.le_of_ble_eq_true rfl⟩) hP hD hS hA [2, 3] [0, 1, 4, 5] rfl rfl (by decide) (by decide) ?_
  clear hP hD hS H locs
  refine fun r4000250 u H locs hq hP hD hS => ?_
  subst hq
  replace hP : va_P D vwCl [(h4, .inr (8, [.ref h7, .int wp4000242])), (h7, .inl (y 1, 18, .inr (.inl (vp_updL (vp_updL (vp_updL wf4000243 ((2 : Int32).toNatClampNeg) ((p1 - p1 / 10 * 10).toInt64)) ((1 : Int32).toNatClampNeg) (((p1 / 10) - (p1 / 10) / 10 * 10).toInt64)) ((0 : Int32).toNatClampNeg) ((((p1 / 10) / 10) - ((p1 / 10) / 10) / 10 * 10).toInt64))))), (h0, .inr (5, [.ref h2, .ref h3, .ref h4, .ref h5, .int 0])), (h2, .inr (8, [.ref h12, .int 0])), (h5, .inr (8, [.ref h10, .int wp4000244])), (h10, .inl (y 1, 3, .inr (.inl (vp_updL (fun _ => 0) ((0 : Int32).toNatClampNeg) 3))))] H := hP
  replace hD : va_D A [(h4, .inr (8, [.ref h7, .int wp4000242])), (h7, .inl (y 1, 18, .inr (.inl (vp_updL (vp_updL (vp_updL wf4000243 ((2 : Int32).toNatClampNeg) ((p1 - p1 / 10 * 10).toInt64)) ((1 : Int32).toNatClampNeg) (((p1 / 10) - (p1 / 10) / 10 * 10).toInt64)) ((0 : Int32).toNatClampNeg) ((((p1 / 10) / 10) - ((p1 / 10) / 10) / 10 * 10).toInt64))))), (h0, .inr (5, [.ref h2, .ref h3, .ref h4, .ref h5, .int 0])), (h2, .inr (8, [.ref h12, .int 0])), (h5, .inr (8, [.ref h10, .int wp4000244])), (h10, .inl (y 1, 3, .inr (.inl (vp_updL (fun _ => 0) ((0 : Int32).toNatClampNeg) 3))))] := hD
  refine lv_lconst (v := 0) hx hb dX5_tellSecret_81 (by decide) ?_
  refine W.lcmp hx hb dX5_tellSecret_82 ?_
  refine g_fi (v := 1) (by decide +kernel) ?_
  refine lv_if_le (tgt := 89) hx hb dX5_tellSecret_83 (by decide) (fun c9 => absurd c9 (by decide +kernel)) (fun _ => ?_)
  refine lv_iinc (v := 1) (lv' := [(5, .int 1), (6, .int 0), (4, .int (((p1 / 10) / 10) / 10)), (0, .ref h0), (1, .int 0), (2, .int p1), (3, .int 3)]) hx hb dX5_tellSecret_86 hl (k := 1) rfl (by decide +kernel) (by decide) rfl ?_
  clear hl
  clear ls
  intro ls hl
  refine lv_iinc (v := 1) (lv' := [(6, .int 1), (5, .int 1), (4, .int (((p1 / 10) / 10) / 10)), (0, .ref h0), (1, .int 0), (2, .int p1), (3, .int 3)]) hx hb dX5_tellSecret_89 hl (k := 1) rfl (by decide +kernel) (by decide) rfl ?_
  clear hl
  clear ls
  intro ls hl
  refine lv_goto (tgt := 66) hx hb dX5_tellSecret_92 (by decide) ?_
  refine lv_iload hx hb dX5_tellSecret_66 (lv_at hl 0 rfl) ?_
  refine lv_iconst (v := 3) hx hb dX5_tellSecret_68 (by decide) ?_
  refine lv_icmp_ge (tgt := 95) hx hb dX5_tellSecret_69 (by decide) (fun c9 => absurd c9 (by decide +kernel)) (fun _ => ?_)
  refine lv_aload_n hx hb dX5_tellSecret_72 rfl (lv_at hl 3 rfl) ?_
  refine gm_get (D := D) (ci := 5) (v := .ref h5) (C := RX5) (T := TX5) (N := 5) hx hb hg inlX5 hown hK.1 hP 2 rfl rfl 3 (by decide) tX5_3 (hg _ gw_141) rfl dX5_tellSecret_73 ?_
  refine lv_iload hx hb dX5_tellSecret_76 (lv_at hl 0 rfl) ?_
  refine g_al (wr := [(h4, .inr (8, [.ref h7, .int wp4000242])), (h7, .inl (y 1, 18, .inr (.inl (vp_updL (vp_updL (vp_updL wf4000243 ((2 : Int32).toNatClampNeg) ((p1 - p1 / 10 * 10).toInt64)) ((1 : Int32).toNatClampNeg) (((p1 / 10) - (p1 / 10) / 10 * 10).toInt64)) ((0 : Int32).toNatClampNeg) ((((p1 / 10) / 10) - ((p1 / 10) / 10) / 10 * 10).toInt64))))), (h0, .inr (5, [.ref h2, .ref h3, .ref h4, .ref h5, .int 0])), (h2, .inr (8, [.ref h12, .int 0]))]) (va_runV (As := [.int 1]) (rest := []) ⟨hx, hb, hml, hown, hg⟩ (k_X8_get_12 l D y aS H.size h5 h10 wp4000244) (cwV 1 hg ggV_RX5_36_X8_get rfl rfl rfl (by decide +kernel) ⟨Nat.le_of_ble_eq_true rfl, Nat.le_of_ble_eq_true rfl⟩) (g_preV (q := (RX8, TX8, 2)) hK hP hD [4, 5] rfl (by decide) (ci := 8) (q0 := 4) rfl rfl) rfl rfl hl.1 rfl (lv_room (Nat.le_of_ble_eq_true rfl)) dX5_tellSecret_78 ⟨Nat.le_of_ble_eq_true rfl, Nat.le_of_ble_eq_true rfl⟩) hP hD hS hA [4, 5] [0, 1, 2, 3] rfl rfl (by decide) (by decide) ?_
  clear hP hD hS H locs
  refine fun r4000251 u H locs hq hP hD hS => ?_
  subst hq
  replace hP : va_P D vwCl [(h4, .inr (8, [.ref h7, .int wp4000242])), (h7, .inl (y 1, 18, .inr (.inl (vp_updL (vp_updL (vp_updL wf4000243 ((2 : Int32).toNatClampNeg) ((p1 - p1 / 10 * 10).toInt64)) ((1 : Int32).toNatClampNeg) (((p1 / 10) - (p1 / 10) / 10 * 10).toInt64)) ((0 : Int32).toNatClampNeg) ((((p1 / 10) / 10) - ((p1 / 10) / 10) / 10 * 10).toInt64))))), (h0, .inr (5, [.ref h2, .ref h3, .ref h4, .ref h5, .int 0])), (h2, .inr (8, [.ref h12, .int 0])), (h5, .inr (8, [.ref h10, .int wp4000244])), (h10, .inl (y 1, 3, .inr (.inl (vp_updL (fun _ => 0) ((0 : Int32).toNatClampNeg) 3))))] H := hP
  replace hD : va_D A [(h4, .inr (8, [.ref h7, .int wp4000242])), (h7, .inl (y 1, 18, .inr (.inl (vp_updL (vp_updL (vp_updL wf4000243 ((2 : Int32).toNatClampNeg) ((p1 - p1 / 10 * 10).toInt64)) ((1 : Int32).toNatClampNeg) (((p1 / 10) - (p1 / 10) / 10 * 10).toInt64)) ((0 : Int32).toNatClampNeg) ((((p1 / 10) / 10) - ((p1 / 10) / 10) / 10 * 10).toInt64))))), (h0, .inr (5, [.ref h2, .ref h3, .ref h4, .ref h5, .int 0])), (h2, .inr (8, [.ref h12, .int 0])), (h5, .inr (8, [.ref h10, .int wp4000244])), (h10, .inl (y 1, 3, .inr (.inl (vp_updL (fun _ => 0) ((0 : Int32).toNatClampNeg) 3))))] := hD
  refine lv_lconst (v := 0) hx hb dX5_tellSecret_81 (by decide) ?_
  refine W.lcmp hx hb dX5_tellSecret_82 ?_
  refine g_fi (v := 0) (by decide +kernel) ?_
  refine lv_if_le (tgt := 89) hx hb dX5_tellSecret_83 (by decide) (fun _ => ?_) (fun c9 => absurd c9 (by decide +kernel))
  refine lv_iinc (v := 2) (lv' := [(6, .int 2), (5, .int 1), (4, .int (((p1 / 10) / 10) / 10)), (0, .ref h0), (1, .int 0), (2, .int p1), (3, .int 3)]) hx hb dX5_tellSecret_89 hl (k := 0) rfl (by decide +kernel) (by decide) rfl ?_
  clear hl
  clear ls
  intro ls hl
  refine lv_goto (tgt := 66) hx hb dX5_tellSecret_92 (by decide) ?_
  refine lv_iload hx hb dX5_tellSecret_66 (lv_at hl 0 rfl) ?_
  refine lv_iconst (v := 3) hx hb dX5_tellSecret_68 (by decide) ?_
  refine lv_icmp_ge (tgt := 95) hx hb dX5_tellSecret_69 (by decide) (fun c9 => absurd c9 (by decide +kernel)) (fun _ => ?_)
  refine lv_aload_n hx hb dX5_tellSecret_72 rfl (lv_at hl 3 rfl) ?_
  refine gm_get (D := D) (ci := 5) (v := .ref h5) (C := RX5) (T := TX5) (N := 5) hx hb hg inlX5 hown hK.1 hP 2 rfl rfl 3 (by decide) tX5_3 (hg _ gw_141) rfl dX5_tellSecret_73 ?_
  refine lv_iload hx hb dX5_tellSecret_76 (lv_at hl 0 rfl) ?_
  refine g_al (wr := [(h4, .inr (8, [.ref h7, .int wp4000242])), (h7, .inl (y 1, 18, .inr (.inl (vp_updL (vp_updL (vp_updL wf4000243 ((2 : Int32).toNatClampNeg) ((p1 - p1 / 10 * 10).toInt64)) ((1 : Int32).toNatClampNeg) (((p1 / 10) - (p1 / 10) / 10 * 10).toInt64)) ((0 : Int32).toNatClampNeg) ((((p1 / 10) / 10) - ((p1 / 10) / 10) / 10 * 10).toInt64))))), (h0, .inr (5, [.ref h2, .ref h3, .ref h4, .ref h5, .int 0])), (h2, .inr (8, [.ref h12, .int 0]))]) (va_runV (As := [.int 2]) (rest := []) ⟨hx, hb, hml, hown, hg⟩ (k_X8_get_13 l D y aS H.size h5 h10 wp4000244) (cwV 1 hg ggV_RX5_36_X8_get rfl rfl rfl (by decide +kernel) ⟨Nat.le_of_ble_eq_true rfl, Nat.le_of_ble_eq_true rfl⟩) (g_preV (q := (RX8, TX8, 2)) hK hP hD [4, 5] rfl (by decide) (ci := 8) (q0 := 4) rfl rfl) rfl rfl hl.1 rfl (lv_room (Nat.le_of_ble_eq_true rfl)) dX5_tellSecret_78 ⟨Nat.le_of_ble_eq_true rfl, Nat.le_of_ble_eq_true rfl⟩) hP hD hS hA [4, 5] [0, 1, 2, 3] rfl rfl (by decide) (by decide) ?_
  clear hP hD hS H locs
  refine fun r4000252 u H locs hq hP hD hS => ?_
  subst hq
  replace hP : va_P D vwCl [(h4, .inr (8, [.ref h7, .int wp4000242])), (h7, .inl (y 1, 18, .inr (.inl (vp_updL (vp_updL (vp_updL wf4000243 ((2 : Int32).toNatClampNeg) ((p1 - p1 / 10 * 10).toInt64)) ((1 : Int32).toNatClampNeg) (((p1 / 10) - (p1 / 10) / 10 * 10).toInt64)) ((0 : Int32).toNatClampNeg) ((((p1 / 10) / 10) - ((p1 / 10) / 10) / 10 * 10).toInt64))))), (h0, .inr (5, [.ref h2, .ref h3, .ref h4, .ref h5, .int 0])), (h2, .inr (8, [.ref h12, .int 0])), (h5, .inr (8, [.ref h10, .int wp4000244])), (h10, .inl (y 1, 3, .inr (.inl (vp_updL (fun _ => 0) ((0 : Int32).toNatClampNeg) 3))))] H := hP
  replace hD : va_D A [(h4, .inr (8, [.ref h7, .int wp4000242])), (h7, .inl (y 1, 18, .inr (.inl (vp_updL (vp_updL (vp_updL wf4000243 ((2 : Int32).toNatClampNeg) ((p1 - p1 / 10 * 10).toInt64)) ((1 : Int32).toNatClampNeg) (((p1 / 10) - (p1 / 10) / 10 * 10).toInt64)) ((0 : Int32).toNatClampNeg) ((((p1 / 10) / 10) - ((p1 / 10) / 10) / 10 * 10).toInt64))))), (h0, .inr (5, [.ref h2, .ref h3, .ref h4, .ref h5, .int 0])), (h2, .inr (8, [.ref h12, .int 0])), (h5, .inr (8, [.ref h10, .int wp4000244])), (h10, .inl (y 1, 3, .inr (.inl (vp_updL (fun _ => 0) ((0 : Int32).toNatClampNeg) 3))))] := hD
  refine lv_lconst (v := 0) hx hb dX5_tellSecret_81 (by decide) ?_
  refine W.lcmp hx hb dX5_tellSecret_82 ?_
  refine g_fi (v := 0) (by decide +kernel) ?_
  refine lv_if_le (tgt := 89) hx hb dX5_tellSecret_83 (by decide) (fun _ => ?_) (fun c9 => absurd c9 (by decide +kernel))
  refine lv_iinc (v := 3) (lv' := [(6, .int 3), (5, .int 1), (4, .int (((p1 / 10) / 10) / 10)), (0, .ref h0), (1, .int 0), (2, .int p1), (3, .int 3)]) hx hb dX5_tellSecret_89 hl (k := 0) rfl (by decide +kernel) (by decide) rfl ?_
  clear hl
  clear ls
  intro ls hl
  refine lv_goto (tgt := 66) hx hb dX5_tellSecret_92 (by decide) ?_
  refine lv_iload hx hb dX5_tellSecret_66 (lv_at hl 0 rfl) ?_
  refine lv_iconst (v := 3) hx hb dX5_tellSecret_68 (by decide) ?_
  refine lv_icmp_ge (tgt := 95) hx hb dX5_tellSecret_69 (by decide) (fun _ => ?_) (fun c9 => absurd c9 (by decide +kernel))
  refine lv_iload hx hb dX5_tellSecret_95 (lv_at hl 1 rfl) ?_
  exact g_iret hx hb hr hlocks () (hP.sub [2, 0, 1, 4, 5, 3] rfl) (hD.sub [2, 0, 1, 4, 5, 3] (by decide +kernel) rfl) hS rfl rfl (Nat.le_of_ble_eq_true rfl) (Nat.le_of_ble_eq_true rfl) dX5_tellSecret_97
set_option maxRecDepth 100000 in
set_option maxHeartbeats 4000000 in
theorem k_X8_set_34 (l : Launch) (D : va_G) (y : Nat → ClassId) (aS : Nat → Nat) (sz : Nat) (h0 : Nat) (p1 : Int64) (h2 : Nat) (wp4000255 : Int32) (wf4000256 : Nat → Int64) : Met l yX8_set (Cond.code yX8_set cX8_set 4 none :: wsL_law) ({ frames := 0, cells := 0, slots := 0, locals := 0 } : Room) (va_Pc [.ref h0, .int 8, .long p1] (gI D y aS [(h0, .inr (8, [.ref h2, .int wp4000255])), (h2, .inl (y 1, 18, .inr (.inl wf4000256)))] sz)) (va_Qv (fun (u : Unit) => True) (fun u => gO D (va_A [(h0, .inr (8, [.ref h2, .int wp4000255])), (h2, .inl (y 1, 18, .inr (.inl wf4000256)))] sz) [(h0, .inr (8, [.ref h2, .int wp4000255])), (h2, .inl (y 1, 18, .inr (.inl (vp_updL wf4000256 ((8 : Int32).toNatClampNeg) p1))))]) (va_A [(h0, .inr (8, [.ref h2, .int wp4000255])), (h2, .inl (y 1, 18, .inr (.inl wf4000256)))] sz)) 0 0 (va_A [(h0, .inr (8, [.ref h2, .int wp4000255])), (h2, .inl (y 1, 18, .inr (.inl wf4000256)))] sz) := by
  refine g_of (by decide) (Nat.le_of_ble_eq_true rfl) ?_
  intro p e s m below meth c ls A hx hb hr hml hown hg hlocks hin hsz hK hP hD hS hA hAe hl
  rw [← hAe]
  replace hown : s.vm.findClass RX8 = some m.cls := hown
  replace hl : lv_has ls 4 [(0, .ref h0), (1, .int 8), (2, .long p1)] := hl
  refine lv_iload_n hx hb dX8_set_0 rfl (lv_at hl 1 rfl) ?_
  refine lv_if_lt (tgt := 20) hx hb dX8_set_1 (by decide) (fun c9 => absurd c9 (by decide +kernel)) (fun _ => ?_)
  refine lv_iload_n hx hb dX8_set_4 rfl (lv_at hl 1 rfl) ?_
  refine lv_aload_n hx hb dX8_set_5 rfl (lv_at hl 0 rfl) ?_
  refine gm_get (D := D) (ci := 8) (v := .ref h2) (C := RX8) (T := TX8) (N := 2) hx hb hg inlX8 hown hK.1 hP 0 rfl rfl 0 (by decide) tX8_0 (hg _ gw_98) rfl dX8_set_6 ?_
  refine va_alen hx hb hK.1 hP 1 1 rfl rfl (v := 18) rfl dX8_set_9 ?_
  refine lv_icmp_ge (tgt := 20) hx hb dX8_set_10 (by decide) (fun c9 => absurd c9 (by decide +kernel)) (fun _ => ?_)
  refine lv_aload_n hx hb dX8_set_13 rfl (lv_at hl 0 rfl) ?_
  refine gm_get (D := D) (ci := 8) (v := .ref h2) (C := RX8) (T := TX8) (N := 2) hx hb hg inlX8 hown hK.1 hP 0 rfl rfl 0 (by decide) tX8_0 (hg _ gw_98) rfl dX8_set_14 ?_
  refine lv_iload_n hx hb dX8_set_17 rfl (lv_at hl 1 rfl) ?_
  refine lv_lload_n hx hb dX8_set_18 rfl (lv_at hl 2 rfl) ?_
  refine va_last hx hb hK.1 hP hD hS 1 1 rfl rfl (by unfold vp_in; decide +kernel) dX8_set_19 ?_
  clear hP hD hS
  refine fun H locs (hP : va_P D vwCl [(h0, .inr (8, [.ref h2, .int wp4000255])), (h2, .inl (y 1, 18, .inr (.inl (vp_updL wf4000256 ((8 : Int32).toNatClampNeg) p1))))] H) (hD : va_D A [(h0, .inr (8, [.ref h2, .int wp4000255])), (h2, .inl (y 1, 18, .inr (.inl (vp_updL wf4000256 ((8 : Int32).toNatClampNeg) p1))))]) hS => ?_
  exact g_vret hx hb hr hlocks () hP hD hS trivial (Nat.le_of_ble_eq_true rfl) (Nat.le_of_ble_eq_true rfl) dX8_set_20
set_option maxRecDepth 100000 in
set_option maxHeartbeats 4000000 in
theorem k_X8_get_14 (l : Launch) (D : va_G) (y : Nat → ClassId) (aS : Nat → Nat) (sz : Nat) (h0 : Nat) (h1 : Nat) (wp4000262 : Int32) : Met l yX8_get (Cond.code yX8_get cX8_get 2 (some .long) :: wsL_law) ({ frames := 0, cells := 0, slots := 0, locals := 0 } : Room) (va_Pc [.ref h0, .int 0] (gI D y aS [(h0, .inr (8, [.ref h1, .int wp4000262])), (h1, .inl (y 1, 3, .inr (.inl (vp_updL (fun _ => 0) ((1 : Int32).toNatClampNeg) 3))))] sz)) (va_Ql (fun (r : Int64) (u : Unit) => 0 = r) (fun u => gO D (va_A [(h0, .inr (8, [.ref h1, .int wp4000262])), (h1, .inl (y 1, 3, .inr (.inl (vp_updL (fun _ => 0) ((1 : Int32).toNatClampNeg) 3))))] sz) [(h0, .inr (8, [.ref h1, .int wp4000262])), (h1, .inl (y 1, 3, .inr (.inl (vp_updL (fun _ => 0) ((1 : Int32).toNatClampNeg) 3))))]) (va_A [(h0, .inr (8, [.ref h1, .int wp4000262])), (h1, .inl (y 1, 3, .inr (.inl (vp_updL (fun _ => 0) ((1 : Int32).toNatClampNeg) 3))))] sz)) 0 0 (va_A [(h0, .inr (8, [.ref h1, .int wp4000262])), (h1, .inl (y 1, 3, .inr (.inl (vp_updL (fun _ => 0) ((1 : Int32).toNatClampNeg) 3))))] sz) := by
  refine g_of (by decide) (Nat.le_of_ble_eq_true rfl) ?_
  intro p e s m below meth c ls A hx hb hr hml hown hg hlocks hin hsz hK hP hD hS hA hAe hl
  rw [← hAe]
  replace hown : s.vm.findClass RX8 = some m.cls := hown
  replace hl : lv_has ls 2 [(0, .ref h0), (1, .int 0)] := hl
  refine lv_iload_n hx hb dX8_get_0 rfl (lv_at hl 1 rfl) ?_
  refine lv_if_lt (tgt := 22) hx hb dX8_get_1 (by decide) (fun c9 => absurd c9 (by decide +kernel)) (fun _ => ?_)
  refine lv_iload_n hx hb dX8_get_4 rfl (lv_at hl 1 rfl) ?_
  refine lv_aload_n hx hb dX8_get_5 rfl (lv_at hl 0 rfl) ?_
  refine gm_get (D := D) (ci := 8) (v := .ref h1) (C := RX8) (T := TX8) (N := 2) hx hb hg inlX8 hown hK.1 hP 0 rfl rfl 0 (by decide) tX8_0 (hg _ gw_98) rfl dX8_get_6 ?_
  refine va_alen hx hb hK.1 hP 1 1 rfl rfl (v := 3) rfl dX8_get_9 ?_
  refine lv_icmp_ge (tgt := 22) hx hb dX8_get_10 (by decide) (fun c9 => absurd c9 (by decide +kernel)) (fun _ => ?_)
  refine lv_aload_n hx hb dX8_get_13 rfl (lv_at hl 0 rfl) ?_
  refine gm_get (D := D) (ci := 8) (v := .ref h1) (C := RX8) (T := TX8) (N := 2) hx hb hg inlX8 hown hK.1 hP 0 rfl rfl 0 (by decide) tX8_0 (hg _ gw_98) rfl dX8_get_14 ?_
  refine lv_iload_n hx hb dX8_get_17 rfl (lv_at hl 1 rfl) ?_
  refine va_lald hx hb hK.1 hP 1 1 rfl rfl (by unfold vp_in; decide +kernel) dX8_get_18 ?_
  refine g_fj (v := 0) (by rfl) ?_
  refine lv_goto (tgt := 23) hx hb dX8_get_19 (by decide) ?_
  exact g_lret hx hb hr hlocks () hP hD hS rfl (Nat.le_of_ble_eq_true rfl) (Nat.le_of_ble_eq_true rfl) dX8_get_23
set_option maxRecDepth 100000 in
set_option maxHeartbeats 4000000 in
theorem k_X8_get_15 (l : Launch) (D : va_G) (y : Nat → ClassId) (aS : Nat → Nat) (sz : Nat) (h0 : Nat) (h1 : Nat) (wp4000264 : Int32) : Met l yX8_get (Cond.code yX8_get cX8_get 2 (some .long) :: wsL_law) ({ frames := 0, cells := 0, slots := 0, locals := 0 } : Room) (va_Pc [.ref h0, .int 1] (gI D y aS [(h0, .inr (8, [.ref h1, .int wp4000264])), (h1, .inl (y 1, 3, .inr (.inl (vp_updL (fun _ => 0) ((1 : Int32).toNatClampNeg) 3))))] sz)) (va_Ql (fun (r : Int64) (u : Unit) => 3 = r) (fun u => gO D (va_A [(h0, .inr (8, [.ref h1, .int wp4000264])), (h1, .inl (y 1, 3, .inr (.inl (vp_updL (fun _ => 0) ((1 : Int32).toNatClampNeg) 3))))] sz) [(h0, .inr (8, [.ref h1, .int wp4000264])), (h1, .inl (y 1, 3, .inr (.inl (vp_updL (fun _ => 0) ((1 : Int32).toNatClampNeg) 3))))]) (va_A [(h0, .inr (8, [.ref h1, .int wp4000264])), (h1, .inl (y 1, 3, .inr (.inl (vp_updL (fun _ => 0) ((1 : Int32).toNatClampNeg) 3))))] sz)) 0 0 (va_A [(h0, .inr (8, [.ref h1, .int wp4000264])), (h1, .inl (y 1, 3, .inr (.inl (vp_updL (fun _ => 0) ((1 : Int32).toNatClampNeg) 3))))] sz) := by
  refine g_of (by decide) (Nat.le_of_ble_eq_true rfl) ?_
  intro p e s m below meth c ls A hx hb hr hml hown hg hlocks hin hsz hK hP hD hS hA hAe hl
  rw [← hAe]
  replace hown : s.vm.findClass RX8 = some m.cls := hown
  replace hl : lv_has ls 2 [(0, .ref h0), (1, .int 1)] := hl
  refine lv_iload_n hx hb dX8_get_0 rfl (lv_at hl 1 rfl) ?_
  refine lv_if_lt (tgt := 22) hx hb dX8_get_1 (by decide) (fun c9 => absurd c9 (by decide +kernel)) (fun _ => ?_)
  refine lv_iload_n hx hb dX8_get_4 rfl (lv_at hl 1 rfl) ?_
  refine lv_aload_n hx hb dX8_get_5 rfl (lv_at hl 0 rfl) ?_
  refine gm_get (D := D) (ci := 8) (v := .ref h1) (C := RX8) (T := TX8) (N := 2) hx hb hg inlX8 hown hK.1 hP 0 rfl rfl 0 (by decide) tX8_0 (hg _ gw_98) rfl dX8_get_6 ?_
  refine va_alen hx hb hK.1 hP 1 1 rfl rfl (v := 3) rfl dX8_get_9 ?_
  refine lv_icmp_ge (tgt := 22) hx hb dX8_get_10 (by decide) (fun c9 => absurd c9 (by decide +kernel)) (fun _ => ?_)
  refine lv_aload_n hx hb dX8_get_13 rfl (lv_at hl 0 rfl) ?_
  refine gm_get (D := D) (ci := 8) (v := .ref h1) (C := RX8) (T := TX8) (N := 2) hx hb hg inlX8 hown hK.1 hP 0 rfl rfl 0 (by decide) tX8_0 (hg _ gw_98) rfl dX8_get_14 ?_
  refine lv_iload_n hx hb dX8_get_17 rfl (lv_at hl 1 rfl) ?_
  refine va_lald hx hb hK.1 hP 1 1 rfl rfl (by unfold vp_in; decide +kernel) dX8_get_18 ?_
  refine g_fj (v := 3) (by rfl) ?_
  refine lv_goto (tgt := 23) hx hb dX8_get_19 (by decide) ?_
  exact g_lret hx hb hr hlocks () hP hD hS rfl (Nat.le_of_ble_eq_true rfl) (Nat.le_of_ble_eq_true rfl) dX8_get_23
set_option maxRecDepth 100000 in
set_option maxHeartbeats 4000000 in
theorem k_X8_get_16 (l : Launch) (D : va_G) (y : Nat → ClassId) (aS : Nat → Nat) (sz : Nat) (h0 : Nat) (h1 : Nat) (wp4000266 : Int32) : Met l yX8_get (Cond.code yX8_get cX8_get 2 (some .long) :: wsL_law) ({ frames := 0, cells := 0, slots := 0, locals := 0 } : Room) (va_Pc [.ref h0, .int 2] (gI D y aS [(h0, .inr (8, [.ref h1, .int wp4000266])), (h1, .inl (y 1, 3, .inr (.inl (vp_updL (fun _ => 0) ((1 : Int32).toNatClampNeg) 3))))] sz)) (va_Ql (fun (r : Int64) (u : Unit) => 0 = r) (fun u => gO D (va_A [(h0, .inr (8, [.ref h1, .int wp4000266])), (h1, .inl (y 1, 3, .inr (.inl (vp_updL (fun _ => 0) ((1 : Int32).toNatClampNeg) 3))))] sz) [(h0, .inr (8, [.ref h1, .int wp4000266])), (h1, .inl (y 1, 3, .inr (.inl (vp_updL (fun _ => 0) ((1 : Int32).toNatClampNeg) 3))))]) (va_A [(h0, .inr (8, [.ref h1, .int wp4000266])), (h1, .inl (y 1, 3, .inr (.inl (vp_updL (fun _ => 0) ((1 : Int32).toNatClampNeg) 3))))] sz)) 0 0 (va_A [(h0, .inr (8, [.ref h1, .int wp4000266])), (h1, .inl (y 1, 3, .inr (.inl (vp_updL (fun _ => 0) ((1 : Int32).toNatClampNeg) 3))))] sz) := by
  refine g_of (by decide) (Nat.le_of_ble_eq_true rfl) ?_
  intro p e s m below meth c ls A hx hb hr hml hown hg hlocks hin hsz hK hP hD hS hA hAe hl
  rw [← hAe]
  replace hown : s.vm.findClass RX8 = some m.cls := hown
  replace hl : lv_has ls 2 [(0, .ref h0), (1, .int 2)] := hl
  refine lv_iload_n hx hb dX8_get_0 rfl (lv_at hl 1 rfl) ?_
  refine lv_if_lt (tgt := 22) hx hb dX8_get_1 (by decide) (fun c9 => absurd c9 (by decide +kernel)) (fun _ => ?_)
  refine lv_iload_n hx hb dX8_get_4 rfl (lv_at hl 1 rfl) ?_
  refine lv_aload_n hx hb dX8_get_5 rfl (lv_at hl 0 rfl) ?_
  refine gm_get (D := D) (ci := 8) (v := .ref h1) (C := RX8) (T := TX8) (N := 2) hx hb hg inlX8 hown hK.1 hP 0 rfl rfl 0 (by decide) tX8_0 (hg _ gw_98) rfl dX8_get_6 ?_
  refine va_alen hx hb hK.1 hP 1 1 rfl rfl (v := 3) rfl dX8_get_9 ?_
  refine lv_icmp_ge (tgt := 22) hx hb dX8_get_10 (by decide) (fun c9 => absurd c9 (by decide +kernel)) (fun _ => ?_)
  refine lv_aload_n hx hb dX8_get_13 rfl (lv_at hl 0 rfl) ?_
  refine gm_get (D := D) (ci := 8) (v := .ref h1) (C := RX8) (T := TX8) (N := 2) hx hb hg inlX8 hown hK.1 hP 0 rfl rfl 0 (by decide) tX8_0 (hg _ gw_98) rfl dX8_get_14 ?_
  refine lv_iload_n hx hb dX8_get_17 rfl (lv_at hl 1 rfl) ?_
  refine va_lald hx hb hK.1 hP 1 1 rfl rfl (by unfold vp_in; decide +kernel) dX8_get_18 ?_
  refine g_fj (v := 0) (by rfl) ?_
  refine lv_goto (tgt := 23) hx hb dX8_get_19 (by decide) ?_
  exact g_lret hx hb hr hlocks () hP hD hS rfl (Nat.le_of_ble_eq_true rfl) (Nat.le_of_ble_eq_true rfl) dX8_get_23
set_option maxRecDepth 100000 in
set_option maxHeartbeats 4000000 in
theorem k_X5_tellSecret_4 (l : Launch) (D : va_G) (y : Nat → ClassId) (aS : Nat → Nat) (sz : Nat) (h0 : Nat) (p1 : Int32) (h2 : Nat) (h3 : Nat) (h4 : Nat) (h5 : Nat) (wp4000268 : Int32) (h7 : Nat) (wp4000269 : Int32) (wf4000270 : Nat → Int64) (h10 : Nat) (wp4000271 : Int32) (h12 : Nat) : Met l yX5_tellSecret (Cond.code yX5_tellSecret cX5_tellSecret 7 (some .int) :: wsL_law) ({ frames := 1, cells := 0, slots := 0, locals := 23 } : Room) (va_Pc [.ref h0, .int 1, .int p1, .int 3] (gI D y aS [(h0, .inr (5, [.ref h2, .ref h3, .ref h4, .ref h5, .int wp4000268])), (h4, .inr (8, [.ref h7, .int wp4000269])), (h7, .inl (y 1, 18, .inr (.inl wf4000270))), (h5, .inr (8, [.ref h10, .int wp4000271])), (h10, .inl (y 1, 3, .inr (.inl (fun _ => 0)))), (h2, .inr (8, [.ref h12, .int 0]))] sz)) (va_Qi (fun (r : Int32) (u : Unit) => 1 = r) (fun u => gO D (va_A [(h0, .inr (5, [.ref h2, .ref h3, .ref h4, .ref h5, .int wp4000268])), (h4, .inr (8, [.ref h7, .int wp4000269])), (h7, .inl (y 1, 18, .inr (.inl wf4000270))), (h5, .inr (8, [.ref h10, .int wp4000271])), (h10, .inl (y 1, 3, .inr (.inl (fun _ => 0)))), (h2, .inr (8, [.ref h12, .int 0]))] sz) [(h0, .inr (5, [.ref h2, .ref h3, .ref h4, .ref h5, .int 0])), (h4, .inr (8, [.ref h7, .int wp4000269])), (h7, .inl (y 1, 18, .inr (.inl (vp_updL (vp_updL (vp_updL wf4000270 ((8 : Int32).toNatClampNeg) ((p1 - p1 / 10 * 10).toInt64)) ((7 : Int32).toNatClampNeg) (((p1 / 10) - (p1 / 10) / 10 * 10).toInt64)) ((6 : Int32).toNatClampNeg) ((((p1 / 10) / 10) - ((p1 / 10) / 10) / 10 * 10).toInt64))))), (h5, .inr (8, [.ref h10, .int wp4000271])), (h10, .inl (y 1, 3, .inr (.inl (vp_updL (fun _ => 0) ((1 : Int32).toNatClampNeg) 3)))), (h2, .inr (8, [.ref h12, .int 0]))]) (va_A [(h0, .inr (5, [.ref h2, .ref h3, .ref h4, .ref h5, .int wp4000268])), (h4, .inr (8, [.ref h7, .int wp4000269])), (h7, .inl (y 1, 18, .inr (.inl wf4000270))), (h5, .inr (8, [.ref h10, .int wp4000271])), (h10, .inl (y 1, 3, .inr (.inl (fun _ => 0)))), (h2, .inr (8, [.ref h12, .int 0]))] sz)) 0 0 (va_A [(h0, .inr (5, [.ref h2, .ref h3, .ref h4, .ref h5, .int wp4000268])), (h4, .inr (8, [.ref h7, .int wp4000269])), (h7, .inl (y 1, 18, .inr (.inl wf4000270))), (h5, .inr (8, [.ref h10, .int wp4000271])), (h10, .inl (y 1, 3, .inr (.inl (fun _ => 0)))), (h2, .inr (8, [.ref h12, .int 0]))] sz) := by
  refine g_of (by decide) (Nat.le_of_ble_eq_true rfl) ?_
  intro p e s m below meth c ls A hx hb hr hml hown hg hlocks hin hsz hK hP hD hS hA hAe hl
  rw [← hAe]
  replace hown : s.vm.findClass RX5 = some m.cls := hown
  replace hl : lv_has ls 7 [(0, .ref h0), (1, .int 1), (2, .int p1), (3, .int 3)] := hl
  refine lv_iload_n hx hb dX5_tellSecret_0 rfl (lv_at hl 2 rfl) ?_
  refine lv_istore (lv' := [(4, .int p1), (0, .ref h0), (1, .int 1), (2, .int p1), (3, .int 3)]) hx hb dX5_tellSecret_1 hl (by decide) rfl ?_
  clear hl
  clear ls
  intro ls hl
  refine lv_iload_n hx hb dX5_tellSecret_3 rfl (lv_at hl 4 rfl) ?_
  refine lv_iconst (v := 1) hx hb dX5_tellSecret_4 (by decide) ?_
  refine lv_isub hx hb dX5_tellSecret_5 ?_
  refine g_fi (v := 2) (by decide +kernel) ?_
  refine lv_istore (lv' := [(5, .int 2), (4, .int p1), (0, .ref h0), (1, .int 1), (2, .int p1), (3, .int 3)]) hx hb dX5_tellSecret_6 hl (by decide) rfl ?_
  clear hl
  clear ls
  intro ls hl
  refine lv_iload hx hb dX5_tellSecret_8 (lv_at hl 0 rfl) ?_
  refine lv_if_lt (tgt := 46) hx hb dX5_tellSecret_10 (by decide) (fun c9 => absurd c9 (by decide +kernel)) (fun _ => ?_)
  refine lv_aload_n hx hb dX5_tellSecret_13 rfl (lv_at hl 2 rfl) ?_
  refine gm_get (D := D) (ci := 5) (v := .ref h4) (C := RX5) (T := TX5) (N := 5) hx hb hg inlX5 hown hK.1 hP 0 rfl rfl 2 (by decide) tX5_2 (hg _ gw_140) rfl dX5_tellSecret_14 ?_
  refine lv_iload_n hx hb dX5_tellSecret_17 rfl (lv_at hl 3 rfl) ?_
  refine lv_bipush (v := 6) hx hb dX5_tellSecret_18 (by decide +kernel) ?_
  refine lv_imul hx hb dX5_tellSecret_20 ?_
  refine g_fi (v := 6) (by decide +kernel) ?_
  refine lv_iload hx hb dX5_tellSecret_21 (lv_at hl 0 rfl) ?_
  refine lv_iadd hx hb dX5_tellSecret_23 ?_
  refine g_fi (v := 8) (by decide +kernel) ?_
  refine lv_iload hx hb dX5_tellSecret_24 (lv_at hl 1 rfl) ?_
  refine lv_bipush (v := 10) hx hb dX5_tellSecret_26 (by decide +kernel) ?_
  refine lv_irem hx hb dX5_tellSecret_28 (by decide +kernel) ?_
  refine lv_i2l (v := ((p1 - p1 / 10 * 10).toInt64)) hx hb dX5_tellSecret_29 rfl ?_
  refine g_av (wr := [(h0, .inr (5, [.ref h2, .ref h3, .ref h4, .ref h5, .int wp4000268])), (h5, .inr (8, [.ref h10, .int wp4000271])), (h10, .inl (y 1, 3, .inr (.inl (fun _ => 0)))), (h2, .inr (8, [.ref h12, .int 0]))]) (va_runV (As := [.int 8, .long ((p1 - p1 / 10 * 10).toInt64)]) (rest := []) ⟨hx, hb, hml, hown, hg⟩ (k_X8_set_34 l D y aS s.heap.size h4 ((p1 - p1 / 10 * 10).toInt64) h7 wp4000269 wf4000270) (cwV 2 hg ggV_RX5_29_X8_set rfl rfl rfl (by decide +kernel) ⟨Nat.le_of_ble_eq_true rfl, Nat.le_of_ble_eq_true rfl⟩) (g_preV (q := (RX8, TX8, 2)) hK hP hD [1, 2] rfl (by decide) (ci := 8) (q0 := 1) rfl rfl) rfl rfl hl.1 rfl (lv_room (Nat.le_of_ble_eq_true rfl)) dX5_tellSecret_30 ⟨Nat.le_of_ble_eq_true rfl, Nat.le_of_ble_eq_true rfl⟩) hP hD hS hA [1, 2] [0, 3, 4, 5] rfl rfl (by decide) (by decide) ?_
  clear hP hD hS
  refine fun u H locs hq hP hD hS => ?_
  replace hP : va_P D vwCl [(h0, .inr (5, [.ref h2, .ref h3, .ref h4, .ref h5, .int wp4000268])), (h5, .inr (8, [.ref h10, .int wp4000271])), (h10, .inl (y 1, 3, .inr (.inl (fun _ => 0)))), (h2, .inr (8, [.ref h12, .int 0])), (h4, .inr (8, [.ref h7, .int wp4000269])), (h7, .inl (y 1, 18, .inr (.inl (vp_updL wf4000270 ((8 : Int32).toNatClampNeg) ((p1 - p1 / 10 * 10).toInt64)))))] H := hP
  replace hD : va_D A [(h0, .inr (5, [.ref h2, .ref h3, .ref h4, .ref h5, .int wp4000268])), (h5, .inr (8, [.ref h10, .int wp4000271])), (h10, .inl (y 1, 3, .inr (.inl (fun _ => 0)))), (h2, .inr (8, [.ref h12, .int 0])), (h4, .inr (8, [.ref h7, .int wp4000269])), (h7, .inl (y 1, 18, .inr (.inl (vp_updL wf4000270 ((8 : Int32).toNatClampNeg) ((p1 - p1 / 10 * 10).toInt64)))))] := hD
  refine lv_iload hx hb dX5_tellSecret_33 (lv_at hl 1 rfl) ?_
  refine lv_bipush (v := 10) hx hb dX5_tellSecret_35 (by decide +kernel) ?_
  refine lv_idiv hx hb dX5_tellSecret_37 (by decide +kernel) ?_
  refine lv_istore (lv' := [(4, .int (p1 / 10)), (5, .int 2), (0, .ref h0), (1, .int 1), (2, .int p1), (3, .int 3)]) hx hb dX5_tellSecret_38 hl (by decide) rfl ?_
  clear hl
  clear ls
  intro ls hl
  refine lv_iinc (v := 1) (lv' := [(5, .int 1), (4, .int (p1 / 10)), (0, .ref h0), (1, .int 1), (2, .int p1), (3, .int 3)]) hx hb dX5_tellSecret_40 hl (k := 1) rfl (by decide +kernel) (by decide) rfl ?_
  clear hl
  clear ls
  intro ls hl
  refine lv_goto (tgt := 8) hx hb dX5_tellSecret_43 (by decide) ?_
  refine lv_iload hx hb dX5_tellSecret_8 (lv_at hl 0 rfl) ?_
  refine lv_if_lt (tgt := 46) hx hb dX5_tellSecret_10 (by decide) (fun c9 => absurd c9 (by decide +kernel)) (fun _ => ?_)
  refine lv_aload_n hx hb dX5_tellSecret_13 rfl (lv_at hl 2 rfl) ?_
  refine gm_get (D := D) (ci := 5) (v := .ref h4) (C := RX5) (T := TX5) (N := 5) hx hb hg inlX5 hown hK.1 hP 0 rfl rfl 2 (by decide) tX5_2 (hg _ gw_140) rfl dX5_tellSecret_14 ?_
  refine lv_iload_n hx hb dX5_tellSecret_17 rfl (lv_at hl 3 rfl) ?_
  refine lv_bipush (v := 6) hx hb dX5_tellSecret_18 (by decide +kernel) ?_
  refine lv_imul hx hb dX5_tellSecret_20 ?_
  refine g_fi (v := 6) (by decide +kernel) ?_
  refine lv_iload hx hb dX5_tellSecret_21 (lv_at hl 0 rfl) ?_
  refine lv_iadd hx hb dX5_tellSecret_23 ?_
  refine g_fi (v := 7) (by decide +kernel) ?_
  refine lv_iload hx hb dX5_tellSecret_24 (lv_at hl 1 rfl) ?_
  refine lv_bipush (v := 10) hx hb dX5_tellSecret_26 (by decide +kernel) ?_
  refine lv_irem hx hb dX5_tellSecret_28 (by decide +kernel) ?_
  refine lv_i2l (v := (((p1 / 10) - (p1 / 10) / 10 * 10).toInt64)) hx hb dX5_tellSecret_29 rfl ?_
  refine g_av (wr := [(h0, .inr (5, [.ref h2, .ref h3, .ref h4, .ref h5, .int wp4000268])), (h5, .inr (8, [.ref h10, .int wp4000271])), (h10, .inl (y 1, 3, .inr (.inl (fun _ => 0)))), (h2, .inr (8, [.ref h12, .int 0]))]) (va_runV (As := [.int 7, .long (((p1 / 10) - (p1 / 10) / 10 * 10).toInt64)]) (rest := []) ⟨hx, hb, hml, hown, hg⟩ (k_X8_set_29 l D y aS H.size h4 (((p1 / 10) - (p1 / 10) / 10 * 10).toInt64) h7 wp4000269 (vp_updL wf4000270 ((8 : Int32).toNatClampNeg) ((p1 - p1 / 10 * 10).toInt64))) (cwV 2 hg ggV_RX5_29_X8_set rfl rfl rfl (by decide +kernel) ⟨Nat.le_of_ble_eq_true rfl, Nat.le_of_ble_eq_true rfl⟩) (g_preV (q := (RX8, TX8, 2)) hK hP hD [4, 5] rfl (by decide) (ci := 8) (q0 := 4) rfl rfl) rfl rfl hl.1 rfl (lv_room (Nat.le_of_ble_eq_true rfl)) dX5_tellSecret_30 ⟨Nat.le_of_ble_eq_true rfl, Nat.le_of_ble_eq_true rfl⟩) hP hD hS hA [4, 5] [0, 1, 2, 3] rfl rfl (by decide) (by decide) ?_
  clear hP hD hS H locs
  refine fun u H locs hq hP hD hS => ?_
  replace hP : va_P D vwCl [(h0, .inr (5, [.ref h2, .ref h3, .ref h4, .ref h5, .int wp4000268])), (h5, .inr (8, [.ref h10, .int wp4000271])), (h10, .inl (y 1, 3, .inr (.inl (fun _ => 0)))), (h2, .inr (8, [.ref h12, .int 0])), (h4, .inr (8, [.ref h7, .int wp4000269])), (h7, .inl (y 1, 18, .inr (.inl (vp_updL (vp_updL wf4000270 ((8 : Int32).toNatClampNeg) ((p1 - p1 / 10 * 10).toInt64)) ((7 : Int32).toNatClampNeg) (((p1 / 10) - (p1 / 10) / 10 * 10).toInt64)))))] H := hP
  replace hD : va_D A [(h0, .inr (5, [.ref h2, .ref h3, .ref h4, .ref h5, .int wp4000268])), (h5, .inr (8, [.ref h10, .int wp4000271])), (h10, .inl (y 1, 3, .inr (.inl (fun _ => 0)))), (h2, .inr (8, [.ref h12, .int 0])), (h4, .inr (8, [.ref h7, .int wp4000269])), (h7, .inl (y 1, 18, .inr (.inl (vp_updL (vp_updL wf4000270 ((8 : Int32).toNatClampNeg) ((p1 - p1 / 10 * 10).toInt64)) ((7 : Int32).toNatClampNeg) (((p1 / 10) - (p1 / 10) / 10 * 10).toInt64)))))] := hD
  refine lv_iload hx hb dX5_tellSecret_33 (lv_at hl 1 rfl) ?_
  refine lv_bipush (v := 10) hx hb dX5_tellSecret_35 (by decide +kernel) ?_
  refine lv_idiv hx hb dX5_tellSecret_37 (by decide +kernel) ?_
  refine lv_istore (lv' := [(4, .int ((p1 / 10) / 10)), (5, .int 1), (0, .ref h0), (1, .int 1), (2, .int p1), (3, .int 3)]) hx hb dX5_tellSecret_38 hl (by decide) rfl ?_
  clear hl
  clear ls
  intro ls hl
  refine lv_iinc (v := 0) (lv' := [(5, .int 0), (4, .int ((p1 / 10) / 10)), (0, .ref h0), (1, .int 1), (2, .int p1), (3, .int 3)]) hx hb dX5_tellSecret_40 hl (k := 1) rfl (by decide +kernel) (by decide) rfl ?_
  clear hl
  clear ls
  intro ls hl
  refine lv_goto (tgt := 8) hx hb dX5_tellSecret_43 (by decide) ?_
  refine lv_iload hx hb dX5_tellSecret_8 (lv_at hl 0 rfl) ?_
  refine lv_if_lt (tgt := 46) hx hb dX5_tellSecret_10 (by decide) (fun c9 => absurd c9 (by decide +kernel)) (fun _ => ?_)
  refine lv_aload_n hx hb dX5_tellSecret_13 rfl (lv_at hl 2 rfl) ?_
  refine gm_get (D := D) (ci := 5) (v := .ref h4) (C := RX5) (T := TX5) (N := 5) hx hb hg inlX5 hown hK.1 hP 0 rfl rfl 2 (by decide) tX5_2 (hg _ gw_140) rfl dX5_tellSecret_14 ?_
  refine lv_iload_n hx hb dX5_tellSecret_17 rfl (lv_at hl 3 rfl) ?_
  refine lv_bipush (v := 6) hx hb dX5_tellSecret_18 (by decide +kernel) ?_
  refine lv_imul hx hb dX5_tellSecret_20 ?_
  refine g_fi (v := 6) (by decide +kernel) ?_
  refine lv_iload hx hb dX5_tellSecret_21 (lv_at hl 0 rfl) ?_
  refine lv_iadd hx hb dX5_tellSecret_23 ?_
  refine g_fi (v := 6) (by decide +kernel) ?_
  refine lv_iload hx hb dX5_tellSecret_24 (lv_at hl 1 rfl) ?_
  refine lv_bipush (v := 10) hx hb dX5_tellSecret_26 (by decide +kernel) ?_
  refine lv_irem hx hb dX5_tellSecret_28 (by decide +kernel) ?_
  refine lv_i2l (v := ((((p1 / 10) / 10) - ((p1 / 10) / 10) / 10 * 10).toInt64)) hx hb dX5_tellSecret_29 rfl ?_
  refine g_av (wr := [(h0, .inr (5, [.ref h2, .ref h3, .ref h4, .ref h5, .int wp4000268])), (h5, .inr (8, [.ref h10, .int wp4000271])), (h10, .inl (y 1, 3, .inr (.inl (fun _ => 0)))), (h2, .inr (8, [.ref h12, .int 0]))]) (va_runV (As := [.int 6, .long ((((p1 / 10) / 10) - ((p1 / 10) / 10) / 10 * 10).toInt64)]) (rest := []) ⟨hx, hb, hml, hown, hg⟩ (k_X8_set_30 l D y aS H.size h4 ((((p1 / 10) / 10) - ((p1 / 10) / 10) / 10 * 10).toInt64) h7 wp4000269 (vp_updL (vp_updL wf4000270 ((8 : Int32).toNatClampNeg) ((p1 - p1 / 10 * 10).toInt64)) ((7 : Int32).toNatClampNeg) (((p1 / 10) - (p1 / 10) / 10 * 10).toInt64))) (cwV 2 hg ggV_RX5_29_X8_set rfl rfl rfl (by decide +kernel) ⟨Nat.le_of_ble_eq_true rfl, Nat.le_of_ble_eq_true rfl⟩) (g_preV (q := (RX8, TX8, 2)) hK hP hD [4, 5] rfl (by decide) (ci := 8) (q0 := 4) rfl rfl) rfl rfl hl.1 rfl (lv_room (Nat.le_of_ble_eq_true rfl)) dX5_tellSecret_30 ⟨Nat.le_of_ble_eq_true rfl, Nat.le_of_ble_eq_true rfl⟩) hP hD hS hA [4, 5] [0, 1, 2, 3] rfl rfl (by decide) (by decide) ?_
  clear hP hD hS H locs
  refine fun u H locs hq hP hD hS => ?_
  replace hP : va_P D vwCl [(h0, .inr (5, [.ref h2, .ref h3, .ref h4, .ref h5, .int wp4000268])), (h5, .inr (8, [.ref h10, .int wp4000271])), (h10, .inl (y 1, 3, .inr (.inl (fun _ => 0)))), (h2, .inr (8, [.ref h12, .int 0])), (h4, .inr (8, [.ref h7, .int wp4000269])), (h7, .inl (y 1, 18, .inr (.inl (vp_updL (vp_updL (vp_updL wf4000270 ((8 : Int32).toNatClampNeg) ((p1 - p1 / 10 * 10).toInt64)) ((7 : Int32).toNatClampNeg) (((p1 / 10) - (p1 / 10) / 10 * 10).toInt64)) ((6 : Int32).toNatClampNeg) ((((p1 / 10) / 10) - ((p1 / 10) / 10) / 10 * 10).toInt64)))))] H := hP
  replace hD : va_D A [(h0, .inr (5, [.ref h2, .ref h3, .ref h4, .ref h5, .int wp4000268])), (h5, .inr (8, [.ref h10, .int wp4000271])), (h10, .inl (y 1, 3, .inr (.inl (fun _ => 0)))), (h2, .inr (8, [.ref h12, .int 0])), (h4, .inr (8, [.ref h7, .int wp4000269])), (h7, .inl (y 1, 18, .inr (.inl (vp_updL (vp_updL (vp_updL wf4000270 ((8 : Int32).toNatClampNeg) ((p1 - p1 / 10 * 10).toInt64)) ((7 : Int32).toNatClampNeg) (((p1 / 10) - (p1 / 10) / 10 * 10).toInt64)) ((6 : Int32).toNatClampNeg) ((((p1 / 10) / 10) - ((p1 / 10) / 10) / 10 * 10).toInt64)))))] := hD
  refine lv_iload hx hb dX5_tellSecret_33 (lv_at hl 1 rfl) ?_
  refine lv_bipush (v := 10) hx hb dX5_tellSecret_35 (by decide +kernel) ?_
  refine lv_idiv hx hb dX5_tellSecret_37 (by decide +kernel) ?_
  refine lv_istore (lv' := [(4, .int (((p1 / 10) / 10) / 10)), (5, .int 0), (0, .ref h0), (1, .int 1), (2, .int p1), (3, .int 3)]) hx hb dX5_tellSecret_38 hl (by decide) rfl ?_
  clear hl
  clear ls
  intro ls hl
  refine lv_iinc (v := (-1)) (lv' := [(5, .int (-1)), (4, .int (((p1 / 10) / 10) / 10)), (0, .ref h0), (1, .int 1), (2, .int p1), (3, .int 3)]) hx hb dX5_tellSecret_40 hl (k := 1) rfl (by decide +kernel) (by decide) rfl ?_
  clear hl
  clear ls
  intro ls hl
  refine lv_goto (tgt := 8) hx hb dX5_tellSecret_43 (by decide) ?_
  refine lv_iload hx hb dX5_tellSecret_8 (lv_at hl 0 rfl) ?_
  refine lv_if_lt (tgt := 46) hx hb dX5_tellSecret_10 (by decide) (fun _ => ?_) (fun c9 => absurd c9 (by decide +kernel))
  refine lv_aload_n hx hb dX5_tellSecret_46 rfl (lv_at hl 2 rfl) ?_
  refine gm_get (D := D) (ci := 5) (v := .ref h5) (C := RX5) (T := TX5) (N := 5) hx hb hg inlX5 hown hK.1 hP 0 rfl rfl 3 (by decide) tX5_3 (hg _ gw_141) rfl dX5_tellSecret_47 ?_
  refine lv_iload_n hx hb dX5_tellSecret_50 rfl (lv_at hl 3 rfl) ?_
  refine lv_iload_n hx hb dX5_tellSecret_51 rfl (lv_at hl 5 rfl) ?_
  refine lv_i2l (v := 3) hx hb dX5_tellSecret_52 (by decide +kernel) ?_
  refine g_av (wr := [(h0, .inr (5, [.ref h2, .ref h3, .ref h4, .ref h5, .int wp4000268])), (h2, .inr (8, [.ref h12, .int 0])), (h4, .inr (8, [.ref h7, .int wp4000269])), (h7, .inl (y 1, 18, .inr (.inl (vp_updL (vp_updL (vp_updL wf4000270 ((8 : Int32).toNatClampNeg) ((p1 - p1 / 10 * 10).toInt64)) ((7 : Int32).toNatClampNeg) (((p1 / 10) - (p1 / 10) / 10 * 10).toInt64)) ((6 : Int32).toNatClampNeg) ((((p1 / 10) / 10) - ((p1 / 10) / 10) / 10 * 10).toInt64)))))]) (va_runV (As := [.int 1, .long 3]) (rest := []) ⟨hx, hb, hml, hown, hg⟩ (k_X8_set_25 l D y aS H.size h5 3 h10 wp4000271 (fun _ => 0)) (cwV 2 hg ggV_RX5_29_X8_set rfl rfl rfl (by decide +kernel) ⟨Nat.le_of_ble_eq_true rfl, Nat.le_of_ble_eq_true rfl⟩) (g_preV (q := (RX8, TX8, 2)) hK hP hD [1, 2] rfl (by decide) (ci := 8) (q0 := 1) rfl rfl) rfl rfl hl.1 rfl (lv_room (Nat.le_of_ble_eq_true rfl)) dX5_tellSecret_53 ⟨Nat.le_of_ble_eq_true rfl, Nat.le_of_ble_eq_true rfl⟩) hP hD hS hA [1, 2] [0, 3, 4, 5] rfl rfl (by decide) (by decide) ?_
  clear hP hD hS H locs
  refine fun u H locs hq hP hD hS => ?_
  replace hP : va_P D vwCl [(h0, .inr (5, [.ref h2, .ref h3, .ref h4, .ref h5, .int wp4000268])), (h2, .inr (8, [.ref h12, .int 0])), (h4, .inr (8, [.ref h7, .int wp4000269])), (h7, .inl (y 1, 18, .inr (.inl (vp_updL (vp_updL (vp_updL wf4000270 ((8 : Int32).toNatClampNeg) ((p1 - p1 / 10 * 10).toInt64)) ((7 : Int32).toNatClampNeg) (((p1 / 10) - (p1 / 10) / 10 * 10).toInt64)) ((6 : Int32).toNatClampNeg) ((((p1 / 10) / 10) - ((p1 / 10) / 10) / 10 * 10).toInt64))))), (h5, .inr (8, [.ref h10, .int wp4000271])), (h10, .inl (y 1, 3, .inr (.inl (vp_updL (fun _ => 0) ((1 : Int32).toNatClampNeg) 3))))] H := hP
  replace hD : va_D A [(h0, .inr (5, [.ref h2, .ref h3, .ref h4, .ref h5, .int wp4000268])), (h2, .inr (8, [.ref h12, .int 0])), (h4, .inr (8, [.ref h7, .int wp4000269])), (h7, .inl (y 1, 18, .inr (.inl (vp_updL (vp_updL (vp_updL wf4000270 ((8 : Int32).toNatClampNeg) ((p1 - p1 / 10 * 10).toInt64)) ((7 : Int32).toNatClampNeg) (((p1 / 10) - (p1 / 10) / 10 * 10).toInt64)) ((6 : Int32).toNatClampNeg) ((((p1 / 10) / 10) - ((p1 / 10) / 10) / 10 * 10).toInt64))))), (h5, .inr (8, [.ref h10, .int wp4000271])), (h10, .inl (y 1, 3, .inr (.inl (vp_updL (fun _ => 0) ((1 : Int32).toNatClampNeg) 3))))] := hD
  refine lv_aload_n hx hb dX5_tellSecret_56 rfl (lv_at hl 2 rfl) ?_
  refine g_av (wr := [(h4, .inr (8, [.ref h7, .int wp4000269])), (h7, .inl (y 1, 18, .inr (.inl (vp_updL (vp_updL (vp_updL wf4000270 ((8 : Int32).toNatClampNeg) ((p1 - p1 / 10 * 10).toInt64)) ((7 : Int32).toNatClampNeg) (((p1 / 10) - (p1 / 10) / 10 * 10).toInt64)) ((6 : Int32).toNatClampNeg) ((((p1 / 10) / 10) - ((p1 / 10) / 10) / 10 * 10).toInt64))))), (h5, .inr (8, [.ref h10, .int wp4000271])), (h10, .inl (y 1, 3, .inr (.inl (vp_updL (fun _ => 0) ((1 : Int32).toNatClampNeg) 3))))]) (va_runV (As := []) (rest := []) ⟨hx, hb, hml, hown, hg⟩ (k_X5_findOut_0 l D y aS H.size h0 h2 h3 h4 h5 wp4000268 h12) (cwV 0 hg ggV_RX5_33_X5_findOut rfl rfl rfl (by decide +kernel) ⟨Nat.le_of_ble_eq_true rfl, Nat.le_of_ble_eq_true rfl⟩) (g_preV (q := (RX5, TX5, 5)) hK hP hD [0, 1] rfl (by decide) (ci := 5) (q0 := 0) rfl rfl) rfl rfl hl.1 rfl (lv_room (Nat.le_of_ble_eq_true rfl)) dX5_tellSecret_57 ⟨Nat.le_of_ble_eq_true rfl, Nat.le_of_ble_eq_true rfl⟩) hP hD hS hA [0, 1] [2, 3, 4, 5] rfl rfl (by decide) (by decide) ?_
  clear hP hD hS H locs
  refine fun u H locs hq hP hD hS => ?_
  replace hP : va_P D vwCl [(h4, .inr (8, [.ref h7, .int wp4000269])), (h7, .inl (y 1, 18, .inr (.inl (vp_updL (vp_updL (vp_updL wf4000270 ((8 : Int32).toNatClampNeg) ((p1 - p1 / 10 * 10).toInt64)) ((7 : Int32).toNatClampNeg) (((p1 / 10) - (p1 / 10) / 10 * 10).toInt64)) ((6 : Int32).toNatClampNeg) ((((p1 / 10) / 10) - ((p1 / 10) / 10) / 10 * 10).toInt64))))), (h5, .inr (8, [.ref h10, .int wp4000271])), (h10, .inl (y 1, 3, .inr (.inl (vp_updL (fun _ => 0) ((1 : Int32).toNatClampNeg) 3)))), (h0, .inr (5, [.ref h2, .ref h3, .ref h4, .ref h5, .int 0])), (h2, .inr (8, [.ref h12, .int 0]))] H := hP
  replace hD : va_D A [(h4, .inr (8, [.ref h7, .int wp4000269])), (h7, .inl (y 1, 18, .inr (.inl (vp_updL (vp_updL (vp_updL wf4000270 ((8 : Int32).toNatClampNeg) ((p1 - p1 / 10 * 10).toInt64)) ((7 : Int32).toNatClampNeg) (((p1 / 10) - (p1 / 10) / 10 * 10).toInt64)) ((6 : Int32).toNatClampNeg) ((((p1 / 10) / 10) - ((p1 / 10) / 10) / 10 * 10).toInt64))))), (h5, .inr (8, [.ref h10, .int wp4000271])), (h10, .inl (y 1, 3, .inr (.inl (vp_updL (fun _ => 0) ((1 : Int32).toNatClampNeg) 3)))), (h0, .inr (5, [.ref h2, .ref h3, .ref h4, .ref h5, .int 0])), (h2, .inr (8, [.ref h12, .int 0]))] := hD
  refine lv_iconst (v := 0) hx hb dX5_tellSecret_60 (by decide) ?_
  refine lv_istore (lv' := [(5, .int 0), (4, .int (((p1 / 10) / 10) / 10)), (0, .ref h0), (1, .int 1), (2, .int p1), (3, .int 3)]) hx hb dX5_tellSecret_61 hl (by decide) rfl ?_
  clear hl
  clear ls
  intro ls hl
  refine lv_iconst (v := 0) hx hb dX5_tellSecret_63 (by decide) ?_
  refine lv_istore (lv' := [(6, .int 0), (5, .int 0), (4, .int (((p1 / 10) / 10) / 10)), (0, .ref h0), (1, .int 1), (2, .int p1), (3, .int 3)]) hx hb dX5_tellSecret_64 hl (by decide) rfl ?_
  clear hl
  clear ls
  intro ls hl
  refine lv_iload hx hb dX5_tellSecret_66 (lv_at hl 0 rfl) ?_
  refine lv_iconst (v := 3) hx hb dX5_tellSecret_68 (by decide) ?_
  refine lv_icmp_ge (tgt := 95) hx hb dX5_tellSecret_69 (by decide) (fun c9 => absurd c9 (by decide +kernel)) (fun _ => ?_)
  refine lv_aload_n hx hb dX5_tellSecret_72 rfl (lv_at hl 3 rfl) ?_
  refine gm_get (D := D) (ci := 5) (v := .ref h5) (C := RX5) (T := TX5) (N := 5) hx hb hg inlX5 hown hK.1 hP 4 rfl rfl 3 (by decide) tX5_3 (hg _ gw_141) rfl dX5_tellSecret_73 ?_
  refine lv_iload hx hb dX5_tellSecret_76 (lv_at hl 0 rfl) ?_
  refine g_al (wr := [(h4, .inr (8, [.ref h7, .int wp4000269])), (h7, .inl (y 1, 18, .inr (.inl (vp_updL (vp_updL (vp_updL wf4000270 ((8 : Int32).toNatClampNeg) ((p1 - p1 / 10 * 10).toInt64)) ((7 : Int32).toNatClampNeg) (((p1 / 10) - (p1 / 10) / 10 * 10).toInt64)) ((6 : Int32).toNatClampNeg) ((((p1 / 10) / 10) - ((p1 / 10) / 10) / 10 * 10).toInt64))))), (h0, .inr (5, [.ref h2, .ref h3, .ref h4, .ref h5, .int 0])), (h2, .inr (8, [.ref h12, .int 0]))]) (va_runV (As := [.int 0]) (rest := []) ⟨hx, hb, hml, hown, hg⟩ (k_X8_get_14 l D y aS H.size h5 h10 wp4000271) (cwV 1 hg ggV_RX5_36_X8_get rfl rfl rfl (by decide +kernel) ⟨Nat.le_of_ble_eq_true rfl, Nat.le_of_ble_eq_true rfl⟩) (g_preV (q := (RX8, TX8, 2)) hK hP hD [2, 3] rfl (by decide) (ci := 8) (q0 := 2) rfl rfl) rfl rfl hl.1 rfl (lv_room (Nat.le_of_ble_eq_true rfl)) dX5_tellSecret_78 ⟨Nat.le_of_ble_eq_true rfl, Nat.le_of_ble_eq_true rfl⟩) hP hD hS hA [2, 3] [0, 1, 4, 5] rfl rfl (by decide) (by decide) ?_
  clear hP hD hS H locs
  refine fun r4000277 u H locs hq hP hD hS => ?_
  subst hq
  replace hP : va_P D vwCl [(h4, .inr (8, [.ref h7, .int wp4000269])), (h7, .inl (y 1, 18, .inr (.inl (vp_updL (vp_updL (vp_updL wf4000270 ((8 : Int32).toNatClampNeg) ((p1 - p1 / 10 * 10).toInt64)) ((7 : Int32).toNatClampNeg) (((p1 / 10) - (p1 / 10) / 10 * 10).toInt64)) ((6 : Int32).toNatClampNeg) ((((p1 / 10) / 10) - ((p1 / 10) / 10) / 10 * 10).toInt64))))), (h0, .inr (5, [.ref h2, .ref h3, .ref h4, .ref h5, .int 0])), (h2, .inr (8, [.ref h12, .int 0])), (h5, .inr (8, [.ref h10, .int wp4000271])), (h10, .inl (y 1, 3, .inr (.inl (vp_updL (fun _ => 0) ((1 : Int32).toNatClampNeg) 3))))] H := hP
  replace hD : va_D A [(h4, .inr (8, [.ref h7, .int wp4000269])), (h7, .inl (y 1, 18, .inr (.inl (vp_updL (vp_updL (vp_updL wf4000270 ((8 : Int32).toNatClampNeg) ((p1 - p1 / 10 * 10).toInt64)) ((7 : Int32).toNatClampNeg) (((p1 / 10) - (p1 / 10) / 10 * 10).toInt64)) ((6 : Int32).toNatClampNeg) ((((p1 / 10) / 10) - ((p1 / 10) / 10) / 10 * 10).toInt64))))), (h0, .inr (5, [.ref h2, .ref h3, .ref h4, .ref h5, .int 0])), (h2, .inr (8, [.ref h12, .int 0])), (h5, .inr (8, [.ref h10, .int wp4000271])), (h10, .inl (y 1, 3, .inr (.inl (vp_updL (fun _ => 0) ((1 : Int32).toNatClampNeg) 3))))] := hD
  refine lv_lconst (v := 0) hx hb dX5_tellSecret_81 (by decide) ?_
  refine W.lcmp hx hb dX5_tellSecret_82 ?_
  refine g_fi (v := 0) (by decide +kernel) ?_
  refine lv_if_le (tgt := 89) hx hb dX5_tellSecret_83 (by decide) (fun _ => ?_) (fun c9 => absurd c9 (by decide +kernel))
  refine lv_iinc (v := 1) (lv' := [(6, .int 1), (5, .int 0), (4, .int (((p1 / 10) / 10) / 10)), (0, .ref h0), (1, .int 1), (2, .int p1), (3, .int 3)]) hx hb dX5_tellSecret_89 hl (k := 0) rfl (by decide +kernel) (by decide) rfl ?_
  clear hl
  clear ls
  intro ls hl
  refine lv_goto (tgt := 66) hx hb dX5_tellSecret_92 (by decide) ?_
  refine lv_iload hx hb dX5_tellSecret_66 (lv_at hl 0 rfl) ?_
  refine lv_iconst (v := 3) hx hb dX5_tellSecret_68 (by decide) ?_
  refine lv_icmp_ge (tgt := 95) hx hb dX5_tellSecret_69 (by decide) (fun c9 => absurd c9 (by decide +kernel)) (fun _ => ?_)
  refine lv_aload_n hx hb dX5_tellSecret_72 rfl (lv_at hl 3 rfl) ?_
  refine gm_get (D := D) (ci := 5) (v := .ref h5) (C := RX5) (T := TX5) (N := 5) hx hb hg inlX5 hown hK.1 hP 2 rfl rfl 3 (by decide) tX5_3 (hg _ gw_141) rfl dX5_tellSecret_73 ?_
  refine lv_iload hx hb dX5_tellSecret_76 (lv_at hl 0 rfl) ?_
  refine g_al (wr := [(h4, .inr (8, [.ref h7, .int wp4000269])), (h7, .inl (y 1, 18, .inr (.inl (vp_updL (vp_updL (vp_updL wf4000270 ((8 : Int32).toNatClampNeg) ((p1 - p1 / 10 * 10).toInt64)) ((7 : Int32).toNatClampNeg) (((p1 / 10) - (p1 / 10) / 10 * 10).toInt64)) ((6 : Int32).toNatClampNeg) ((((p1 / 10) / 10) - ((p1 / 10) / 10) / 10 * 10).toInt64))))), (h0, .inr (5, [.ref h2, .ref h3, .ref h4, .ref h5, .int 0])), (h2, .inr (8, [.ref h12, .int 0]))]) (va_runV (As := [.int 1]) (rest := []) ⟨hx, hb, hml, hown, hg⟩ (k_X8_get_15 l D y aS H.size h5 h10 wp4000271) (cwV 1 hg ggV_RX5_36_X8_get rfl rfl rfl (by decide +kernel) ⟨Nat.le_of_ble_eq_true rfl, Nat.le_of_ble_eq_true rfl⟩) (g_preV (q := (RX8, TX8, 2)) hK hP hD [4, 5] rfl (by decide) (ci := 8) (q0 := 4) rfl rfl) rfl rfl hl.1 rfl (lv_room (Nat.le_of_ble_eq_true rfl)) dX5_tellSecret_78 ⟨Nat.le_of_ble_eq_true rfl, Nat.le_of_ble_eq_true rfl⟩) hP hD hS hA [4, 5] [0, 1, 2, 3] rfl rfl (by decide) (by decide) ?_
  clear hP hD hS H locs
  refine fun r4000278 u H locs hq hP hD hS => ?_
  subst hq
  replace hP : va_P D vwCl [(h4, .inr (8, [.ref h7, .int wp4000269])), (h7, .inl (y 1, 18, .inr (.inl (vp_updL (vp_updL (vp_updL wf4000270 ((8 : Int32).toNatClampNeg) ((p1 - p1 / 10 * 10).toInt64)) ((7 : Int32).toNatClampNeg) (((p1 / 10) - (p1 / 10) / 10 * 10).toInt64)) ((6 : Int32).toNatClampNeg) ((((p1 / 10) / 10) - ((p1 / 10) / 10) / 10 * 10).toInt64))))), (h0, .inr (5, [.ref h2, .ref h3, .ref h4, .ref h5, .int 0])), (h2, .inr (8, [.ref h12, .int 0])), (h5, .inr (8, [.ref h10, .int wp4000271])), (h10, .inl (y 1, 3, .inr (.inl (vp_updL (fun _ => 0) ((1 : Int32).toNatClampNeg) 3))))] H := hP
  replace hD : va_D A [(h4, .inr (8, [.ref h7, .int wp4000269])), (h7, .inl (y 1, 18, .inr (.inl (vp_updL (vp_updL (vp_updL wf4000270 ((8 : Int32).toNatClampNeg) ((p1 - p1 / 10 * 10).toInt64)) ((7 : Int32).toNatClampNeg) (((p1 / 10) - (p1 / 10) / 10 * 10).toInt64)) ((6 : Int32).toNatClampNeg) ((((p1 / 10) / 10) - ((p1 / 10) / 10) / 10 * 10).toInt64))))), (h0, .inr (5, [.ref h2, .ref h3, .ref h4, .ref h5, .int 0])), (h2, .inr (8, [.ref h12, .int 0])), (h5, .inr (8, [.ref h10, .int wp4000271])), (h10, .inl (y 1, 3, .inr (.inl (vp_updL (fun _ => 0) ((1 : Int32).toNatClampNeg) 3))))] := hD
  refine lv_lconst (v := 0) hx hb dX5_tellSecret_81 (by decide) ?_
  refine W.lcmp hx hb dX5_tellSecret_82 ?_
  refine g_fi (v := 1) (by decide +kernel) ?_
  refine lv_if_le (tgt := 89) hx hb dX5_tellSecret_83 (by decide) (fun c9 => absurd c9 (by decide +kernel)) (fun _ => ?_)
  refine lv_iinc (v := 1) (lv' := [(5, .int 1), (6, .int 1), (4, .int (((p1 / 10) / 10) / 10)), (0, .ref h0), (1, .int 1), (2, .int p1), (3, .int 3)]) hx hb dX5_tellSecret_86 hl (k := 1) rfl (by decide +kernel) (by decide) rfl ?_
  clear hl
  clear ls
  intro ls hl
  refine lv_iinc (v := 2) (lv' := [(6, .int 2), (5, .int 1), (4, .int (((p1 / 10) / 10) / 10)), (0, .ref h0), (1, .int 1), (2, .int p1), (3, .int 3)]) hx hb dX5_tellSecret_89 hl (k := 1) rfl (by decide +kernel) (by decide) rfl ?_
  clear hl
  clear ls
  intro ls hl
  refine lv_goto (tgt := 66) hx hb dX5_tellSecret_92 (by decide) ?_
  refine lv_iload hx hb dX5_tellSecret_66 (lv_at hl 0 rfl) ?_
  refine lv_iconst (v := 3) hx hb dX5_tellSecret_68 (by decide) ?_
  refine lv_icmp_ge (tgt := 95) hx hb dX5_tellSecret_69 (by decide) (fun c9 => absurd c9 (by decide +kernel)) (fun _ => ?_)
  refine lv_aload_n hx hb dX5_tellSecret_72 rfl (lv_at hl 3 rfl) ?_
  refine gm_get (D := D) (ci := 5) (v := .ref h5) (C := RX5) (T := TX5) (N := 5) hx hb hg inlX5 hown hK.1 hP 2 rfl rfl 3 (by decide) tX5_3 (hg _ gw_141) rfl dX5_tellSecret_73 ?_
  refine lv_iload hx hb dX5_tellSecret_76 (lv_at hl 0 rfl) ?_
  refine g_al (wr := [(h4, .inr (8, [.ref h7, .int wp4000269])), (h7, .inl (y 1, 18, .inr (.inl (vp_updL (vp_updL (vp_updL wf4000270 ((8 : Int32).toNatClampNeg) ((p1 - p1 / 10 * 10).toInt64)) ((7 : Int32).toNatClampNeg) (((p1 / 10) - (p1 / 10) / 10 * 10).toInt64)) ((6 : Int32).toNatClampNeg) ((((p1 / 10) / 10) - ((p1 / 10) / 10) / 10 * 10).toInt64))))), (h0, .inr (5, [.ref h2, .ref h3, .ref h4, .ref h5, .int 0])), (h2, .inr (8, [.ref h12, .int 0]))]) (va_runV (As := [.int 2]) (rest := []) ⟨hx, hb, hml, hown, hg⟩ (k_X8_get_16 l D y aS H.size h5 h10 wp4000271) (cwV 1 hg ggV_RX5_36_X8_get rfl rfl rfl (by decide +kernel) ⟨Nat.le_of_ble_eq_true rfl, Nat.le_of_ble_eq_true rfl⟩) (g_preV (q := (RX8, TX8, 2)) hK hP hD [4, 5] rfl (by decide) (ci := 8) (q0 := 4) rfl rfl) rfl rfl hl.1 rfl (lv_room (Nat.le_of_ble_eq_true rfl)) dX5_tellSecret_78 ⟨Nat.le_of_ble_eq_true rfl, Nat.le_of_ble_eq_true rfl⟩) hP hD hS hA [4, 5] [0, 1, 2, 3] rfl rfl (by decide) (by decide) ?_
  clear hP hD hS H locs
  refine fun r4000279 u H locs hq hP hD hS => ?_
  subst hq
  replace hP : va_P D vwCl [(h4, .inr (8, [.ref h7, .int wp4000269])), (h7, .inl (y 1, 18, .inr (.inl (vp_updL (vp_updL (vp_updL wf4000270 ((8 : Int32).toNatClampNeg) ((p1 - p1 / 10 * 10).toInt64)) ((7 : Int32).toNatClampNeg) (((p1 / 10) - (p1 / 10) / 10 * 10).toInt64)) ((6 : Int32).toNatClampNeg) ((((p1 / 10) / 10) - ((p1 / 10) / 10) / 10 * 10).toInt64))))), (h0, .inr (5, [.ref h2, .ref h3, .ref h4, .ref h5, .int 0])), (h2, .inr (8, [.ref h12, .int 0])), (h5, .inr (8, [.ref h10, .int wp4000271])), (h10, .inl (y 1, 3, .inr (.inl (vp_updL (fun _ => 0) ((1 : Int32).toNatClampNeg) 3))))] H := hP
  replace hD : va_D A [(h4, .inr (8, [.ref h7, .int wp4000269])), (h7, .inl (y 1, 18, .inr (.inl (vp_updL (vp_updL (vp_updL wf4000270 ((8 : Int32).toNatClampNeg) ((p1 - p1 / 10 * 10).toInt64)) ((7 : Int32).toNatClampNeg) (((p1 / 10) - (p1 / 10) / 10 * 10).toInt64)) ((6 : Int32).toNatClampNeg) ((((p1 / 10) / 10) - ((p1 / 10) / 10) / 10 * 10).toInt64))))), (h0, .inr (5, [.ref h2, .ref h3, .ref h4, .ref h5, .int 0])), (h2, .inr (8, [.ref h12, .int 0])), (h5, .inr (8, [.ref h10, .int wp4000271])), (h10, .inl (y 1, 3, .inr (.inl (vp_updL (fun _ => 0) ((1 : Int32).toNatClampNeg) 3))))] := hD
  refine lv_lconst (v := 0) hx hb dX5_tellSecret_81 (by decide) ?_
  refine W.lcmp hx hb dX5_tellSecret_82 ?_
  refine g_fi (v := 0) (by decide +kernel) ?_
  refine lv_if_le (tgt := 89) hx hb dX5_tellSecret_83 (by decide) (fun _ => ?_) (fun c9 => absurd c9 (by decide +kernel))
  refine lv_iinc (v := 3) (lv' := [(6, .int 3), (5, .int 1), (4, .int (((p1 / 10) / 10) / 10)), (0, .ref h0), (1, .int 1), (2, .int p1), (3, .int 3)]) hx hb dX5_tellSecret_89 hl (k := 0) rfl (by decide +kernel) (by decide) rfl ?_
  clear hl
  clear ls
  intro ls hl
  refine lv_goto (tgt := 66) hx hb dX5_tellSecret_92 (by decide) ?_
  refine lv_iload hx hb dX5_tellSecret_66 (lv_at hl 0 rfl) ?_
  refine lv_iconst (v := 3) hx hb dX5_tellSecret_68 (by decide) ?_
  refine lv_icmp_ge (tgt := 95) hx hb dX5_tellSecret_69 (by decide) (fun _ => ?_) (fun c9 => absurd c9 (by decide +kernel))
  refine lv_iload hx hb dX5_tellSecret_95 (lv_at hl 1 rfl) ?_
  exact g_iret hx hb hr hlocks () (hP.sub [2, 0, 1, 4, 5, 3] rfl) (hD.sub [2, 0, 1, 4, 5, 3] (by decide +kernel) rfl) hS rfl rfl (Nat.le_of_ble_eq_true rfl) (Nat.le_of_ble_eq_true rfl) dX5_tellSecret_97
set_option maxRecDepth 100000 in
set_option maxHeartbeats 4000000 in
theorem k_X8_set_35 (l : Launch) (D : va_G) (y : Nat → ClassId) (aS : Nat → Nat) (sz : Nat) (h0 : Nat) (p1 : Int64) (h2 : Nat) (wp4000282 : Int32) (wf4000283 : Nat → Int64) : Met l yX8_set (Cond.code yX8_set cX8_set 4 none :: wsL_law) ({ frames := 0, cells := 0, slots := 0, locals := 0 } : Room) (va_Pc [.ref h0, .int 14, .long p1] (gI D y aS [(h0, .inr (8, [.ref h2, .int wp4000282])), (h2, .inl (y 1, 18, .inr (.inl wf4000283)))] sz)) (va_Qv (fun (u : Unit) => True) (fun u => gO D (va_A [(h0, .inr (8, [.ref h2, .int wp4000282])), (h2, .inl (y 1, 18, .inr (.inl wf4000283)))] sz) [(h0, .inr (8, [.ref h2, .int wp4000282])), (h2, .inl (y 1, 18, .inr (.inl (vp_updL wf4000283 ((14 : Int32).toNatClampNeg) p1))))]) (va_A [(h0, .inr (8, [.ref h2, .int wp4000282])), (h2, .inl (y 1, 18, .inr (.inl wf4000283)))] sz)) 0 0 (va_A [(h0, .inr (8, [.ref h2, .int wp4000282])), (h2, .inl (y 1, 18, .inr (.inl wf4000283)))] sz) := by
  refine g_of (by decide) (Nat.le_of_ble_eq_true rfl) ?_
  intro p e s m below meth c ls A hx hb hr hml hown hg hlocks hin hsz hK hP hD hS hA hAe hl
  rw [← hAe]
  replace hown : s.vm.findClass RX8 = some m.cls := hown
  replace hl : lv_has ls 4 [(0, .ref h0), (1, .int 14), (2, .long p1)] := hl
  refine lv_iload_n hx hb dX8_set_0 rfl (lv_at hl 1 rfl) ?_
  refine lv_if_lt (tgt := 20) hx hb dX8_set_1 (by decide) (fun c9 => absurd c9 (by decide +kernel)) (fun _ => ?_)
  refine lv_iload_n hx hb dX8_set_4 rfl (lv_at hl 1 rfl) ?_
  refine lv_aload_n hx hb dX8_set_5 rfl (lv_at hl 0 rfl) ?_
  refine gm_get (D := D) (ci := 8) (v := .ref h2) (C := RX8) (T := TX8) (N := 2) hx hb hg inlX8 hown hK.1 hP 0 rfl rfl 0 (by decide) tX8_0 (hg _ gw_98) rfl dX8_set_6 ?_
  refine va_alen hx hb hK.1 hP 1 1 rfl rfl (v := 18) rfl dX8_set_9 ?_
  refine lv_icmp_ge (tgt := 20) hx hb dX8_set_10 (by decide) (fun c9 => absurd c9 (by decide +kernel)) (fun _ => ?_)
  refine lv_aload_n hx hb dX8_set_13 rfl (lv_at hl 0 rfl) ?_
  refine gm_get (D := D) (ci := 8) (v := .ref h2) (C := RX8) (T := TX8) (N := 2) hx hb hg inlX8 hown hK.1 hP 0 rfl rfl 0 (by decide) tX8_0 (hg _ gw_98) rfl dX8_set_14 ?_
  refine lv_iload_n hx hb dX8_set_17 rfl (lv_at hl 1 rfl) ?_
  refine lv_lload_n hx hb dX8_set_18 rfl (lv_at hl 2 rfl) ?_
  refine va_last hx hb hK.1 hP hD hS 1 1 rfl rfl (by unfold vp_in; decide +kernel) dX8_set_19 ?_
  clear hP hD hS
  refine fun H locs (hP : va_P D vwCl [(h0, .inr (8, [.ref h2, .int wp4000282])), (h2, .inl (y 1, 18, .inr (.inl (vp_updL wf4000283 ((14 : Int32).toNatClampNeg) p1))))] H) (hD : va_D A [(h0, .inr (8, [.ref h2, .int wp4000282])), (h2, .inl (y 1, 18, .inr (.inl (vp_updL wf4000283 ((14 : Int32).toNatClampNeg) p1))))]) hS => ?_
  exact g_vret hx hb hr hlocks () hP hD hS trivial (Nat.le_of_ble_eq_true rfl) (Nat.le_of_ble_eq_true rfl) dX8_set_20
set_option maxRecDepth 100000 in
set_option maxHeartbeats 4000000 in
theorem k_X8_get_17 (l : Launch) (D : va_G) (y : Nat → ClassId) (aS : Nat → Nat) (sz : Nat) (h0 : Nat) (h1 : Nat) (wp4000289 : Int32) : Met l yX8_get (Cond.code yX8_get cX8_get 2 (some .long) :: wsL_law) ({ frames := 0, cells := 0, slots := 0, locals := 0 } : Room) (va_Pc [.ref h0, .int 0] (gI D y aS [(h0, .inr (8, [.ref h1, .int wp4000289])), (h1, .inl (y 1, 3, .inr (.inl (vp_updL (fun _ => 0) ((2 : Int32).toNatClampNeg) 3))))] sz)) (va_Ql (fun (r : Int64) (u : Unit) => 0 = r) (fun u => gO D (va_A [(h0, .inr (8, [.ref h1, .int wp4000289])), (h1, .inl (y 1, 3, .inr (.inl (vp_updL (fun _ => 0) ((2 : Int32).toNatClampNeg) 3))))] sz) [(h0, .inr (8, [.ref h1, .int wp4000289])), (h1, .inl (y 1, 3, .inr (.inl (vp_updL (fun _ => 0) ((2 : Int32).toNatClampNeg) 3))))]) (va_A [(h0, .inr (8, [.ref h1, .int wp4000289])), (h1, .inl (y 1, 3, .inr (.inl (vp_updL (fun _ => 0) ((2 : Int32).toNatClampNeg) 3))))] sz)) 0 0 (va_A [(h0, .inr (8, [.ref h1, .int wp4000289])), (h1, .inl (y 1, 3, .inr (.inl (vp_updL (fun _ => 0) ((2 : Int32).toNatClampNeg) 3))))] sz) := by
  refine g_of (by decide) (Nat.le_of_ble_eq_true rfl) ?_
  intro p e s m below meth c ls A hx hb hr hml hown hg hlocks hin hsz hK hP hD hS hA hAe hl
  rw [← hAe]
  replace hown : s.vm.findClass RX8 = some m.cls := hown
  replace hl : lv_has ls 2 [(0, .ref h0), (1, .int 0)] := hl
  refine lv_iload_n hx hb dX8_get_0 rfl (lv_at hl 1 rfl) ?_
  refine lv_if_lt (tgt := 22) hx hb dX8_get_1 (by decide) (fun c9 => absurd c9 (by decide +kernel)) (fun _ => ?_)
  refine lv_iload_n hx hb dX8_get_4 rfl (lv_at hl 1 rfl) ?_
  refine lv_aload_n hx hb dX8_get_5 rfl (lv_at hl 0 rfl) ?_
  refine gm_get (D := D) (ci := 8) (v := .ref h1) (C := RX8) (T := TX8) (N := 2) hx hb hg inlX8 hown hK.1 hP 0 rfl rfl 0 (by decide) tX8_0 (hg _ gw_98) rfl dX8_get_6 ?_
  refine va_alen hx hb hK.1 hP 1 1 rfl rfl (v := 3) rfl dX8_get_9 ?_
  refine lv_icmp_ge (tgt := 22) hx hb dX8_get_10 (by decide) (fun c9 => absurd c9 (by decide +kernel)) (fun _ => ?_)
  refine lv_aload_n hx hb dX8_get_13 rfl (lv_at hl 0 rfl) ?_
  refine gm_get (D := D) (ci := 8) (v := .ref h1) (C := RX8) (T := TX8) (N := 2) hx hb hg inlX8 hown hK.1 hP 0 rfl rfl 0 (by decide) tX8_0 (hg _ gw_98) rfl dX8_get_14 ?_
  refine lv_iload_n hx hb dX8_get_17 rfl (lv_at hl 1 rfl) ?_
  refine va_lald hx hb hK.1 hP 1 1 rfl rfl (by unfold vp_in; decide +kernel) dX8_get_18 ?_
  refine g_fj (v := 0) (by rfl) ?_
  refine lv_goto (tgt := 23) hx hb dX8_get_19 (by decide) ?_
  exact g_lret hx hb hr hlocks () hP hD hS rfl (Nat.le_of_ble_eq_true rfl) (Nat.le_of_ble_eq_true rfl) dX8_get_23
set_option maxRecDepth 100000 in
set_option maxHeartbeats 4000000 in
theorem k_X8_get_18 (l : Launch) (D : va_G) (y : Nat → ClassId) (aS : Nat → Nat) (sz : Nat) (h0 : Nat) (h1 : Nat) (wp4000291 : Int32) : Met l yX8_get (Cond.code yX8_get cX8_get 2 (some .long) :: wsL_law) ({ frames := 0, cells := 0, slots := 0, locals := 0 } : Room) (va_Pc [.ref h0, .int 1] (gI D y aS [(h0, .inr (8, [.ref h1, .int wp4000291])), (h1, .inl (y 1, 3, .inr (.inl (vp_updL (fun _ => 0) ((2 : Int32).toNatClampNeg) 3))))] sz)) (va_Ql (fun (r : Int64) (u : Unit) => 0 = r) (fun u => gO D (va_A [(h0, .inr (8, [.ref h1, .int wp4000291])), (h1, .inl (y 1, 3, .inr (.inl (vp_updL (fun _ => 0) ((2 : Int32).toNatClampNeg) 3))))] sz) [(h0, .inr (8, [.ref h1, .int wp4000291])), (h1, .inl (y 1, 3, .inr (.inl (vp_updL (fun _ => 0) ((2 : Int32).toNatClampNeg) 3))))]) (va_A [(h0, .inr (8, [.ref h1, .int wp4000291])), (h1, .inl (y 1, 3, .inr (.inl (vp_updL (fun _ => 0) ((2 : Int32).toNatClampNeg) 3))))] sz)) 0 0 (va_A [(h0, .inr (8, [.ref h1, .int wp4000291])), (h1, .inl (y 1, 3, .inr (.inl (vp_updL (fun _ => 0) ((2 : Int32).toNatClampNeg) 3))))] sz) := by
  refine g_of (by decide) (Nat.le_of_ble_eq_true rfl) ?_
  intro p e s m below meth c ls A hx hb hr hml hown hg hlocks hin hsz hK hP hD hS hA hAe hl
  rw [← hAe]
  replace hown : s.vm.findClass RX8 = some m.cls := hown
  replace hl : lv_has ls 2 [(0, .ref h0), (1, .int 1)] := hl
  refine lv_iload_n hx hb dX8_get_0 rfl (lv_at hl 1 rfl) ?_
  refine lv_if_lt (tgt := 22) hx hb dX8_get_1 (by decide) (fun c9 => absurd c9 (by decide +kernel)) (fun _ => ?_)
  refine lv_iload_n hx hb dX8_get_4 rfl (lv_at hl 1 rfl) ?_
  refine lv_aload_n hx hb dX8_get_5 rfl (lv_at hl 0 rfl) ?_
  refine gm_get (D := D) (ci := 8) (v := .ref h1) (C := RX8) (T := TX8) (N := 2) hx hb hg inlX8 hown hK.1 hP 0 rfl rfl 0 (by decide) tX8_0 (hg _ gw_98) rfl dX8_get_6 ?_
  refine va_alen hx hb hK.1 hP 1 1 rfl rfl (v := 3) rfl dX8_get_9 ?_
  refine lv_icmp_ge (tgt := 22) hx hb dX8_get_10 (by decide) (fun c9 => absurd c9 (by decide +kernel)) (fun _ => ?_)
  refine lv_aload_n hx hb dX8_get_13 rfl (lv_at hl 0 rfl) ?_
  refine gm_get (D := D) (ci := 8) (v := .ref h1) (C := RX8) (T := TX8) (N := 2) hx hb hg inlX8 hown hK.1 hP 0 rfl rfl 0 (by decide) tX8_0 (hg _ gw_98) rfl dX8_get_14 ?_
  refine lv_iload_n hx hb dX8_get_17 rfl (lv_at hl 1 rfl) ?_
  refine va_lald hx hb hK.1 hP 1 1 rfl rfl (by unfold vp_in; decide +kernel) dX8_get_18 ?_
  refine g_fj (v := 0) (by rfl) ?_
  refine lv_goto (tgt := 23) hx hb dX8_get_19 (by decide) ?_
  exact g_lret hx hb hr hlocks () hP hD hS rfl (Nat.le_of_ble_eq_true rfl) (Nat.le_of_ble_eq_true rfl) dX8_get_23
set_option maxRecDepth 100000 in
set_option maxHeartbeats 4000000 in
theorem k_X8_get_19 (l : Launch) (D : va_G) (y : Nat → ClassId) (aS : Nat → Nat) (sz : Nat) (h0 : Nat) (h1 : Nat) (wp4000293 : Int32) : Met l yX8_get (Cond.code yX8_get cX8_get 2 (some .long) :: wsL_law) ({ frames := 0, cells := 0, slots := 0, locals := 0 } : Room) (va_Pc [.ref h0, .int 2] (gI D y aS [(h0, .inr (8, [.ref h1, .int wp4000293])), (h1, .inl (y 1, 3, .inr (.inl (vp_updL (fun _ => 0) ((2 : Int32).toNatClampNeg) 3))))] sz)) (va_Ql (fun (r : Int64) (u : Unit) => 3 = r) (fun u => gO D (va_A [(h0, .inr (8, [.ref h1, .int wp4000293])), (h1, .inl (y 1, 3, .inr (.inl (vp_updL (fun _ => 0) ((2 : Int32).toNatClampNeg) 3))))] sz) [(h0, .inr (8, [.ref h1, .int wp4000293])), (h1, .inl (y 1, 3, .inr (.inl (vp_updL (fun _ => 0) ((2 : Int32).toNatClampNeg) 3))))]) (va_A [(h0, .inr (8, [.ref h1, .int wp4000293])), (h1, .inl (y 1, 3, .inr (.inl (vp_updL (fun _ => 0) ((2 : Int32).toNatClampNeg) 3))))] sz)) 0 0 (va_A [(h0, .inr (8, [.ref h1, .int wp4000293])), (h1, .inl (y 1, 3, .inr (.inl (vp_updL (fun _ => 0) ((2 : Int32).toNatClampNeg) 3))))] sz) := by
  refine g_of (by decide) (Nat.le_of_ble_eq_true rfl) ?_
  intro p e s m below meth c ls A hx hb hr hml hown hg hlocks hin hsz hK hP hD hS hA hAe hl
  rw [← hAe]
  replace hown : s.vm.findClass RX8 = some m.cls := hown
  replace hl : lv_has ls 2 [(0, .ref h0), (1, .int 2)] := hl
  refine lv_iload_n hx hb dX8_get_0 rfl (lv_at hl 1 rfl) ?_
  refine lv_if_lt (tgt := 22) hx hb dX8_get_1 (by decide) (fun c9 => absurd c9 (by decide +kernel)) (fun _ => ?_)
  refine lv_iload_n hx hb dX8_get_4 rfl (lv_at hl 1 rfl) ?_
  refine lv_aload_n hx hb dX8_get_5 rfl (lv_at hl 0 rfl) ?_
  refine gm_get (D := D) (ci := 8) (v := .ref h1) (C := RX8) (T := TX8) (N := 2) hx hb hg inlX8 hown hK.1 hP 0 rfl rfl 0 (by decide) tX8_0 (hg _ gw_98) rfl dX8_get_6 ?_
  refine va_alen hx hb hK.1 hP 1 1 rfl rfl (v := 3) rfl dX8_get_9 ?_
  refine lv_icmp_ge (tgt := 22) hx hb dX8_get_10 (by decide) (fun c9 => absurd c9 (by decide +kernel)) (fun _ => ?_)
  refine lv_aload_n hx hb dX8_get_13 rfl (lv_at hl 0 rfl) ?_
  refine gm_get (D := D) (ci := 8) (v := .ref h1) (C := RX8) (T := TX8) (N := 2) hx hb hg inlX8 hown hK.1 hP 0 rfl rfl 0 (by decide) tX8_0 (hg _ gw_98) rfl dX8_get_14 ?_
  refine lv_iload_n hx hb dX8_get_17 rfl (lv_at hl 1 rfl) ?_
  refine va_lald hx hb hK.1 hP 1 1 rfl rfl (by unfold vp_in; decide +kernel) dX8_get_18 ?_
  refine g_fj (v := 3) (by rfl) ?_
  refine lv_goto (tgt := 23) hx hb dX8_get_19 (by decide) ?_
  exact g_lret hx hb hr hlocks () hP hD hS rfl (Nat.le_of_ble_eq_true rfl) (Nat.le_of_ble_eq_true rfl) dX8_get_23
set_option maxRecDepth 100000 in
set_option maxHeartbeats 4000000 in
theorem k_X5_tellSecret_5 (l : Launch) (D : va_G) (y : Nat → ClassId) (aS : Nat → Nat) (sz : Nat) (h0 : Nat) (p1 : Int32) (h2 : Nat) (h3 : Nat) (h4 : Nat) (h5 : Nat) (wp4000295 : Int32) (h7 : Nat) (wp4000296 : Int32) (wf4000297 : Nat → Int64) (h10 : Nat) (wp4000298 : Int32) (h12 : Nat) : Met l yX5_tellSecret (Cond.code yX5_tellSecret cX5_tellSecret 7 (some .int) :: wsL_law) ({ frames := 1, cells := 0, slots := 0, locals := 23 } : Room) (va_Pc [.ref h0, .int 2, .int p1, .int 3] (gI D y aS [(h0, .inr (5, [.ref h2, .ref h3, .ref h4, .ref h5, .int wp4000295])), (h4, .inr (8, [.ref h7, .int wp4000296])), (h7, .inl (y 1, 18, .inr (.inl wf4000297))), (h5, .inr (8, [.ref h10, .int wp4000298])), (h10, .inl (y 1, 3, .inr (.inl (fun _ => 0)))), (h2, .inr (8, [.ref h12, .int 0]))] sz)) (va_Qi (fun (r : Int32) (u : Unit) => 1 = r) (fun u => gO D (va_A [(h0, .inr (5, [.ref h2, .ref h3, .ref h4, .ref h5, .int wp4000295])), (h4, .inr (8, [.ref h7, .int wp4000296])), (h7, .inl (y 1, 18, .inr (.inl wf4000297))), (h5, .inr (8, [.ref h10, .int wp4000298])), (h10, .inl (y 1, 3, .inr (.inl (fun _ => 0)))), (h2, .inr (8, [.ref h12, .int 0]))] sz) [(h0, .inr (5, [.ref h2, .ref h3, .ref h4, .ref h5, .int 0])), (h4, .inr (8, [.ref h7, .int wp4000296])), (h7, .inl (y 1, 18, .inr (.inl (vp_updL (vp_updL (vp_updL wf4000297 ((14 : Int32).toNatClampNeg) ((p1 - p1 / 10 * 10).toInt64)) ((13 : Int32).toNatClampNeg) (((p1 / 10) - (p1 / 10) / 10 * 10).toInt64)) ((12 : Int32).toNatClampNeg) ((((p1 / 10) / 10) - ((p1 / 10) / 10) / 10 * 10).toInt64))))), (h5, .inr (8, [.ref h10, .int wp4000298])), (h10, .inl (y 1, 3, .inr (.inl (vp_updL (fun _ => 0) ((2 : Int32).toNatClampNeg) 3)))), (h2, .inr (8, [.ref h12, .int 0]))]) (va_A [(h0, .inr (5, [.ref h2, .ref h3, .ref h4, .ref h5, .int wp4000295])), (h4, .inr (8, [.ref h7, .int wp4000296])), (h7, .inl (y 1, 18, .inr (.inl wf4000297))), (h5, .inr (8, [.ref h10, .int wp4000298])), (h10, .inl (y 1, 3, .inr (.inl (fun _ => 0)))), (h2, .inr (8, [.ref h12, .int 0]))] sz)) 0 0 (va_A [(h0, .inr (5, [.ref h2, .ref h3, .ref h4, .ref h5, .int wp4000295])), (h4, .inr (8, [.ref h7, .int wp4000296])), (h7, .inl (y 1, 18, .inr (.inl wf4000297))), (h5, .inr (8, [.ref h10, .int wp4000298])), (h10, .inl (y 1, 3, .inr (.inl (fun _ => 0)))), (h2, .inr (8, [.ref h12, .int 0]))] sz) := by
  refine g_of (by decide) (Nat.le_of_ble_eq_true rfl) ?_
  intro p e s m below meth c ls A hx hb hr hml hown hg hlocks hin hsz hK hP hD hS hA hAe hl
  rw [← hAe]
  replace hown : s.vm.findClass RX5 = some m.cls := hown
  replace hl : lv_has ls 7 [(0, .ref h0), (1, .int 2), (2, .int p1), (3, .int 3)] := hl
  refine lv_iload_n hx hb dX5_tellSecret_0 rfl (lv_at hl 2 rfl) ?_
  refine lv_istore (lv' := [(4, .int p1), (0, .ref h0), (1, .int 2), (2, .int p1), (3, .int 3)]) hx hb dX5_tellSecret_1 hl (by decide) rfl ?_
  clear hl
  clear ls
  intro ls hl
  refine lv_iload_n hx hb dX5_tellSecret_3 rfl (lv_at hl 4 rfl) ?_
  refine lv_iconst (v := 1) hx hb dX5_tellSecret_4 (by decide) ?_
  refine lv_isub hx hb dX5_tellSecret_5 ?_
  refine g_fi (v := 2) (by decide +kernel) ?_
  refine lv_istore (lv' := [(5, .int 2), (4, .int p1), (0, .ref h0), (1, .int 2), (2, .int p1), (3, .int 3)]) hx hb dX5_tellSecret_6 hl (by decide) rfl ?_
  clear hl
  clear ls
  intro ls hl
  refine lv_iload hx hb dX5_tellSecret_8 (lv_at hl 0 rfl) ?_
  refine lv_if_lt (tgt := 46) hx hb dX5_tellSecret_10 (by decide) (fun c9 => absurd c9 (by decide +kernel)) (fun _ => ?_)
  refine lv_aload_n hx hb dX5_tellSecret_13 rfl (lv_at hl 2 rfl) ?_
  refine gm_get (D := D) (ci := 5) (v := .ref h4) (C := RX5) (T := TX5) (N := 5) hx hb hg inlX5 hown hK.1 hP 0 rfl rfl 2 (by decide) tX5_2 (hg _ gw_140) rfl dX5_tellSecret_14 ?_
  refine lv_iload_n hx hb dX5_tellSecret_17 rfl (lv_at hl 3 rfl) ?_
  refine lv_bipush (v := 6) hx hb dX5_tellSecret_18 (by decide +kernel) ?_
  refine lv_imul hx hb dX5_tellSecret_20 ?_
  refine g_fi (v := 12) (by decide +kernel) ?_
  refine lv_iload hx hb dX5_tellSecret_21 (lv_at hl 0 rfl) ?_
  refine lv_iadd hx hb dX5_tellSecret_23 ?_
  refine g_fi (v := 14) (by decide +kernel) ?_
  refine lv_iload hx hb dX5_tellSecret_24 (lv_at hl 1 rfl) ?_
  refine lv_bipush (v := 10) hx hb dX5_tellSecret_26 (by decide +kernel) ?_
  refine lv_irem hx hb dX5_tellSecret_28 (by decide +kernel) ?_
  refine lv_i2l (v := ((p1 - p1 / 10 * 10).toInt64)) hx hb dX5_tellSecret_29 rfl ?_
  refine g_av (wr := [(h0, .inr (5, [.ref h2, .ref h3, .ref h4, .ref h5, .int wp4000295])), (h5, .inr (8, [.ref h10, .int wp4000298])), (h10, .inl (y 1, 3, .inr (.inl (fun _ => 0)))), (h2, .inr (8, [.ref h12, .int 0]))]) (va_runV (As := [.int 14, .long ((p1 - p1 / 10 * 10).toInt64)]) (rest := []) ⟨hx, hb, hml, hown, hg⟩ (k_X8_set_35 l D y aS s.heap.size h4 ((p1 - p1 / 10 * 10).toInt64) h7 wp4000296 wf4000297) (cwV 2 hg ggV_RX5_29_X8_set rfl rfl rfl (by decide +kernel) ⟨Nat.le_of_ble_eq_true rfl, Nat.le_of_ble_eq_true rfl⟩) (g_preV (q := (RX8, TX8, 2)) hK hP hD [1, 2] rfl (by decide) (ci := 8) (q0 := 1) rfl rfl) rfl rfl hl.1 rfl (lv_room (Nat.le_of_ble_eq_true rfl)) dX5_tellSecret_30 ⟨Nat.le_of_ble_eq_true rfl, Nat.le_of_ble_eq_true rfl⟩) hP hD hS hA [1, 2] [0, 3, 4, 5] rfl rfl (by decide) (by decide) ?_
  clear hP hD hS
  refine fun u H locs hq hP hD hS => ?_
  replace hP : va_P D vwCl [(h0, .inr (5, [.ref h2, .ref h3, .ref h4, .ref h5, .int wp4000295])), (h5, .inr (8, [.ref h10, .int wp4000298])), (h10, .inl (y 1, 3, .inr (.inl (fun _ => 0)))), (h2, .inr (8, [.ref h12, .int 0])), (h4, .inr (8, [.ref h7, .int wp4000296])), (h7, .inl (y 1, 18, .inr (.inl (vp_updL wf4000297 ((14 : Int32).toNatClampNeg) ((p1 - p1 / 10 * 10).toInt64)))))] H := hP
  replace hD : va_D A [(h0, .inr (5, [.ref h2, .ref h3, .ref h4, .ref h5, .int wp4000295])), (h5, .inr (8, [.ref h10, .int wp4000298])), (h10, .inl (y 1, 3, .inr (.inl (fun _ => 0)))), (h2, .inr (8, [.ref h12, .int 0])), (h4, .inr (8, [.ref h7, .int wp4000296])), (h7, .inl (y 1, 18, .inr (.inl (vp_updL wf4000297 ((14 : Int32).toNatClampNeg) ((p1 - p1 / 10 * 10).toInt64)))))] := hD
  refine lv_iload hx hb dX5_tellSecret_33 (lv_at hl 1 rfl) ?_
  refine lv_bipush (v := 10) hx hb dX5_tellSecret_35 (by decide +kernel) ?_
  refine lv_idiv hx hb dX5_tellSecret_37 (by decide +kernel) ?_
  refine lv_istore (lv' := [(4, .int (p1 / 10)), (5, .int 2), (0, .ref h0), (1, .int 2), (2, .int p1), (3, .int 3)]) hx hb dX5_tellSecret_38 hl (by decide) rfl ?_
  clear hl
  clear ls
  intro ls hl
  refine lv_iinc (v := 1) (lv' := [(5, .int 1), (4, .int (p1 / 10)), (0, .ref h0), (1, .int 2), (2, .int p1), (3, .int 3)]) hx hb dX5_tellSecret_40 hl (k := 1) rfl (by decide +kernel) (by decide) rfl ?_
  clear hl
  clear ls
  intro ls hl
  refine lv_goto (tgt := 8) hx hb dX5_tellSecret_43 (by decide) ?_
  refine lv_iload hx hb dX5_tellSecret_8 (lv_at hl 0 rfl) ?_
  refine lv_if_lt (tgt := 46) hx hb dX5_tellSecret_10 (by decide) (fun c9 => absurd c9 (by decide +kernel)) (fun _ => ?_)
  refine lv_aload_n hx hb dX5_tellSecret_13 rfl (lv_at hl 2 rfl) ?_
  refine gm_get (D := D) (ci := 5) (v := .ref h4) (C := RX5) (T := TX5) (N := 5) hx hb hg inlX5 hown hK.1 hP 0 rfl rfl 2 (by decide) tX5_2 (hg _ gw_140) rfl dX5_tellSecret_14 ?_
  refine lv_iload_n hx hb dX5_tellSecret_17 rfl (lv_at hl 3 rfl) ?_
  refine lv_bipush (v := 6) hx hb dX5_tellSecret_18 (by decide +kernel) ?_
  refine lv_imul hx hb dX5_tellSecret_20 ?_
  refine g_fi (v := 12) (by decide +kernel) ?_
  refine lv_iload hx hb dX5_tellSecret_21 (lv_at hl 0 rfl) ?_
  refine lv_iadd hx hb dX5_tellSecret_23 ?_
  refine g_fi (v := 13) (by decide +kernel) ?_
  refine lv_iload hx hb dX5_tellSecret_24 (lv_at hl 1 rfl) ?_
  refine lv_bipush (v := 10) hx hb dX5_tellSecret_26 (by decide +kernel) ?_
  refine lv_irem hx hb dX5_tellSecret_28 (by decide +kernel) ?_
  refine lv_i2l (v := (((p1 / 10) - (p1 / 10) / 10 * 10).toInt64)) hx hb dX5_tellSecret_29 rfl ?_
  refine g_av (wr := [(h0, .inr (5, [.ref h2, .ref h3, .ref h4, .ref h5, .int wp4000295])), (h5, .inr (8, [.ref h10, .int wp4000298])), (h10, .inl (y 1, 3, .inr (.inl (fun _ => 0)))), (h2, .inr (8, [.ref h12, .int 0]))]) (va_runV (As := [.int 13, .long (((p1 / 10) - (p1 / 10) / 10 * 10).toInt64)]) (rest := []) ⟨hx, hb, hml, hown, hg⟩ (k_X8_set_31 l D y aS H.size h4 (((p1 / 10) - (p1 / 10) / 10 * 10).toInt64) h7 wp4000296 (vp_updL wf4000297 ((14 : Int32).toNatClampNeg) ((p1 - p1 / 10 * 10).toInt64))) (cwV 2 hg ggV_RX5_29_X8_set rfl rfl rfl (by decide +kernel) ⟨Nat.le_of_ble_eq_true rfl, Nat.le_of_ble_eq_true rfl⟩) (g_preV (q := (RX8, TX8, 2)) hK hP hD [4, 5] rfl (by decide) (ci := 8) (q0 := 4) rfl rfl) rfl rfl hl.1 rfl (lv_room (Nat.le_of_ble_eq_true rfl)) dX5_tellSecret_30 ⟨Nat.le_of_ble_eq_true rfl, Nat.le_of_ble_eq_true rfl⟩) hP hD hS hA [4, 5] [0, 1, 2, 3] rfl rfl (by decide) (by decide) ?_
  clear hP hD hS H locs
  refine fun u H locs hq hP hD hS => ?_
  replace hP : va_P D vwCl [(h0, .inr (5, [.ref h2, .ref h3, .ref h4, .ref h5, .int wp4000295])), (h5, .inr (8, [.ref h10, .int wp4000298])), (h10, .inl (y 1, 3, .inr (.inl (fun _ => 0)))), (h2, .inr (8, [.ref h12, .int 0])), (h4, .inr (8, [.ref h7, .int wp4000296])), (h7, .inl (y 1, 18, .inr (.inl (vp_updL (vp_updL wf4000297 ((14 : Int32).toNatClampNeg) ((p1 - p1 / 10 * 10).toInt64)) ((13 : Int32).toNatClampNeg) (((p1 / 10) - (p1 / 10) / 10 * 10).toInt64)))))] H := hP
  replace hD : va_D A [(h0, .inr (5, [.ref h2, .ref h3, .ref h4, .ref h5, .int wp4000295])), (h5, .inr (8, [.ref h10, .int wp4000298])), (h10, .inl (y 1, 3, .inr (.inl (fun _ => 0)))), (h2, .inr (8, [.ref h12, .int 0])), (h4, .inr (8, [.ref h7, .int wp4000296])), (h7, .inl (y 1, 18, .inr (.inl (vp_updL (vp_updL wf4000297 ((14 : Int32).toNatClampNeg) ((p1 - p1 / 10 * 10).toInt64)) ((13 : Int32).toNatClampNeg) (((p1 / 10) - (p1 / 10) / 10 * 10).toInt64)))))] := hD
  refine lv_iload hx hb dX5_tellSecret_33 (lv_at hl 1 rfl) ?_
  refine lv_bipush (v := 10) hx hb dX5_tellSecret_35 (by decide +kernel) ?_
  refine lv_idiv hx hb dX5_tellSecret_37 (by decide +kernel) ?_
  refine lv_istore (lv' := [(4, .int ((p1 / 10) / 10)), (5, .int 1), (0, .ref h0), (1, .int 2), (2, .int p1), (3, .int 3)]) hx hb dX5_tellSecret_38 hl (by decide) rfl ?_
  clear hl
  clear ls
  intro ls hl
  refine lv_iinc (v := 0) (lv' := [(5, .int 0), (4, .int ((p1 / 10) / 10)), (0, .ref h0), (1, .int 2), (2, .int p1), (3, .int 3)]) hx hb dX5_tellSecret_40 hl (k := 1) rfl (by decide +kernel) (by decide) rfl ?_
  clear hl
  clear ls
  intro ls hl
  refine lv_goto (tgt := 8) hx hb dX5_tellSecret_43 (by decide) ?_
  refine lv_iload hx hb dX5_tellSecret_8 (lv_at hl 0 rfl) ?_
  refine lv_if_lt (tgt := 46) hx hb dX5_tellSecret_10 (by decide) (fun c9 => absurd c9 (by decide +kernel)) (fun _ => ?_)
  refine lv_aload_n hx hb dX5_tellSecret_13 rfl (lv_at hl 2 rfl) ?_
  refine gm_get (D := D) (ci := 5) (v := .ref h4) (C := RX5) (T := TX5) (N := 5) hx hb hg inlX5 hown hK.1 hP 0 rfl rfl 2 (by decide) tX5_2 (hg _ gw_140) rfl dX5_tellSecret_14 ?_
  refine lv_iload_n hx hb dX5_tellSecret_17 rfl (lv_at hl 3 rfl) ?_
  refine lv_bipush (v := 6) hx hb dX5_tellSecret_18 (by decide +kernel) ?_
  refine lv_imul hx hb dX5_tellSecret_20 ?_
  refine g_fi (v := 12) (by decide +kernel) ?_
  refine lv_iload hx hb dX5_tellSecret_21 (lv_at hl 0 rfl) ?_
  refine lv_iadd hx hb dX5_tellSecret_23 ?_
  refine g_fi (v := 12) (by decide +kernel) ?_
  refine lv_iload hx hb dX5_tellSecret_24 (lv_at hl 1 rfl) ?_
  refine lv_bipush (v := 10) hx hb dX5_tellSecret_26 (by decide +kernel) ?_
  refine lv_irem hx hb dX5_tellSecret_28 (by decide +kernel) ?_
  refine lv_i2l (v := ((((p1 / 10) / 10) - ((p1 / 10) / 10) / 10 * 10).toInt64)) hx hb dX5_tellSecret_29 rfl ?_
  refine g_av (wr := [(h0, .inr (5, [.ref h2, .ref h3, .ref h4, .ref h5, .int wp4000295])), (h5, .inr (8, [.ref h10, .int wp4000298])), (h10, .inl (y 1, 3, .inr (.inl (fun _ => 0)))), (h2, .inr (8, [.ref h12, .int 0]))]) (va_runV (As := [.int 12, .long ((((p1 / 10) / 10) - ((p1 / 10) / 10) / 10 * 10).toInt64)]) (rest := []) ⟨hx, hb, hml, hown, hg⟩ (k_X8_set_32 l D y aS H.size h4 ((((p1 / 10) / 10) - ((p1 / 10) / 10) / 10 * 10).toInt64) h7 wp4000296 (vp_updL (vp_updL wf4000297 ((14 : Int32).toNatClampNeg) ((p1 - p1 / 10 * 10).toInt64)) ((13 : Int32).toNatClampNeg) (((p1 / 10) - (p1 / 10) / 10 * 10).toInt64))) (cwV 2 hg ggV_RX5_29_X8_set rfl rfl rfl (by decide +kernel) ⟨Nat.le_of_ble_eq_true rfl, Nat.le_of_ble_eq_true rfl⟩) (g_preV (q := (RX8, TX8, 2)) hK hP hD [4, 5] rfl (by decide) (ci := 8) (q0 := 4) rfl rfl) rfl rfl hl.1 rfl (lv_room (Nat.le_of_ble_eq_true rfl)) dX5_tellSecret_30 ⟨Nat.le_of_ble_eq_true rfl, Nat.le_of_ble_eq_true rfl⟩) hP hD hS hA [4, 5] [0, 1, 2, 3] rfl rfl (by decide) (by decide) ?_
  clear hP hD hS H locs
  refine fun u H locs hq hP hD hS => ?_
  replace hP : va_P D vwCl [(h0, .inr (5, [.ref h2, .ref h3, .ref h4, .ref h5, .int wp4000295])), (h5, .inr (8, [.ref h10, .int wp4000298])), (h10, .inl (y 1, 3, .inr (.inl (fun _ => 0)))), (h2, .inr (8, [.ref h12, .int 0])), (h4, .inr (8, [.ref h7, .int wp4000296])), (h7, .inl (y 1, 18, .inr (.inl (vp_updL (vp_updL (vp_updL wf4000297 ((14 : Int32).toNatClampNeg) ((p1 - p1 / 10 * 10).toInt64)) ((13 : Int32).toNatClampNeg) (((p1 / 10) - (p1 / 10) / 10 * 10).toInt64)) ((12 : Int32).toNatClampNeg) ((((p1 / 10) / 10) - ((p1 / 10) / 10) / 10 * 10).toInt64)))))] H := hP
  replace hD : va_D A [(h0, .inr (5, [.ref h2, .ref h3, .ref h4, .ref h5, .int wp4000295])), (h5, .inr (8, [.ref h10, .int wp4000298])), (h10, .inl (y 1, 3, .inr (.inl (fun _ => 0)))), (h2, .inr (8, [.ref h12, .int 0])), (h4, .inr (8, [.ref h7, .int wp4000296])), (h7, .inl (y 1, 18, .inr (.inl (vp_updL (vp_updL (vp_updL wf4000297 ((14 : Int32).toNatClampNeg) ((p1 - p1 / 10 * 10).toInt64)) ((13 : Int32).toNatClampNeg) (((p1 / 10) - (p1 / 10) / 10 * 10).toInt64)) ((12 : Int32).toNatClampNeg) ((((p1 / 10) / 10) - ((p1 / 10) / 10) / 10 * 10).toInt64)))))] := hD
  refine lv_iload hx hb dX5_tellSecret_33 (lv_at hl 1 rfl) ?_
  refine lv_bipush (v := 10) hx hb dX5_tellSecret_35 (by decide +kernel) ?_
  refine lv_idiv hx hb dX5_tellSecret_37 (by decide +kernel) ?_
  refine lv_istore (lv' := [(4, .int (((p1 / 10) / 10) / 10)), (5, .int 0), (0, .ref h0), (1, .int 2), (2, .int p1), (3, .int 3)]) hx hb dX5_tellSecret_38 hl (by decide) rfl ?_
  clear hl
  clear ls
  intro ls hl
  refine lv_iinc (v := (-1)) (lv' := [(5, .int (-1)), (4, .int (((p1 / 10) / 10) / 10)), (0, .ref h0), (1, .int 2), (2, .int p1), (3, .int 3)]) hx hb dX5_tellSecret_40 hl (k := 1) rfl (by decide +kernel) (by decide) rfl ?_
  clear hl
  clear ls
  intro ls hl
  refine lv_goto (tgt := 8) hx hb dX5_tellSecret_43 (by decide) ?_
  refine lv_iload hx hb dX5_tellSecret_8 (lv_at hl 0 rfl) ?_
  refine lv_if_lt (tgt := 46) hx hb dX5_tellSecret_10 (by decide) (fun _ => ?_) (fun c9 => absurd c9 (by decide +kernel))
  refine lv_aload_n hx hb dX5_tellSecret_46 rfl (lv_at hl 2 rfl) ?_
  refine gm_get (D := D) (ci := 5) (v := .ref h5) (C := RX5) (T := TX5) (N := 5) hx hb hg inlX5 hown hK.1 hP 0 rfl rfl 3 (by decide) tX5_3 (hg _ gw_141) rfl dX5_tellSecret_47 ?_
  refine lv_iload_n hx hb dX5_tellSecret_50 rfl (lv_at hl 3 rfl) ?_
  refine lv_iload_n hx hb dX5_tellSecret_51 rfl (lv_at hl 5 rfl) ?_
  refine lv_i2l (v := 3) hx hb dX5_tellSecret_52 (by decide +kernel) ?_
  refine g_av (wr := [(h0, .inr (5, [.ref h2, .ref h3, .ref h4, .ref h5, .int wp4000295])), (h2, .inr (8, [.ref h12, .int 0])), (h4, .inr (8, [.ref h7, .int wp4000296])), (h7, .inl (y 1, 18, .inr (.inl (vp_updL (vp_updL (vp_updL wf4000297 ((14 : Int32).toNatClampNeg) ((p1 - p1 / 10 * 10).toInt64)) ((13 : Int32).toNatClampNeg) (((p1 / 10) - (p1 / 10) / 10 * 10).toInt64)) ((12 : Int32).toNatClampNeg) ((((p1 / 10) / 10) - ((p1 / 10) / 10) / 10 * 10).toInt64)))))]) (va_runV (As := [.int 2, .long 3]) (rest := []) ⟨hx, hb, hml, hown, hg⟩ (k_X8_set_26 l D y aS H.size h5 3 h10 wp4000298 (fun _ => 0)) (cwV 2 hg ggV_RX5_29_X8_set rfl rfl rfl (by decide +kernel) ⟨Nat.le_of_ble_eq_true rfl, Nat.le_of_ble_eq_true rfl⟩) (g_preV (q := (RX8, TX8, 2)) hK hP hD [1, 2] rfl (by decide) (ci := 8) (q0 := 1) rfl rfl) rfl rfl hl.1 rfl (lv_room (Nat.le_of_ble_eq_true rfl)) dX5_tellSecret_53 ⟨Nat.le_of_ble_eq_true rfl, Nat.le_of_ble_eq_true rfl⟩) hP hD hS hA [1, 2] [0, 3, 4, 5] rfl rfl (by decide) (by decide) ?_
  clear hP hD hS H locs
  refine fun u H locs hq hP hD hS => ?_
  replace hP : va_P D vwCl [(h0, .inr (5, [.ref h2, .ref h3, .ref h4, .ref h5, .int wp4000295])), (h2, .inr (8, [.ref h12, .int 0])), (h4, .inr (8, [.ref h7, .int wp4000296])), (h7, .inl (y 1, 18, .inr (.inl (vp_updL (vp_updL (vp_updL wf4000297 ((14 : Int32).toNatClampNeg) ((p1 - p1 / 10 * 10).toInt64)) ((13 : Int32).toNatClampNeg) (((p1 / 10) - (p1 / 10) / 10 * 10).toInt64)) ((12 : Int32).toNatClampNeg) ((((p1 / 10) / 10) - ((p1 / 10) / 10) / 10 * 10).toInt64))))), (h5, .inr (8, [.ref h10, .int wp4000298])), (h10, .inl (y 1, 3, .inr (.inl (vp_updL (fun _ => 0) ((2 : Int32).toNatClampNeg) 3))))] H := hP
  replace hD : va_D A [(h0, .inr (5, [.ref h2, .ref h3, .ref h4, .ref h5, .int wp4000295])), (h2, .inr (8, [.ref h12, .int 0])), (h4, .inr (8, [.ref h7, .int wp4000296])), (h7, .inl (y 1, 18, .inr (.inl (vp_updL (vp_updL (vp_updL wf4000297 ((14 : Int32).toNatClampNeg) ((p1 - p1 / 10 * 10).toInt64)) ((13 : Int32).toNatClampNeg) (((p1 / 10) - (p1 / 10) / 10 * 10).toInt64)) ((12 : Int32).toNatClampNeg) ((((p1 / 10) / 10) - ((p1 / 10) / 10) / 10 * 10).toInt64))))), (h5, .inr (8, [.ref h10, .int wp4000298])), (h10, .inl (y 1, 3, .inr (.inl (vp_updL (fun _ => 0) ((2 : Int32).toNatClampNeg) 3))))] := hD
  refine lv_aload_n hx hb dX5_tellSecret_56 rfl (lv_at hl 2 rfl) ?_
  refine g_av (wr := [(h4, .inr (8, [.ref h7, .int wp4000296])), (h7, .inl (y 1, 18, .inr (.inl (vp_updL (vp_updL (vp_updL wf4000297 ((14 : Int32).toNatClampNeg) ((p1 - p1 / 10 * 10).toInt64)) ((13 : Int32).toNatClampNeg) (((p1 / 10) - (p1 / 10) / 10 * 10).toInt64)) ((12 : Int32).toNatClampNeg) ((((p1 / 10) / 10) - ((p1 / 10) / 10) / 10 * 10).toInt64))))), (h5, .inr (8, [.ref h10, .int wp4000298])), (h10, .inl (y 1, 3, .inr (.inl (vp_updL (fun _ => 0) ((2 : Int32).toNatClampNeg) 3))))]) (va_runV (As := []) (rest := []) ⟨hx, hb, hml, hown, hg⟩ (k_X5_findOut_0 l D y aS H.size h0 h2 h3 h4 h5 wp4000295 h12) (cwV 0 hg ggV_RX5_33_X5_findOut rfl rfl rfl (by decide +kernel) ⟨Nat.le_of_ble_eq_true rfl, Nat.le_of_ble_eq_true rfl⟩) (g_preV (q := (RX5, TX5, 5)) hK hP hD [0, 1] rfl (by decide) (ci := 5) (q0 := 0) rfl rfl) rfl rfl hl.1 rfl (lv_room (Nat.le_of_ble_eq_true rfl)) dX5_tellSecret_57 ⟨Nat.le_of_ble_eq_true rfl, Nat.le_of_ble_eq_true rfl⟩) hP hD hS hA [0, 1] [2, 3, 4, 5] rfl rfl (by decide) (by decide) ?_
  clear hP hD hS H locs
  refine fun u H locs hq hP hD hS => ?_
  replace hP : va_P D vwCl [(h4, .inr (8, [.ref h7, .int wp4000296])), (h7, .inl (y 1, 18, .inr (.inl (vp_updL (vp_updL (vp_updL wf4000297 ((14 : Int32).toNatClampNeg) ((p1 - p1 / 10 * 10).toInt64)) ((13 : Int32).toNatClampNeg) (((p1 / 10) - (p1 / 10) / 10 * 10).toInt64)) ((12 : Int32).toNatClampNeg) ((((p1 / 10) / 10) - ((p1 / 10) / 10) / 10 * 10).toInt64))))), (h5, .inr (8, [.ref h10, .int wp4000298])), (h10, .inl (y 1, 3, .inr (.inl (vp_updL (fun _ => 0) ((2 : Int32).toNatClampNeg) 3)))), (h0, .inr (5, [.ref h2, .ref h3, .ref h4, .ref h5, .int 0])), (h2, .inr (8, [.ref h12, .int 0]))] H := hP
  replace hD : va_D A [(h4, .inr (8, [.ref h7, .int wp4000296])), (h7, .inl (y 1, 18, .inr (.inl (vp_updL (vp_updL (vp_updL wf4000297 ((14 : Int32).toNatClampNeg) ((p1 - p1 / 10 * 10).toInt64)) ((13 : Int32).toNatClampNeg) (((p1 / 10) - (p1 / 10) / 10 * 10).toInt64)) ((12 : Int32).toNatClampNeg) ((((p1 / 10) / 10) - ((p1 / 10) / 10) / 10 * 10).toInt64))))), (h5, .inr (8, [.ref h10, .int wp4000298])), (h10, .inl (y 1, 3, .inr (.inl (vp_updL (fun _ => 0) ((2 : Int32).toNatClampNeg) 3)))), (h0, .inr (5, [.ref h2, .ref h3, .ref h4, .ref h5, .int 0])), (h2, .inr (8, [.ref h12, .int 0]))] := hD
  refine lv_iconst (v := 0) hx hb dX5_tellSecret_60 (by decide) ?_
  refine lv_istore (lv' := [(5, .int 0), (4, .int (((p1 / 10) / 10) / 10)), (0, .ref h0), (1, .int 2), (2, .int p1), (3, .int 3)]) hx hb dX5_tellSecret_61 hl (by decide) rfl ?_
  clear hl
  clear ls
  intro ls hl
  refine lv_iconst (v := 0) hx hb dX5_tellSecret_63 (by decide) ?_
  refine lv_istore (lv' := [(6, .int 0), (5, .int 0), (4, .int (((p1 / 10) / 10) / 10)), (0, .ref h0), (1, .int 2), (2, .int p1), (3, .int 3)]) hx hb dX5_tellSecret_64 hl (by decide) rfl ?_
  clear hl
  clear ls
  intro ls hl
  refine lv_iload hx hb dX5_tellSecret_66 (lv_at hl 0 rfl) ?_
  refine lv_iconst (v := 3) hx hb dX5_tellSecret_68 (by decide) ?_
  refine lv_icmp_ge (tgt := 95) hx hb dX5_tellSecret_69 (by decide) (fun c9 => absurd c9 (by decide +kernel)) (fun _ => ?_)
  refine lv_aload_n hx hb dX5_tellSecret_72 rfl (lv_at hl 3 rfl) ?_
  refine gm_get (D := D) (ci := 5) (v := .ref h5) (C := RX5) (T := TX5) (N := 5) hx hb hg inlX5 hown hK.1 hP 4 rfl rfl 3 (by decide) tX5_3 (hg _ gw_141) rfl dX5_tellSecret_73 ?_
  refine lv_iload hx hb dX5_tellSecret_76 (lv_at hl 0 rfl) ?_
  refine g_al (wr := [(h4, .inr (8, [.ref h7, .int wp4000296])), (h7, .inl (y 1, 18, .inr (.inl (vp_updL (vp_updL (vp_updL wf4000297 ((14 : Int32).toNatClampNeg) ((p1 - p1 / 10 * 10).toInt64)) ((13 : Int32).toNatClampNeg) (((p1 / 10) - (p1 / 10) / 10 * 10).toInt64)) ((12 : Int32).toNatClampNeg) ((((p1 / 10) / 10) - ((p1 / 10) / 10) / 10 * 10).toInt64))))), (h0, .inr (5, [.ref h2, .ref h3, .ref h4, .ref h5, .int 0])), (h2, .inr (8, [.ref h12, .int 0]))]) (va_runV (As := [.int 0]) (rest := []) ⟨hx, hb, hml, hown, hg⟩ (k_X8_get_17 l D y aS H.size h5 h10 wp4000298) (cwV 1 hg ggV_RX5_36_X8_get rfl rfl rfl (by decide +kernel) ⟨Nat.le_of_ble_eq_true rfl, Nat.le_of_ble_eq_true rfl⟩) (g_preV (q := (RX8, TX8, 2)) hK hP hD [2, 3] rfl (by decide) (ci := 8) (q0 := 2) rfl rfl) rfl rfl hl.1 rfl (lv_room (Nat.le_of_ble_eq_true rfl)) dX5_tellSecret_78 ⟨Nat.le_of_ble_eq_true rfl, Nat.le_of_ble_eq_true rfl⟩) hP hD hS hA [2, 3] [0, 1, 4, 5] rfl rfl (by decide) (by decide) ?_
  clear hP hD hS H locs
  refine fun r4000304 u H locs hq hP hD hS => ?_
  subst hq
  replace hP : va_P D vwCl [(h4, .inr (8, [.ref h7, .int wp4000296])), (h7, .inl (y 1, 18, .inr (.inl (vp_updL (vp_updL (vp_updL wf4000297 ((14 : Int32).toNatClampNeg) ((p1 - p1 / 10 * 10).toInt64)) ((13 : Int32).toNatClampNeg) (((p1 / 10) - (p1 / 10) / 10 * 10).toInt64)) ((12 : Int32).toNatClampNeg) ((((p1 / 10) / 10) - ((p1 / 10) / 10) / 10 * 10).toInt64))))), (h0, .inr (5, [.ref h2, .ref h3, .ref h4, .ref h5, .int 0])), (h2, .inr (8, [.ref h12, .int 0])), (h5, .inr (8, [.ref h10, .int wp4000298])), (h10, .inl (y 1, 3, .inr (.inl (vp_updL (fun _ => 0) ((2 : Int32).toNatClampNeg) 3))))] H := hP
  replace hD : va_D A [(h4, .inr (8, [.ref h7, .int wp4000296])), (h7, .inl (y 1, 18, .inr (.inl (vp_updL (vp_updL (vp_updL wf4000297 ((14 : Int32).toNatClampNeg) ((p1 - p1 / 10 * 10).toInt64)) ((13 : Int32).toNatClampNeg) (((p1 / 10) - (p1 / 10) / 10 * 10).toInt64)) ((12 : Int32).toNatClampNeg) ((((p1 / 10) / 10) - ((p1 / 10) / 10) / 10 * 10).toInt64))))), (h0, .inr (5, [.ref h2, .ref h3, .ref h4, .ref h5, .int 0])), (h2, .inr (8, [.ref h12, .int 0])), (h5, .inr (8, [.ref h10, .int wp4000298])), (h10, .inl (y 1, 3, .inr (.inl (vp_updL (fun _ => 0) ((2 : Int32).toNatClampNeg) 3))))] := hD
  refine lv_lconst (v := 0) hx hb dX5_tellSecret_81 (by decide) ?_
  refine W.lcmp hx hb dX5_tellSecret_82 ?_
  refine g_fi (v := 0) (by decide +kernel) ?_
  refine lv_if_le (tgt := 89) hx hb dX5_tellSecret_83 (by decide) (fun _ => ?_) (fun c9 => absurd c9 (by decide +kernel))
  refine lv_iinc (v := 1) (lv' := [(6, .int 1), (5, .int 0), (4, .int (((p1 / 10) / 10) / 10)), (0, .ref h0), (1, .int 2), (2, .int p1), (3, .int 3)]) hx hb dX5_tellSecret_89 hl (k := 0) rfl (by decide +kernel) (by decide) rfl ?_
  clear hl
  clear ls
  intro ls hl
  refine lv_goto (tgt := 66) hx hb dX5_tellSecret_92 (by decide) ?_
  refine lv_iload hx hb dX5_tellSecret_66 (lv_at hl 0 rfl) ?_
  refine lv_iconst (v := 3) hx hb dX5_tellSecret_68 (by decide) ?_
  refine lv_icmp_ge (tgt := 95) hx hb dX5_tellSecret_69 (by decide) (fun c9 => absurd c9 (by decide +kernel)) (fun _ => ?_)
  refine lv_aload_n hx hb dX5_tellSecret_72 rfl (lv_at hl 3 rfl) ?_
  refine gm_get (D := D) (ci := 5) (v := .ref h5) (C := RX5) (T := TX5) (N := 5) hx hb hg inlX5 hown hK.1 hP 2 rfl rfl 3 (by decide) tX5_3 (hg _ gw_141) rfl dX5_tellSecret_73 ?_
  refine lv_iload hx hb dX5_tellSecret_76 (lv_at hl 0 rfl) ?_
  refine g_al (wr := [(h4, .inr (8, [.ref h7, .int wp4000296])), (h7, .inl (y 1, 18, .inr (.inl (vp_updL (vp_updL (vp_updL wf4000297 ((14 : Int32).toNatClampNeg) ((p1 - p1 / 10 * 10).toInt64)) ((13 : Int32).toNatClampNeg) (((p1 / 10) - (p1 / 10) / 10 * 10).toInt64)) ((12 : Int32).toNatClampNeg) ((((p1 / 10) / 10) - ((p1 / 10) / 10) / 10 * 10).toInt64))))), (h0, .inr (5, [.ref h2, .ref h3, .ref h4, .ref h5, .int 0])), (h2, .inr (8, [.ref h12, .int 0]))]) (va_runV (As := [.int 1]) (rest := []) ⟨hx, hb, hml, hown, hg⟩ (k_X8_get_18 l D y aS H.size h5 h10 wp4000298) (cwV 1 hg ggV_RX5_36_X8_get rfl rfl rfl (by decide +kernel) ⟨Nat.le_of_ble_eq_true rfl, Nat.le_of_ble_eq_true rfl⟩) (g_preV (q := (RX8, TX8, 2)) hK hP hD [4, 5] rfl (by decide) (ci := 8) (q0 := 4) rfl rfl) rfl rfl hl.1 rfl (lv_room (Nat.le_of_ble_eq_true rfl)) dX5_tellSecret_78 ⟨Nat.le_of_ble_eq_true rfl, Nat.le_of_ble_eq_true rfl⟩) hP hD hS hA [4, 5] [0, 1, 2, 3] rfl rfl (by decide) (by decide) ?_
  clear hP hD hS H locs
  refine fun r4000305 u H locs hq hP hD hS => ?_
  subst hq
  replace hP : va_P D vwCl [(h4, .inr (8, [.ref h7, .int wp4000296])), (h7, .inl (y 1, 18, .inr (.inl (vp_updL (vp_updL (vp_updL wf4000297 ((14 : Int32).toNatClampNeg) ((p1 - p1 / 10 * 10).toInt64)) ((13 : Int32).toNatClampNeg) (((p1 / 10) - (p1 / 10) / 10 * 10).toInt64)) ((12 : Int32).toNatClampNeg) ((((p1 / 10) / 10) - ((p1 / 10) / 10) / 10 * 10).toInt64))))), (h0, .inr (5, [.ref h2, .ref h3, .ref h4, .ref h5, .int 0])), (h2, .inr (8, [.ref h12, .int 0])), (h5, .inr (8, [.ref h10, .int wp4000298])), (h10, .inl (y 1, 3, .inr (.inl (vp_updL (fun _ => 0) ((2 : Int32).toNatClampNeg) 3))))] H := hP
  replace hD : va_D A [(h4, .inr (8, [.ref h7, .int wp4000296])), (h7, .inl (y 1, 18, .inr (.inl (vp_updL (vp_updL (vp_updL wf4000297 ((14 : Int32).toNatClampNeg) ((p1 - p1 / 10 * 10).toInt64)) ((13 : Int32).toNatClampNeg) (((p1 / 10) - (p1 / 10) / 10 * 10).toInt64)) ((12 : Int32).toNatClampNeg) ((((p1 / 10) / 10) - ((p1 / 10) / 10) / 10 * 10).toInt64))))), (h0, .inr (5, [.ref h2, .ref h3, .ref h4, .ref h5, .int 0])), (h2, .inr (8, [.ref h12, .int 0])), (h5, .inr (8, [.ref h10, .int wp4000298])), (h10, .inl (y 1, 3, .inr (.inl (vp_updL (fun _ => 0) ((2 : Int32).toNatClampNeg) 3))))] := hD
  refine lv_lconst (v := 0) hx hb dX5_tellSecret_81 (by decide) ?_
  refine W.lcmp hx hb dX5_tellSecret_82 ?_
  refine g_fi (v := 0) (by decide +kernel) ?_
  refine lv_if_le (tgt := 89) hx hb dX5_tellSecret_83 (by decide) (fun _ => ?_) (fun c9 => absurd c9 (by decide +kernel))
  refine lv_iinc (v := 2) (lv' := [(6, .int 2), (5, .int 0), (4, .int (((p1 / 10) / 10) / 10)), (0, .ref h0), (1, .int 2), (2, .int p1), (3, .int 3)]) hx hb dX5_tellSecret_89 hl (k := 0) rfl (by decide +kernel) (by decide) rfl ?_
  clear hl
  clear ls
  intro ls hl
  refine lv_goto (tgt := 66) hx hb dX5_tellSecret_92 (by decide) ?_
  refine lv_iload hx hb dX5_tellSecret_66 (lv_at hl 0 rfl) ?_
  refine lv_iconst (v := 3) hx hb dX5_tellSecret_68 (by decide) ?_
  refine lv_icmp_ge (tgt := 95) hx hb dX5_tellSecret_69 (by decide) (fun c9 => absurd c9 (by decide +kernel)) (fun _ => ?_)
  refine lv_aload_n hx hb dX5_tellSecret_72 rfl (lv_at hl 3 rfl) ?_
  refine gm_get (D := D) (ci := 5) (v := .ref h5) (C := RX5) (T := TX5) (N := 5) hx hb hg inlX5 hown hK.1 hP 2 rfl rfl 3 (by decide) tX5_3 (hg _ gw_141) rfl dX5_tellSecret_73 ?_
  refine lv_iload hx hb dX5_tellSecret_76 (lv_at hl 0 rfl) ?_
  refine g_al (wr := [(h4, .inr (8, [.ref h7, .int wp4000296])), (h7, .inl (y 1, 18, .inr (.inl (vp_updL (vp_updL (vp_updL wf4000297 ((14 : Int32).toNatClampNeg) ((p1 - p1 / 10 * 10).toInt64)) ((13 : Int32).toNatClampNeg) (((p1 / 10) - (p1 / 10) / 10 * 10).toInt64)) ((12 : Int32).toNatClampNeg) ((((p1 / 10) / 10) - ((p1 / 10) / 10) / 10 * 10).toInt64))))), (h0, .inr (5, [.ref h2, .ref h3, .ref h4, .ref h5, .int 0])), (h2, .inr (8, [.ref h12, .int 0]))]) (va_runV (As := [.int 2]) (rest := []) ⟨hx, hb, hml, hown, hg⟩ (k_X8_get_19 l D y aS H.size h5 h10 wp4000298) (cwV 1 hg ggV_RX5_36_X8_get rfl rfl rfl (by decide +kernel) ⟨Nat.le_of_ble_eq_true rfl, Nat.le_of_ble_eq_true rfl⟩) (g_preV (q := (RX8, TX8, 2)) hK hP hD [4, 5] rfl (by decide) (ci := 8) (q0 := 4) rfl rfl) rfl rfl hl.1 rfl (lv_room (Nat.le_of_ble_eq_true rfl)) dX5_tellSecret_78 ⟨Nat.le_of_ble_eq_true rfl, Nat.le_of_ble_eq_true rfl⟩) hP hD hS hA [4, 5] [0, 1, 2, 3] rfl rfl (by decide) (by decide) ?_
  clear hP hD hS H locs
  refine fun r4000306 u H locs hq hP hD hS => ?_
  subst hq
  replace hP : va_P D vwCl [(h4, .inr (8, [.ref h7, .int wp4000296])), (h7, .inl (y 1, 18, .inr (.inl (vp_updL (vp_updL (vp_updL wf4000297 ((14 : Int32).toNatClampNeg) ((p1 - p1 / 10 * 10).toInt64)) ((13 : Int32).toNatClampNeg) (((p1 / 10) - (p1 / 10) / 10 * 10).toInt64)) ((12 : Int32).toNatClampNeg) ((((p1 / 10) / 10) - ((p1 / 10) / 10) / 10 * 10).toInt64))))), (h0, .inr (5, [.ref h2, .ref h3, .ref h4, .ref h5, .int 0])), (h2, .inr (8, [.ref h12, .int 0])), (h5, .inr (8, [.ref h10, .int wp4000298])), (h10, .inl (y 1, 3, .inr (.inl (vp_updL (fun _ => 0) ((2 : Int32).toNatClampNeg) 3))))] H := hP
  replace hD : va_D A [(h4, .inr (8, [.ref h7, .int wp4000296])), (h7, .inl (y 1, 18, .inr (.inl (vp_updL (vp_updL (vp_updL wf4000297 ((14 : Int32).toNatClampNeg) ((p1 - p1 / 10 * 10).toInt64)) ((13 : Int32).toNatClampNeg) (((p1 / 10) - (p1 / 10) / 10 * 10).toInt64)) ((12 : Int32).toNatClampNeg) ((((p1 / 10) / 10) - ((p1 / 10) / 10) / 10 * 10).toInt64))))), (h0, .inr (5, [.ref h2, .ref h3, .ref h4, .ref h5, .int 0])), (h2, .inr (8, [.ref h12, .int 0])), (h5, .inr (8, [.ref h10, .int wp4000298])), (h10, .inl (y 1, 3, .inr (.inl (vp_updL (fun _ => 0) ((2 : Int32).toNatClampNeg) 3))))] := hD
  refine lv_lconst (v := 0) hx hb dX5_tellSecret_81 (by decide) ?_
  refine W.lcmp hx hb dX5_tellSecret_82 ?_
  refine g_fi (v := 1) (by decide +kernel) ?_
  refine lv_if_le (tgt := 89) hx hb dX5_tellSecret_83 (by decide) (fun c9 => absurd c9 (by decide +kernel)) (fun _ => ?_)
  refine lv_iinc (v := 1) (lv' := [(5, .int 1), (6, .int 2), (4, .int (((p1 / 10) / 10) / 10)), (0, .ref h0), (1, .int 2), (2, .int p1), (3, .int 3)]) hx hb dX5_tellSecret_86 hl (k := 1) rfl (by decide +kernel) (by decide) rfl ?_
  clear hl
  clear ls
  intro ls hl
  refine lv_iinc (v := 3) (lv' := [(6, .int 3), (5, .int 1), (4, .int (((p1 / 10) / 10) / 10)), (0, .ref h0), (1, .int 2), (2, .int p1), (3, .int 3)]) hx hb dX5_tellSecret_89 hl (k := 1) rfl (by decide +kernel) (by decide) rfl ?_
  clear hl
  clear ls
  intro ls hl
  refine lv_goto (tgt := 66) hx hb dX5_tellSecret_92 (by decide) ?_
  refine lv_iload hx hb dX5_tellSecret_66 (lv_at hl 0 rfl) ?_
  refine lv_iconst (v := 3) hx hb dX5_tellSecret_68 (by decide) ?_
  refine lv_icmp_ge (tgt := 95) hx hb dX5_tellSecret_69 (by decide) (fun _ => ?_) (fun c9 => absurd c9 (by decide +kernel))
  refine lv_iload hx hb dX5_tellSecret_95 (lv_at hl 1 rfl) ?_
  exact g_iret hx hb hr hlocks () (hP.sub [2, 0, 1, 4, 5, 3] rfl) (hD.sub [2, 0, 1, 4, 5, 3] (by decide +kernel) rfl) hS rfl rfl (Nat.le_of_ble_eq_true rfl) (Nat.le_of_ble_eq_true rfl) dX5_tellSecret_97
set_option maxRecDepth 100000 in
set_option maxHeartbeats 4000000 in
theorem k_X8_set_36 (l : Launch) (D : va_G) (y : Nat → ClassId) (aS : Nat → Nat) (sz : Nat) (h0 : Nat) (p1 : Int64) (h2 : Nat) (wp4000312 : Int32) (wf4000313 : Nat → Int64) : Met l yX8_set (Cond.code yX8_set cX8_set 4 none :: wsL_law) ({ frames := 0, cells := 0, slots := 0, locals := 0 } : Room) (va_Pc [.ref h0, .int 3, .long p1] (gI D y aS [(h0, .inr (8, [.ref h2, .int wp4000312])), (h2, .inl (y 1, 18, .inr (.inl wf4000313)))] sz)) (va_Qv (fun (u : Unit) => True) (fun u => gO D (va_A [(h0, .inr (8, [.ref h2, .int wp4000312])), (h2, .inl (y 1, 18, .inr (.inl wf4000313)))] sz) [(h0, .inr (8, [.ref h2, .int wp4000312])), (h2, .inl (y 1, 18, .inr (.inl (vp_updL wf4000313 ((3 : Int32).toNatClampNeg) p1))))]) (va_A [(h0, .inr (8, [.ref h2, .int wp4000312])), (h2, .inl (y 1, 18, .inr (.inl wf4000313)))] sz)) 0 0 (va_A [(h0, .inr (8, [.ref h2, .int wp4000312])), (h2, .inl (y 1, 18, .inr (.inl wf4000313)))] sz) := by
  refine g_of (by decide) (Nat.le_of_ble_eq_true rfl) ?_
  intro p e s m below meth c ls A hx hb hr hml hown hg hlocks hin hsz hK hP hD hS hA hAe hl
  rw [← hAe]
  replace hown : s.vm.findClass RX8 = some m.cls := hown
  replace hl : lv_has ls 4 [(0, .ref h0), (1, .int 3), (2, .long p1)] := hl
  refine lv_iload_n hx hb dX8_set_0 rfl (lv_at hl 1 rfl) ?_
  refine lv_if_lt (tgt := 20) hx hb dX8_set_1 (by decide) (fun c9 => absurd c9 (by decide +kernel)) (fun _ => ?_)
  refine lv_iload_n hx hb dX8_set_4 rfl (lv_at hl 1 rfl) ?_
  refine lv_aload_n hx hb dX8_set_5 rfl (lv_at hl 0 rfl) ?_
  refine gm_get (D := D) (ci := 8) (v := .ref h2) (C := RX8) (T := TX8) (N := 2) hx hb hg inlX8 hown hK.1 hP 0 rfl rfl 0 (by decide) tX8_0 (hg _ gw_98) rfl dX8_set_6 ?_
  refine va_alen hx hb hK.1 hP 1 1 rfl rfl (v := 18) rfl dX8_set_9 ?_
  refine lv_icmp_ge (tgt := 20) hx hb dX8_set_10 (by decide) (fun c9 => absurd c9 (by decide +kernel)) (fun _ => ?_)
  refine lv_aload_n hx hb dX8_set_13 rfl (lv_at hl 0 rfl) ?_
  refine gm_get (D := D) (ci := 8) (v := .ref h2) (C := RX8) (T := TX8) (N := 2) hx hb hg inlX8 hown hK.1 hP 0 rfl rfl 0 (by decide) tX8_0 (hg _ gw_98) rfl dX8_set_14 ?_
  refine lv_iload_n hx hb dX8_set_17 rfl (lv_at hl 1 rfl) ?_
  refine lv_lload_n hx hb dX8_set_18 rfl (lv_at hl 2 rfl) ?_
  refine va_last hx hb hK.1 hP hD hS 1 1 rfl rfl (by unfold vp_in; decide +kernel) dX8_set_19 ?_
  clear hP hD hS
  refine fun H locs (hP : va_P D vwCl [(h0, .inr (8, [.ref h2, .int wp4000312])), (h2, .inl (y 1, 18, .inr (.inl (vp_updL wf4000313 ((3 : Int32).toNatClampNeg) p1))))] H) (hD : va_D A [(h0, .inr (8, [.ref h2, .int wp4000312])), (h2, .inl (y 1, 18, .inr (.inl (vp_updL wf4000313 ((3 : Int32).toNatClampNeg) p1))))]) hS => ?_
  exact g_vret hx hb hr hlocks () hP hD hS trivial (Nat.le_of_ble_eq_true rfl) (Nat.le_of_ble_eq_true rfl) dX8_set_20
set_option maxRecDepth 100000 in
set_option maxHeartbeats 4000000 in
theorem k_X8_get_20 (l : Launch) (D : va_G) (y : Nat → ClassId) (aS : Nat → Nat) (sz : Nat) (h0 : Nat) (h1 : Nat) (wp4000320 : Int32) : Met l yX8_get (Cond.code yX8_get cX8_get 2 (some .long) :: wsL_law) ({ frames := 0, cells := 0, slots := 0, locals := 0 } : Room) (va_Pc [.ref h0, .int 0] (gI D y aS [(h0, .inr (8, [.ref h1, .int wp4000320])), (h1, .inl (y 1, 3, .inr (.inl (vp_updL (fun _ => 0) ((0 : Int32).toNatClampNeg) 4))))] sz)) (va_Ql (fun (r : Int64) (u : Unit) => 4 = r) (fun u => gO D (va_A [(h0, .inr (8, [.ref h1, .int wp4000320])), (h1, .inl (y 1, 3, .inr (.inl (vp_updL (fun _ => 0) ((0 : Int32).toNatClampNeg) 4))))] sz) [(h0, .inr (8, [.ref h1, .int wp4000320])), (h1, .inl (y 1, 3, .inr (.inl (vp_updL (fun _ => 0) ((0 : Int32).toNatClampNeg) 4))))]) (va_A [(h0, .inr (8, [.ref h1, .int wp4000320])), (h1, .inl (y 1, 3, .inr (.inl (vp_updL (fun _ => 0) ((0 : Int32).toNatClampNeg) 4))))] sz)) 0 0 (va_A [(h0, .inr (8, [.ref h1, .int wp4000320])), (h1, .inl (y 1, 3, .inr (.inl (vp_updL (fun _ => 0) ((0 : Int32).toNatClampNeg) 4))))] sz) := by
  refine g_of (by decide) (Nat.le_of_ble_eq_true rfl) ?_
  intro p e s m below meth c ls A hx hb hr hml hown hg hlocks hin hsz hK hP hD hS hA hAe hl
  rw [← hAe]
  replace hown : s.vm.findClass RX8 = some m.cls := hown
  replace hl : lv_has ls 2 [(0, .ref h0), (1, .int 0)] := hl
  refine lv_iload_n hx hb dX8_get_0 rfl (lv_at hl 1 rfl) ?_
  refine lv_if_lt (tgt := 22) hx hb dX8_get_1 (by decide) (fun c9 => absurd c9 (by decide +kernel)) (fun _ => ?_)
  refine lv_iload_n hx hb dX8_get_4 rfl (lv_at hl 1 rfl) ?_
  refine lv_aload_n hx hb dX8_get_5 rfl (lv_at hl 0 rfl) ?_
  refine gm_get (D := D) (ci := 8) (v := .ref h1) (C := RX8) (T := TX8) (N := 2) hx hb hg inlX8 hown hK.1 hP 0 rfl rfl 0 (by decide) tX8_0 (hg _ gw_98) rfl dX8_get_6 ?_
  refine va_alen hx hb hK.1 hP 1 1 rfl rfl (v := 3) rfl dX8_get_9 ?_
  refine lv_icmp_ge (tgt := 22) hx hb dX8_get_10 (by decide) (fun c9 => absurd c9 (by decide +kernel)) (fun _ => ?_)
  refine lv_aload_n hx hb dX8_get_13 rfl (lv_at hl 0 rfl) ?_
  refine gm_get (D := D) (ci := 8) (v := .ref h1) (C := RX8) (T := TX8) (N := 2) hx hb hg inlX8 hown hK.1 hP 0 rfl rfl 0 (by decide) tX8_0 (hg _ gw_98) rfl dX8_get_14 ?_
  refine lv_iload_n hx hb dX8_get_17 rfl (lv_at hl 1 rfl) ?_
  refine va_lald hx hb hK.1 hP 1 1 rfl rfl (by unfold vp_in; decide +kernel) dX8_get_18 ?_
  refine g_fj (v := 4) (by rfl) ?_
  refine lv_goto (tgt := 23) hx hb dX8_get_19 (by decide) ?_
  exact g_lret hx hb hr hlocks () hP hD hS rfl (Nat.le_of_ble_eq_true rfl) (Nat.le_of_ble_eq_true rfl) dX8_get_23
set_option maxRecDepth 100000 in
set_option maxHeartbeats 4000000 in
theorem k_X8_get_21 (l : Launch) (D : va_G) (y : Nat → ClassId) (aS : Nat → Nat) (sz : Nat) (h0 : Nat) (h1 : Nat) (wp4000322 : Int32) : Met l yX8_get (Cond.code yX8_get cX8_get 2 (some .long) :: wsL_law) ({ frames := 0, cells := 0, slots := 0, locals := 0 } : Room) (va_Pc [.ref h0, .int 1] (gI D y aS [(h0, .inr (8, [.ref h1, .int wp4000322])), (h1, .inl (y 1, 3, .inr (.inl (vp_updL (fun _ => 0) ((0 : Int32).toNatClampNeg) 4))))] sz)) (va_Ql (fun (r : Int64) (u : Unit) => 0 = r) (fun u => gO D (va_A [(h0, .inr (8, [.ref h1, .int wp4000322])), (h1, .inl (y 1, 3, .inr (.inl (vp_updL (fun _ => 0) ((0 : Int32).toNatClampNeg) 4))))] sz) [(h0, .inr (8, [.ref h1, .int wp4000322])), (h1, .inl (y 1, 3, .inr (.inl (vp_updL (fun _ => 0) ((0 : Int32).toNatClampNeg) 4))))]) (va_A [(h0, .inr (8, [.ref h1, .int wp4000322])), (h1, .inl (y 1, 3, .inr (.inl (vp_updL (fun _ => 0) ((0 : Int32).toNatClampNeg) 4))))] sz)) 0 0 (va_A [(h0, .inr (8, [.ref h1, .int wp4000322])), (h1, .inl (y 1, 3, .inr (.inl (vp_updL (fun _ => 0) ((0 : Int32).toNatClampNeg) 4))))] sz) := by
  refine g_of (by decide) (Nat.le_of_ble_eq_true rfl) ?_
  intro p e s m below meth c ls A hx hb hr hml hown hg hlocks hin hsz hK hP hD hS hA hAe hl
  rw [← hAe]
  replace hown : s.vm.findClass RX8 = some m.cls := hown
  replace hl : lv_has ls 2 [(0, .ref h0), (1, .int 1)] := hl
  refine lv_iload_n hx hb dX8_get_0 rfl (lv_at hl 1 rfl) ?_
  refine lv_if_lt (tgt := 22) hx hb dX8_get_1 (by decide) (fun c9 => absurd c9 (by decide +kernel)) (fun _ => ?_)
  refine lv_iload_n hx hb dX8_get_4 rfl (lv_at hl 1 rfl) ?_
  refine lv_aload_n hx hb dX8_get_5 rfl (lv_at hl 0 rfl) ?_
  refine gm_get (D := D) (ci := 8) (v := .ref h1) (C := RX8) (T := TX8) (N := 2) hx hb hg inlX8 hown hK.1 hP 0 rfl rfl 0 (by decide) tX8_0 (hg _ gw_98) rfl dX8_get_6 ?_
  refine va_alen hx hb hK.1 hP 1 1 rfl rfl (v := 3) rfl dX8_get_9 ?_
  refine lv_icmp_ge (tgt := 22) hx hb dX8_get_10 (by decide) (fun c9 => absurd c9 (by decide +kernel)) (fun _ => ?_)
  refine lv_aload_n hx hb dX8_get_13 rfl (lv_at hl 0 rfl) ?_
  refine gm_get (D := D) (ci := 8) (v := .ref h1) (C := RX8) (T := TX8) (N := 2) hx hb hg inlX8 hown hK.1 hP 0 rfl rfl 0 (by decide) tX8_0 (hg _ gw_98) rfl dX8_get_14 ?_
  refine lv_iload_n hx hb dX8_get_17 rfl (lv_at hl 1 rfl) ?_
  refine va_lald hx hb hK.1 hP 1 1 rfl rfl (by unfold vp_in; decide +kernel) dX8_get_18 ?_
  refine g_fj (v := 0) (by rfl) ?_
  refine lv_goto (tgt := 23) hx hb dX8_get_19 (by decide) ?_
  exact g_lret hx hb hr hlocks () hP hD hS rfl (Nat.le_of_ble_eq_true rfl) (Nat.le_of_ble_eq_true rfl) dX8_get_23
set_option maxRecDepth 100000 in
set_option maxHeartbeats 4000000 in
theorem k_X8_get_22 (l : Launch) (D : va_G) (y : Nat → ClassId) (aS : Nat → Nat) (sz : Nat) (h0 : Nat) (h1 : Nat) (wp4000324 : Int32) : Met l yX8_get (Cond.code yX8_get cX8_get 2 (some .long) :: wsL_law) ({ frames := 0, cells := 0, slots := 0, locals := 0 } : Room) (va_Pc [.ref h0, .int 2] (gI D y aS [(h0, .inr (8, [.ref h1, .int wp4000324])), (h1, .inl (y 1, 3, .inr (.inl (vp_updL (fun _ => 0) ((0 : Int32).toNatClampNeg) 4))))] sz)) (va_Ql (fun (r : Int64) (u : Unit) => 0 = r) (fun u => gO D (va_A [(h0, .inr (8, [.ref h1, .int wp4000324])), (h1, .inl (y 1, 3, .inr (.inl (vp_updL (fun _ => 0) ((0 : Int32).toNatClampNeg) 4))))] sz) [(h0, .inr (8, [.ref h1, .int wp4000324])), (h1, .inl (y 1, 3, .inr (.inl (vp_updL (fun _ => 0) ((0 : Int32).toNatClampNeg) 4))))]) (va_A [(h0, .inr (8, [.ref h1, .int wp4000324])), (h1, .inl (y 1, 3, .inr (.inl (vp_updL (fun _ => 0) ((0 : Int32).toNatClampNeg) 4))))] sz)) 0 0 (va_A [(h0, .inr (8, [.ref h1, .int wp4000324])), (h1, .inl (y 1, 3, .inr (.inl (vp_updL (fun _ => 0) ((0 : Int32).toNatClampNeg) 4))))] sz) := by
  refine g_of (by decide) (Nat.le_of_ble_eq_true rfl) ?_
  intro p e s m below meth c ls A hx hb hr hml hown hg hlocks hin hsz hK hP hD hS hA hAe hl
  rw [← hAe]
  replace hown : s.vm.findClass RX8 = some m.cls := hown
  replace hl : lv_has ls 2 [(0, .ref h0), (1, .int 2)] := hl
  refine lv_iload_n hx hb dX8_get_0 rfl (lv_at hl 1 rfl) ?_
  refine lv_if_lt (tgt := 22) hx hb dX8_get_1 (by decide) (fun c9 => absurd c9 (by decide +kernel)) (fun _ => ?_)
  refine lv_iload_n hx hb dX8_get_4 rfl (lv_at hl 1 rfl) ?_
  refine lv_aload_n hx hb dX8_get_5 rfl (lv_at hl 0 rfl) ?_
  refine gm_get (D := D) (ci := 8) (v := .ref h1) (C := RX8) (T := TX8) (N := 2) hx hb hg inlX8 hown hK.1 hP 0 rfl rfl 0 (by decide) tX8_0 (hg _ gw_98) rfl dX8_get_6 ?_
  refine va_alen hx hb hK.1 hP 1 1 rfl rfl (v := 3) rfl dX8_get_9 ?_
  refine lv_icmp_ge (tgt := 22) hx hb dX8_get_10 (by decide) (fun c9 => absurd c9 (by decide +kernel)) (fun _ => ?_)
  refine lv_aload_n hx hb dX8_get_13 rfl (lv_at hl 0 rfl) ?_
  refine gm_get (D := D) (ci := 8) (v := .ref h1) (C := RX8) (T := TX8) (N := 2) hx hb hg inlX8 hown hK.1 hP 0 rfl rfl 0 (by decide) tX8_0 (hg _ gw_98) rfl dX8_get_14 ?_
  refine lv_iload_n hx hb dX8_get_17 rfl (lv_at hl 1 rfl) ?_
  refine va_lald hx hb hK.1 hP 1 1 rfl rfl (by unfold vp_in; decide +kernel) dX8_get_18 ?_
  refine g_fj (v := 0) (by rfl) ?_
  refine lv_goto (tgt := 23) hx hb dX8_get_19 (by decide) ?_
  exact g_lret hx hb hr hlocks () hP hD hS rfl (Nat.le_of_ble_eq_true rfl) (Nat.le_of_ble_eq_true rfl) dX8_get_23
set_option maxRecDepth 100000 in
set_option maxHeartbeats 4000000 in
theorem k_X5_tellSecret_6 (l : Launch) (D : va_G) (y : Nat → ClassId) (aS : Nat → Nat) (sz : Nat) (h0 : Nat) (p1 : Int32) (h2 : Nat) (h3 : Nat) (h4 : Nat) (h5 : Nat) (wp4000326 : Int32) (h7 : Nat) (wp4000327 : Int32) (wf4000328 : Nat → Int64) (h10 : Nat) (wp4000329 : Int32) (h12 : Nat) : Met l yX5_tellSecret (Cond.code yX5_tellSecret cX5_tellSecret 7 (some .int) :: wsL_law) ({ frames := 1, cells := 0, slots := 0, locals := 23 } : Room) (va_Pc [.ref h0, .int 0, .int p1, .int 4] (gI D y aS [(h0, .inr (5, [.ref h2, .ref h3, .ref h4, .ref h5, .int wp4000326])), (h4, .inr (8, [.ref h7, .int wp4000327])), (h7, .inl (y 1, 18, .inr (.inl wf4000328))), (h5, .inr (8, [.ref h10, .int wp4000329])), (h10, .inl (y 1, 3, .inr (.inl (fun _ => 0)))), (h2, .inr (8, [.ref h12, .int 0]))] sz)) (va_Qi (fun (r : Int32) (u : Unit) => 1 = r) (fun u => gO D (va_A [(h0, .inr (5, [.ref h2, .ref h3, .ref h4, .ref h5, .int wp4000326])), (h4, .inr (8, [.ref h7, .int wp4000327])), (h7, .inl (y 1, 18, .inr (.inl wf4000328))), (h5, .inr (8, [.ref h10, .int wp4000329])), (h10, .inl (y 1, 3, .inr (.inl (fun _ => 0)))), (h2, .inr (8, [.ref h12, .int 0]))] sz) [(h0, .inr (5, [.ref h2, .ref h3, .ref h4, .ref h5, .int 0])), (h4, .inr (8, [.ref h7, .int wp4000327])), (h7, .inl (y 1, 18, .inr (.inl (vp_updL (vp_updL (vp_updL (vp_updL wf4000328 ((3 : Int32).toNatClampNeg) ((p1 - p1 / 10 * 10).toInt64)) ((2 : Int32).toNatClampNeg) (((p1 / 10) - (p1 / 10) / 10 * 10).toInt64)) ((1 : Int32).toNatClampNeg) ((((p1 / 10) / 10) - ((p1 / 10) / 10) / 10 * 10).toInt64)) ((0 : Int32).toNatClampNeg) (((((p1 / 10) / 10) / 10) - (((p1 / 10) / 10) / 10) / 10 * 10).toInt64))))), (h5, .inr (8, [.ref h10, .int wp4000329])), (h10, .inl (y 1, 3, .inr (.inl (vp_updL (fun _ => 0) ((0 : Int32).toNatClampNeg) 4)))), (h2, .inr (8, [.ref h12, .int 0]))]) (va_A [(h0, .inr (5, [.ref h2, .ref h3, .ref h4, .ref h5, .int wp4000326])), (h4, .inr (8, [.ref h7, .int wp4000327])), (h7, .inl (y 1, 18, .inr (.inl wf4000328))), (h5, .inr (8, [.ref h10, .int wp4000329])), (h10, .inl (y 1, 3, .inr (.inl (fun _ => 0)))), (h2, .inr (8, [.ref h12, .int 0]))] sz)) 0 0 (va_A [(h0, .inr (5, [.ref h2, .ref h3, .ref h4, .ref h5, .int wp4000326])), (h4, .inr (8, [.ref h7, .int wp4000327])), (h7, .inl (y 1, 18, .inr (.inl wf4000328))), (h5, .inr (8, [.ref h10, .int wp4000329])), (h10, .inl (y 1, 3, .inr (.inl (fun _ => 0)))), (h2, .inr (8, [.ref h12, .int 0]))] sz) := by
  refine g_of (by decide) (Nat.le_of_ble_eq_true rfl) ?_
  intro p e s m below meth c ls A hx hb hr hml hown hg hlocks hin hsz hK hP hD hS hA hAe hl
  rw [← hAe]
  replace hown : s.vm.findClass RX5 = some m.cls := hown
  replace hl : lv_has ls 7 [(0, .ref h0), (1, .int 0), (2, .int p1), (3, .int 4)] := hl
  refine lv_iload_n hx hb dX5_tellSecret_0 rfl (lv_at hl 2 rfl) ?_
  refine lv_istore (lv' := [(4, .int p1), (0, .ref h0), (1, .int 0), (2, .int p1), (3, .int 4)]) hx hb dX5_tellSecret_1 hl (by decide) rfl ?_
  clear hl
  clear ls
  intro ls hl
  refine lv_iload_n hx hb dX5_tellSecret_3 rfl (lv_at hl 4 rfl) ?_
  refine lv_iconst (v := 1) hx hb dX5_tellSecret_4 (by decide) ?_
  refine lv_isub hx hb dX5_tellSecret_5 ?_
  refine g_fi (v := 3) (by decide +kernel) ?_
  refine lv_istore (lv' := [(5, .int 3), (4, .int p1), (0, .ref h0), (1, .int 0), (2, .int p1), (3, .int 4)]) hx hb dX5_tellSecret_6 hl (by decide) rfl ?_
  clear hl
  clear ls
  intro ls hl
  refine lv_iload hx hb dX5_tellSecret_8 (lv_at hl 0 rfl) ?_
  refine lv_if_lt (tgt := 46) hx hb dX5_tellSecret_10 (by decide) (fun c9 => absurd c9 (by decide +kernel)) (fun _ => ?_)
  refine lv_aload_n hx hb dX5_tellSecret_13 rfl (lv_at hl 2 rfl) ?_
  refine gm_get (D := D) (ci := 5) (v := .ref h4) (C := RX5) (T := TX5) (N := 5) hx hb hg inlX5 hown hK.1 hP 0 rfl rfl 2 (by decide) tX5_2 (hg _ gw_140) rfl dX5_tellSecret_14 ?_
  refine lv_iload_n hx hb dX5_tellSecret_17 rfl (lv_at hl 3 rfl) ?_
  refine lv_bipush (v := 6) hx hb dX5_tellSecret_18 (by decide +kernel) ?_
  refine lv_imul hx hb dX5_tellSecret_20 ?_
  refine g_fi (v := 0) (by decide +kernel) ?_
  refine lv_iload hx hb dX5_tellSecret_21 (lv_at hl 0 rfl) ?_
  refine lv_iadd hx hb dX5_tellSecret_23 ?_
  refine g_fi (v := 3) (by decide +kernel) ?_
  refine lv_iload hx hb dX5_tellSecret_24 (lv_at hl 1 rfl) ?_
  refine lv_bipush (v := 10) hx hb dX5_tellSecret_26 (by decide +kernel) ?_
  refine lv_irem hx hb dX5_tellSecret_28 (by decide +kernel) ?_
  refine lv_i2l (v := ((p1 - p1 / 10 * 10).toInt64)) hx hb dX5_tellSecret_29 rfl ?_
  refine g_av (wr := [(h0, .inr (5, [.ref h2, .ref h3, .ref h4, .ref h5, .int wp4000326])), (h5, .inr (8, [.ref h10, .int wp4000329])), (h10, .inl (y 1, 3, .inr (.inl (fun _ => 0)))), (h2, .inr (8, [.ref h12, .int 0]))]) (va_runV (As := [.int 3, .long ((p1 - p1 / 10 * 10).toInt64)]) (rest := []) ⟨hx, hb, hml, hown, hg⟩ (k_X8_set_36 l D y aS s.heap.size h4 ((p1 - p1 / 10 * 10).toInt64) h7 wp4000327 wf4000328) (cwV 2 hg ggV_RX5_29_X8_set rfl rfl rfl (by decide +kernel) ⟨Nat.le_of_ble_eq_true rfl, Nat.le_of_ble_eq_true rfl⟩) (g_preV (q := (RX8, TX8, 2)) hK hP hD [1, 2] rfl (by decide) (ci := 8) (q0 := 1) rfl rfl) rfl rfl hl.1 rfl (lv_room (Nat.le_of_ble_eq_true rfl)) dX5_tellSecret_30 ⟨Nat.le_of_ble_eq_true rfl, Nat.le_of_ble_eq_true rfl⟩) hP hD hS hA [1, 2] [0, 3, 4, 5] rfl rfl (by decide) (by decide) ?_
  clear hP hD hS
  refine fun u H locs hq hP hD hS => ?_
  replace hP : va_P D vwCl [(h0, .inr (5, [.ref h2, .ref h3, .ref h4, .ref h5, .int wp4000326])), (h5, .inr (8, [.ref h10, .int wp4000329])), (h10, .inl (y 1, 3, .inr (.inl (fun _ => 0)))), (h2, .inr (8, [.ref h12, .int 0])), (h4, .inr (8, [.ref h7, .int wp4000327])), (h7, .inl (y 1, 18, .inr (.inl (vp_updL wf4000328 ((3 : Int32).toNatClampNeg) ((p1 - p1 / 10 * 10).toInt64)))))] H := hP
  replace hD : va_D A [(h0, .inr (5, [.ref h2, .ref h3, .ref h4, .ref h5, .int wp4000326])), (h5, .inr (8, [.ref h10, .int wp4000329])), (h10, .inl (y 1, 3, .inr (.inl (fun _ => 0)))), (h2, .inr (8, [.ref h12, .int 0])), (h4, .inr (8, [.ref h7, .int wp4000327])), (h7, .inl (y 1, 18, .inr (.inl (vp_updL wf4000328 ((3 : Int32).toNatClampNeg) ((p1 - p1 / 10 * 10).toInt64)))))] := hD
  refine lv_iload hx hb dX5_tellSecret_33 (lv_at hl 1 rfl) ?_
  refine lv_bipush (v := 10) hx hb dX5_tellSecret_35 (by decide +kernel) ?_
  refine lv_idiv hx hb dX5_tellSecret_37 (by decide +kernel) ?_
  refine lv_istore (lv' := [(4, .int (p1 / 10)), (5, .int 3), (0, .ref h0), (1, .int 0), (2, .int p1), (3, .int 4)]) hx hb dX5_tellSecret_38 hl (by decide) rfl ?_
  clear hl
  clear ls
  intro ls hl
  refine lv_iinc (v := 2) (lv' := [(5, .int 2), (4, .int (p1 / 10)), (0, .ref h0), (1, .int 0), (2, .int p1), (3, .int 4)]) hx hb dX5_tellSecret_40 hl (k := 1) rfl (by decide +kernel) (by decide) rfl ?_
  clear hl
  clear ls
  intro ls hl
  refine lv_goto (tgt := 8) hx hb dX5_tellSecret_43 (by decide) ?_
  refine lv_iload hx hb dX5_tellSecret_8 (lv_at hl 0 rfl) ?_
  refine lv_if_lt (tgt := 46) hx hb dX5_tellSecret_10 (by decide) (fun c9 => absurd c9 (by decide +kernel)) (fun _ => ?_)
  refine lv_aload_n hx hb dX5_tellSecret_13 rfl (lv_at hl 2 rfl) ?_
  refine gm_get (D := D) (ci := 5) (v := .ref h4) (C := RX5) (T := TX5) (N := 5) hx hb hg inlX5 hown hK.1 hP 0 rfl rfl 2 (by decide) tX5_2 (hg _ gw_140) rfl dX5_tellSecret_14 ?_
  refine lv_iload_n hx hb dX5_tellSecret_17 rfl (lv_at hl 3 rfl) ?_
  refine lv_bipush (v := 6) hx hb dX5_tellSecret_18 (by decide +kernel) ?_
  refine lv_imul hx hb dX5_tellSecret_20 ?_
  refine g_fi (v := 0) (by decide +kernel) ?_
  refine lv_iload hx hb dX5_tellSecret_21 (lv_at hl 0 rfl) ?_
  refine lv_iadd hx hb dX5_tellSecret_23 ?_
  refine g_fi (v := 2) (by decide +kernel) ?_
  refine lv_iload hx hb dX5_tellSecret_24 (lv_at hl 1 rfl) ?_
  refine lv_bipush (v := 10) hx hb dX5_tellSecret_26 (by decide +kernel) ?_
  refine lv_irem hx hb dX5_tellSecret_28 (by decide +kernel) ?_
  refine lv_i2l (v := (((p1 / 10) - (p1 / 10) / 10 * 10).toInt64)) hx hb dX5_tellSecret_29 rfl ?_
  refine g_av (wr := [(h0, .inr (5, [.ref h2, .ref h3, .ref h4, .ref h5, .int wp4000326])), (h5, .inr (8, [.ref h10, .int wp4000329])), (h10, .inl (y 1, 3, .inr (.inl (fun _ => 0)))), (h2, .inr (8, [.ref h12, .int 0]))]) (va_runV (As := [.int 2, .long (((p1 / 10) - (p1 / 10) / 10 * 10).toInt64)]) (rest := []) ⟨hx, hb, hml, hown, hg⟩ (k_X8_set_33 l D y aS H.size h4 (((p1 / 10) - (p1 / 10) / 10 * 10).toInt64) h7 wp4000327 (vp_updL wf4000328 ((3 : Int32).toNatClampNeg) ((p1 - p1 / 10 * 10).toInt64))) (cwV 2 hg ggV_RX5_29_X8_set rfl rfl rfl (by decide +kernel) ⟨Nat.le_of_ble_eq_true rfl, Nat.le_of_ble_eq_true rfl⟩) (g_preV (q := (RX8, TX8, 2)) hK hP hD [4, 5] rfl (by decide) (ci := 8) (q0 := 4) rfl rfl) rfl rfl hl.1 rfl (lv_room (Nat.le_of_ble_eq_true rfl)) dX5_tellSecret_30 ⟨Nat.le_of_ble_eq_true rfl, Nat.le_of_ble_eq_true rfl⟩) hP hD hS hA [4, 5] [0, 1, 2, 3] rfl rfl (by decide) (by decide) ?_
  clear hP hD hS H locs
  refine fun u H locs hq hP hD hS => ?_
  replace hP : va_P D vwCl [(h0, .inr (5, [.ref h2, .ref h3, .ref h4, .ref h5, .int wp4000326])), (h5, .inr (8, [.ref h10, .int wp4000329])), (h10, .inl (y 1, 3, .inr (.inl (fun _ => 0)))), (h2, .inr (8, [.ref h12, .int 0])), (h4, .inr (8, [.ref h7, .int wp4000327])), (h7, .inl (y 1, 18, .inr (.inl (vp_updL (vp_updL wf4000328 ((3 : Int32).toNatClampNeg) ((p1 - p1 / 10 * 10).toInt64)) ((2 : Int32).toNatClampNeg) (((p1 / 10) - (p1 / 10) / 10 * 10).toInt64)))))] H := hP
  replace hD : va_D A [(h0, .inr (5, [.ref h2, .ref h3, .ref h4, .ref h5, .int wp4000326])), (h5, .inr (8, [.ref h10, .int wp4000329])), (h10, .inl (y 1, 3, .inr (.inl (fun _ => 0)))), (h2, .inr (8, [.ref h12, .int 0])), (h4, .inr (8, [.ref h7, .int wp4000327])), (h7, .inl (y 1, 18, .inr (.inl (vp_updL (vp_updL wf4000328 ((3 : Int32).toNatClampNeg) ((p1 - p1 / 10 * 10).toInt64)) ((2 : Int32).toNatClampNeg) (((p1 / 10) - (p1 / 10) / 10 * 10).toInt64)))))] := hD
  refine lv_iload hx hb dX5_tellSecret_33 (lv_at hl 1 rfl) ?_
  refine lv_bipush (v := 10) hx hb dX5_tellSecret_35 (by decide +kernel) ?_
  refine lv_idiv hx hb dX5_tellSecret_37 (by decide +kernel) ?_
  refine lv_istore (lv' := [(4, .int ((p1 / 10) / 10)), (5, .int 2), (0, .ref h0), (1, .int 0), (2, .int p1), (3, .int 4)]) hx hb dX5_tellSecret_38 hl (by decide) rfl ?_
  clear hl
  clear ls
  intro ls hl
  refine lv_iinc (v := 1) (lv' := [(5, .int 1), (4, .int ((p1 / 10) / 10)), (0, .ref h0), (1, .int 0), (2, .int p1), (3, .int 4)]) hx hb dX5_tellSecret_40 hl (k := 1) rfl (by decide +kernel) (by decide) rfl ?_
  clear hl
  clear ls
  intro ls hl
  refine lv_goto (tgt := 8) hx hb dX5_tellSecret_43 (by decide) ?_
  refine lv_iload hx hb dX5_tellSecret_8 (lv_at hl 0 rfl) ?_
  refine lv_if_lt (tgt := 46) hx hb dX5_tellSecret_10 (by decide) (fun c9 => absurd c9 (by decide +kernel)) (fun _ => ?_)
  refine lv_aload_n hx hb dX5_tellSecret_13 rfl (lv_at hl 2 rfl) ?_
  refine gm_get (D := D) (ci := 5) (v := .ref h4) (C := RX5) (T := TX5) (N := 5) hx hb hg inlX5 hown hK.1 hP 0 rfl rfl 2 (by decide) tX5_2 (hg _ gw_140) rfl dX5_tellSecret_14 ?_
  refine lv_iload_n hx hb dX5_tellSecret_17 rfl (lv_at hl 3 rfl) ?_
  refine lv_bipush (v := 6) hx hb dX5_tellSecret_18 (by decide +kernel) ?_
  refine lv_imul hx hb dX5_tellSecret_20 ?_
  refine g_fi (v := 0) (by decide +kernel) ?_
  refine lv_iload hx hb dX5_tellSecret_21 (lv_at hl 0 rfl) ?_
  refine lv_iadd hx hb dX5_tellSecret_23 ?_
  refine g_fi (v := 1) (by decide +kernel) ?_
  refine lv_iload hx hb dX5_tellSecret_24 (lv_at hl 1 rfl) ?_
  refine lv_bipush (v := 10) hx hb dX5_tellSecret_26 (by decide +kernel) ?_
  refine lv_irem hx hb dX5_tellSecret_28 (by decide +kernel) ?_
  refine lv_i2l (v := ((((p1 / 10) / 10) - ((p1 / 10) / 10) / 10 * 10).toInt64)) hx hb dX5_tellSecret_29 rfl ?_
  refine g_av (wr := [(h0, .inr (5, [.ref h2, .ref h3, .ref h4, .ref h5, .int wp4000326])), (h5, .inr (8, [.ref h10, .int wp4000329])), (h10, .inl (y 1, 3, .inr (.inl (fun _ => 0)))), (h2, .inr (8, [.ref h12, .int 0]))]) (va_runV (As := [.int 1, .long ((((p1 / 10) / 10) - ((p1 / 10) / 10) / 10 * 10).toInt64)]) (rest := []) ⟨hx, hb, hml, hown, hg⟩ (k_X8_set_27 l D y aS H.size h4 ((((p1 / 10) / 10) - ((p1 / 10) / 10) / 10 * 10).toInt64) h7 wp4000327 (vp_updL (vp_updL wf4000328 ((3 : Int32).toNatClampNeg) ((p1 - p1 / 10 * 10).toInt64)) ((2 : Int32).toNatClampNeg) (((p1 / 10) - (p1 / 10) / 10 * 10).toInt64))) (cwV 2 hg ggV_RX5_29_X8_set rfl rfl rfl (by decide +kernel) ⟨Nat.le_of_ble_eq_true rfl, Nat.le_of_ble_eq_true rfl⟩) (g_preV (q := (RX8, TX8, 2)) hK hP hD [4, 5] rfl (by decide) (ci := 8) (q0 := 4) rfl rfl) rfl rfl hl.1 rfl (lv_room (Nat.le_of_ble_eq_true rfl)) dX5_tellSecret_30 ⟨Nat.le_of_ble_eq_true rfl, Nat.le_of_ble_eq_true rfl⟩) hP hD hS hA [4, 5] [0, 1, 2, 3] rfl rfl (by decide) (by decide) ?_
  clear hP hD hS H locs
  refine fun u H locs hq hP hD hS => ?_
  replace hP : va_P D vwCl [(h0, .inr (5, [.ref h2, .ref h3, .ref h4, .ref h5, .int wp4000326])), (h5, .inr (8, [.ref h10, .int wp4000329])), (h10, .inl (y 1, 3, .inr (.inl (fun _ => 0)))), (h2, .inr (8, [.ref h12, .int 0])), (h4, .inr (8, [.ref h7, .int wp4000327])), (h7, .inl (y 1, 18, .inr (.inl (vp_updL (vp_updL (vp_updL wf4000328 ((3 : Int32).toNatClampNeg) ((p1 - p1 / 10 * 10).toInt64)) ((2 : Int32).toNatClampNeg) (((p1 / 10) - (p1 / 10) / 10 * 10).toInt64)) ((1 : Int32).toNatClampNeg) ((((p1 / 10) / 10) - ((p1 / 10) / 10) / 10 * 10).toInt64)))))] H := hP
  replace hD : va_D A [(h0, .inr (5, [.ref h2, .ref h3, .ref h4, .ref h5, .int wp4000326])), (h5, .inr (8, [.ref h10, .int wp4000329])), (h10, .inl (y 1, 3, .inr (.inl (fun _ => 0)))), (h2, .inr (8, [.ref h12, .int 0])), (h4, .inr (8, [.ref h7, .int wp4000327])), (h7, .inl (y 1, 18, .inr (.inl (vp_updL (vp_updL (vp_updL wf4000328 ((3 : Int32).toNatClampNeg) ((p1 - p1 / 10 * 10).toInt64)) ((2 : Int32).toNatClampNeg) (((p1 / 10) - (p1 / 10) / 10 * 10).toInt64)) ((1 : Int32).toNatClampNeg) ((((p1 / 10) / 10) - ((p1 / 10) / 10) / 10 * 10).toInt64)))))] := hD
  refine lv_iload hx hb dX5_tellSecret_33 (lv_at hl 1 rfl) ?_
  refine lv_bipush (v := 10) hx hb dX5_tellSecret_35 (by decide +kernel) ?_
  refine lv_idiv hx hb dX5_tellSecret_37 (by decide +kernel) ?_
  refine lv_istore (lv' := [(4, .int (((p1 / 10) / 10) / 10)), (5, .int 1), (0, .ref h0), (1, .int 0), (2, .int p1), (3, .int 4)]) hx hb dX5_tellSecret_38 hl (by decide) rfl ?_
  clear hl
  clear ls
  intro ls hl
  refine lv_iinc (v := 0) (lv' := [(5, .int 0), (4, .int (((p1 / 10) / 10) / 10)), (0, .ref h0), (1, .int 0), (2, .int p1), (3, .int 4)]) hx hb dX5_tellSecret_40 hl (k := 1) rfl (by decide +kernel) (by decide) rfl ?_
  clear hl
  clear ls
  intro ls hl
  refine lv_goto (tgt := 8) hx hb dX5_tellSecret_43 (by decide) ?_
  refine lv_iload hx hb dX5_tellSecret_8 (lv_at hl 0 rfl) ?_
  refine lv_if_lt (tgt := 46) hx hb dX5_tellSecret_10 (by decide) (fun c9 => absurd c9 (by decide +kernel)) (fun _ => ?_)
  refine lv_aload_n hx hb dX5_tellSecret_13 rfl (lv_at hl 2 rfl) ?_
  refine gm_get (D := D) (ci := 5) (v := .ref h4) (C := RX5) (T := TX5) (N := 5) hx hb hg inlX5 hown hK.1 hP 0 rfl rfl 2 (by decide) tX5_2 (hg _ gw_140) rfl dX5_tellSecret_14 ?_
  refine lv_iload_n hx hb dX5_tellSecret_17 rfl (lv_at hl 3 rfl) ?_
  refine lv_bipush (v := 6) hx hb dX5_tellSecret_18 (by decide +kernel) ?_
  refine lv_imul hx hb dX5_tellSecret_20 ?_
  refine g_fi (v := 0) (by decide +kernel) ?_
  refine lv_iload hx hb dX5_tellSecret_21 (lv_at hl 0 rfl) ?_
  refine lv_iadd hx hb dX5_tellSecret_23 ?_
  refine g_fi (v := 0) (by decide +kernel) ?_
  refine lv_iload hx hb dX5_tellSecret_24 (lv_at hl 1 rfl) ?_
  refine lv_bipush (v := 10) hx hb dX5_tellSecret_26 (by decide +kernel) ?_
  refine lv_irem hx hb dX5_tellSecret_28 (by decide +kernel) ?_
  refine lv_i2l (v := (((((p1 / 10) / 10) / 10) - (((p1 / 10) / 10) / 10) / 10 * 10).toInt64)) hx hb dX5_tellSecret_29 rfl ?_
  refine g_av (wr := [(h0, .inr (5, [.ref h2, .ref h3, .ref h4, .ref h5, .int wp4000326])), (h5, .inr (8, [.ref h10, .int wp4000329])), (h10, .inl (y 1, 3, .inr (.inl (fun _ => 0)))), (h2, .inr (8, [.ref h12, .int 0]))]) (va_runV (As := [.int 0, .long (((((p1 / 10) / 10) / 10) - (((p1 / 10) / 10) / 10) / 10 * 10).toInt64)]) (rest := []) ⟨hx, hb, hml, hown, hg⟩ (k_X8_set_28 l D y aS H.size h4 (((((p1 / 10) / 10) / 10) - (((p1 / 10) / 10) / 10) / 10 * 10).toInt64) h7 wp4000327 (vp_updL (vp_updL (vp_updL wf4000328 ((3 : Int32).toNatClampNeg) ((p1 - p1 / 10 * 10).toInt64)) ((2 : Int32).toNatClampNeg) (((p1 / 10) - (p1 / 10) / 10 * 10).toInt64)) ((1 : Int32).toNatClampNeg) ((((p1 / 10) / 10) - ((p1 / 10) / 10) / 10 * 10).toInt64))) (cwV 2 hg ggV_RX5_29_X8_set rfl rfl rfl (by decide +kernel) ⟨Nat.le_of_ble_eq_true rfl, Nat.le_of_ble_eq_true rfl⟩) (g_preV (q := (RX8, TX8, 2)) hK hP hD [4, 5] rfl (by decide) (ci := 8) (q0 := 4) rfl rfl) rfl rfl hl.1 rfl (lv_room (Nat.le_of_ble_eq_true rfl)) dX5_tellSecret_30 ⟨Nat.le_of_ble_eq_true rfl, Nat.le_of_ble_eq_true rfl⟩) hP hD hS hA [4, 5] [0, 1, 2, 3] rfl rfl (by decide) (by decide) ?_
  clear hP hD hS H locs
  refine fun u H locs hq hP hD hS => ?_
  replace hP : va_P D vwCl [(h0, .inr (5, [.ref h2, .ref h3, .ref h4, .ref h5, .int wp4000326])), (h5, .inr (8, [.ref h10, .int wp4000329])), (h10, .inl (y 1, 3, .inr (.inl (fun _ => 0)))), (h2, .inr (8, [.ref h12, .int 0])), (h4, .inr (8, [.ref h7, .int wp4000327])), (h7, .inl (y 1, 18, .inr (.inl (vp_updL (vp_updL (vp_updL (vp_updL wf4000328 ((3 : Int32).toNatClampNeg) ((p1 - p1 / 10 * 10).toInt64)) ((2 : Int32).toNatClampNeg) (((p1 / 10) - (p1 / 10) / 10 * 10).toInt64)) ((1 : Int32).toNatClampNeg) ((((p1 / 10) / 10) - ((p1 / 10) / 10) / 10 * 10).toInt64)) ((0 : Int32).toNatClampNeg) (((((p1 / 10) / 10) / 10) - (((p1 / 10) / 10) / 10) / 10 * 10).toInt64)))))] H := hP
  replace hD : va_D A [(h0, .inr (5, [.ref h2, .ref h3, .ref h4, .ref h5, .int wp4000326])), (h5, .inr (8, [.ref h10, .int wp4000329])), (h10, .inl (y 1, 3, .inr (.inl (fun _ => 0)))), (h2, .inr (8, [.ref h12, .int 0])), (h4, .inr (8, [.ref h7, .int wp4000327])), (h7, .inl (y 1, 18, .inr (.inl (vp_updL (vp_updL (vp_updL (vp_updL wf4000328 ((3 : Int32).toNatClampNeg) ((p1 - p1 / 10 * 10).toInt64)) ((2 : Int32).toNatClampNeg) (((p1 / 10) - (p1 / 10) / 10 * 10).toInt64)) ((1 : Int32).toNatClampNeg) ((((p1 / 10) / 10) - ((p1 / 10) / 10) / 10 * 10).toInt64)) ((0 : Int32).toNatClampNeg) (((((p1 / 10) / 10) / 10) - (((p1 / 10) / 10) / 10) / 10 * 10).toInt64)))))] := hD
  refine lv_iload hx hb dX5_tellSecret_33 (lv_at hl 1 rfl) ?_
  refine lv_bipush (v := 10) hx hb dX5_tellSecret_35 (by decide +kernel) ?_
  refine lv_idiv hx hb dX5_tellSecret_37 (by decide +kernel) ?_
  refine lv_istore (lv' := [(4, .int ((((p1 / 10) / 10) / 10) / 10)), (5, .int 0), (0, .ref h0), (1, .int 0), (2, .int p1), (3, .int 4)]) hx hb dX5_tellSecret_38 hl (by decide) rfl ?_
  clear hl
  clear ls
  intro ls hl
  refine lv_iinc (v := (-1)) (lv' := [(5, .int (-1)), (4, .int ((((p1 / 10) / 10) / 10) / 10)), (0, .ref h0), (1, .int 0), (2, .int p1), (3, .int 4)]) hx hb dX5_tellSecret_40 hl (k := 1) rfl (by decide +kernel) (by decide) rfl ?_
  clear hl
  clear ls
  intro ls hl
  refine lv_goto (tgt := 8) hx hb dX5_tellSecret_43 (by decide) ?_
  refine lv_iload hx hb dX5_tellSecret_8 (lv_at hl 0 rfl) ?_
  refine lv_if_lt (tgt := 46) hx hb dX5_tellSecret_10 (by decide) (fun _ => ?_) (fun c9 => absurd c9 (by decide +kernel))
  refine lv_aload_n hx hb dX5_tellSecret_46 rfl (lv_at hl 2 rfl) ?_
  refine gm_get (D := D) (ci := 5) (v := .ref h5) (C := RX5) (T := TX5) (N := 5) hx hb hg inlX5 hown hK.1 hP 0 rfl rfl 3 (by decide) tX5_3 (hg _ gw_141) rfl dX5_tellSecret_47 ?_
  refine lv_iload_n hx hb dX5_tellSecret_50 rfl (lv_at hl 3 rfl) ?_
  refine lv_iload_n hx hb dX5_tellSecret_51 rfl (lv_at hl 5 rfl) ?_
  refine lv_i2l (v := 4) hx hb dX5_tellSecret_52 (by decide +kernel) ?_
  refine g_av (wr := [(h0, .inr (5, [.ref h2, .ref h3, .ref h4, .ref h5, .int wp4000326])), (h2, .inr (8, [.ref h12, .int 0])), (h4, .inr (8, [.ref h7, .int wp4000327])), (h7, .inl (y 1, 18, .inr (.inl (vp_updL (vp_updL (vp_updL (vp_updL wf4000328 ((3 : Int32).toNatClampNeg) ((p1 - p1 / 10 * 10).toInt64)) ((2 : Int32).toNatClampNeg) (((p1 / 10) - (p1 / 10) / 10 * 10).toInt64)) ((1 : Int32).toNatClampNeg) ((((p1 / 10) / 10) - ((p1 / 10) / 10) / 10 * 10).toInt64)) ((0 : Int32).toNatClampNeg) (((((p1 / 10) / 10) / 10) - (((p1 / 10) / 10) / 10) / 10 * 10).toInt64)))))]) (va_runV (As := [.int 0, .long 4]) (rest := []) ⟨hx, hb, hml, hown, hg⟩ (k_X8_set_24 l D y aS H.size h5 4 h10 wp4000329 (fun _ => 0)) (cwV 2 hg ggV_RX5_29_X8_set rfl rfl rfl (by decide +kernel) ⟨Nat.le_of_ble_eq_true rfl, Nat.le_of_ble_eq_true rfl⟩) (g_preV (q := (RX8, TX8, 2)) hK hP hD [1, 2] rfl (by decide) (ci := 8) (q0 := 1) rfl rfl) rfl rfl hl.1 rfl (lv_room (Nat.le_of_ble_eq_true rfl)) dX5_tellSecret_53 ⟨Nat.le_of_ble_eq_true rfl, Nat.le_of_ble_eq_true rfl⟩) hP hD hS hA [1, 2] [0, 3, 4, 5] rfl rfl (by decide) (by decide) ?_
  clear hP hD hS H locs
  refine fun u H locs hq hP hD hS => ?_
  replace hP : va_P D vwCl [(h0, .inr (5, [.ref h2, .ref h3, .ref h4, .ref h5, .int wp4000326])), (h2, .inr (8, [.ref h12, .int 0])), (h4, .inr (8, [.ref h7, .int wp4000327])), (h7, .inl (y 1, 18, .inr (.inl (vp_updL (vp_updL (vp_updL (vp_updL wf4000328 ((3 : Int32).toNatClampNeg) ((p1 - p1 / 10 * 10).toInt64)) ((2 : Int32).toNatClampNeg) (((p1 / 10) - (p1 / 10) / 10 * 10).toInt64)) ((1 : Int32).toNatClampNeg) ((((p1 / 10) / 10) - ((p1 / 10) / 10) / 10 * 10).toInt64)) ((0 : Int32).toNatClampNeg) (((((p1 / 10) / 10) / 10) - (((p1 / 10) / 10) / 10) / 10 * 10).toInt64))))), (h5, .inr (8, [.ref h10, .int wp4000329])), (h10, .inl (y 1, 3, .inr (.inl (vp_updL (fun _ => 0) ((0 : Int32).toNatClampNeg) 4))))] H := hP
  replace hD : va_D A [(h0, .inr (5, [.ref h2, .ref h3, .ref h4, .ref h5, .int wp4000326])), (h2, .inr (8, [.ref h12, .int 0])), (h4, .inr (8, [.ref h7, .int wp4000327])), (h7, .inl (y 1, 18, .inr (.inl (vp_updL (vp_updL (vp_updL (vp_updL wf4000328 ((3 : Int32).toNatClampNeg) ((p1 - p1 / 10 * 10).toInt64)) ((2 : Int32).toNatClampNeg) (((p1 / 10) - (p1 / 10) / 10 * 10).toInt64)) ((1 : Int32).toNatClampNeg) ((((p1 / 10) / 10) - ((p1 / 10) / 10) / 10 * 10).toInt64)) ((0 : Int32).toNatClampNeg) (((((p1 / 10) / 10) / 10) - (((p1 / 10) / 10) / 10) / 10 * 10).toInt64))))), (h5, .inr (8, [.ref h10, .int wp4000329])), (h10, .inl (y 1, 3, .inr (.inl (vp_updL (fun _ => 0) ((0 : Int32).toNatClampNeg) 4))))] := hD
  refine lv_aload_n hx hb dX5_tellSecret_56 rfl (lv_at hl 2 rfl) ?_
  refine g_av (wr := [(h4, .inr (8, [.ref h7, .int wp4000327])), (h7, .inl (y 1, 18, .inr (.inl (vp_updL (vp_updL (vp_updL (vp_updL wf4000328 ((3 : Int32).toNatClampNeg) ((p1 - p1 / 10 * 10).toInt64)) ((2 : Int32).toNatClampNeg) (((p1 / 10) - (p1 / 10) / 10 * 10).toInt64)) ((1 : Int32).toNatClampNeg) ((((p1 / 10) / 10) - ((p1 / 10) / 10) / 10 * 10).toInt64)) ((0 : Int32).toNatClampNeg) (((((p1 / 10) / 10) / 10) - (((p1 / 10) / 10) / 10) / 10 * 10).toInt64))))), (h5, .inr (8, [.ref h10, .int wp4000329])), (h10, .inl (y 1, 3, .inr (.inl (vp_updL (fun _ => 0) ((0 : Int32).toNatClampNeg) 4))))]) (va_runV (As := []) (rest := []) ⟨hx, hb, hml, hown, hg⟩ (k_X5_findOut_0 l D y aS H.size h0 h2 h3 h4 h5 wp4000326 h12) (cwV 0 hg ggV_RX5_33_X5_findOut rfl rfl rfl (by decide +kernel) ⟨Nat.le_of_ble_eq_true rfl, Nat.le_of_ble_eq_true rfl⟩) (g_preV (q := (RX5, TX5, 5)) hK hP hD [0, 1] rfl (by decide) (ci := 5) (q0 := 0) rfl rfl) rfl rfl hl.1 rfl (lv_room (Nat.le_of_ble_eq_true rfl)) dX5_tellSecret_57 ⟨Nat.le_of_ble_eq_true rfl, Nat.le_of_ble_eq_true rfl⟩) hP hD hS hA [0, 1] [2, 3, 4, 5] rfl rfl (by decide) (by decide) ?_
  clear hP hD hS H locs
  refine fun u H locs hq hP hD hS => ?_
  replace hP : va_P D vwCl [(h4, .inr (8, [.ref h7, .int wp4000327])), (h7, .inl (y 1, 18, .inr (.inl (vp_updL (vp_updL (vp_updL (vp_updL wf4000328 ((3 : Int32).toNatClampNeg) ((p1 - p1 / 10 * 10).toInt64)) ((2 : Int32).toNatClampNeg) (((p1 / 10) - (p1 / 10) / 10 * 10).toInt64)) ((1 : Int32).toNatClampNeg) ((((p1 / 10) / 10) - ((p1 / 10) / 10) / 10 * 10).toInt64)) ((0 : Int32).toNatClampNeg) (((((p1 / 10) / 10) / 10) - (((p1 / 10) / 10) / 10) / 10 * 10).toInt64))))), (h5, .inr (8, [.ref h10, .int wp4000329])), (h10, .inl (y 1, 3, .inr (.inl (vp_updL (fun _ => 0) ((0 : Int32).toNatClampNeg) 4)))), (h0, .inr (5, [.ref h2, .ref h3, .ref h4, .ref h5, .int 0])), (h2, .inr (8, [.ref h12, .int 0]))] H := hP
  replace hD : va_D A [(h4, .inr (8, [.ref h7, .int wp4000327])), (h7, .inl (y 1, 18, .inr (.inl (vp_updL (vp_updL (vp_updL (vp_updL wf4000328 ((3 : Int32).toNatClampNeg) ((p1 - p1 / 10 * 10).toInt64)) ((2 : Int32).toNatClampNeg) (((p1 / 10) - (p1 / 10) / 10 * 10).toInt64)) ((1 : Int32).toNatClampNeg) ((((p1 / 10) / 10) - ((p1 / 10) / 10) / 10 * 10).toInt64)) ((0 : Int32).toNatClampNeg) (((((p1 / 10) / 10) / 10) - (((p1 / 10) / 10) / 10) / 10 * 10).toInt64))))), (h5, .inr (8, [.ref h10, .int wp4000329])), (h10, .inl (y 1, 3, .inr (.inl (vp_updL (fun _ => 0) ((0 : Int32).toNatClampNeg) 4)))), (h0, .inr (5, [.ref h2, .ref h3, .ref h4, .ref h5, .int 0])), (h2, .inr (8, [.ref h12, .int 0]))] := hD
  refine lv_iconst (v := 0) hx hb dX5_tellSecret_60 (by decide) ?_
  refine lv_istore (lv' := [(5, .int 0), (4, .int ((((p1 / 10) / 10) / 10) / 10)), (0, .ref h0), (1, .int 0), (2, .int p1), (3, .int 4)]) hx hb dX5_tellSecret_61 hl (by decide) rfl ?_
  clear hl
  clear ls
  intro ls hl
  refine lv_iconst (v := 0) hx hb dX5_tellSecret_63 (by decide) ?_
  refine lv_istore (lv' := [(6, .int 0), (5, .int 0), (4, .int ((((p1 / 10) / 10) / 10) / 10)), (0, .ref h0), (1, .int 0), (2, .int p1), (3, .int 4)]) hx hb dX5_tellSecret_64 hl (by decide) rfl ?_
  clear hl
  clear ls
  intro ls hl
  refine lv_iload hx hb dX5_tellSecret_66 (lv_at hl 0 rfl) ?_
  refine lv_iconst (v := 3) hx hb dX5_tellSecret_68 (by decide) ?_
  refine lv_icmp_ge (tgt := 95) hx hb dX5_tellSecret_69 (by decide) (fun c9 => absurd c9 (by decide +kernel)) (fun _ => ?_)
  refine lv_aload_n hx hb dX5_tellSecret_72 rfl (lv_at hl 3 rfl) ?_
  refine gm_get (D := D) (ci := 5) (v := .ref h5) (C := RX5) (T := TX5) (N := 5) hx hb hg inlX5 hown hK.1 hP 4 rfl rfl 3 (by decide) tX5_3 (hg _ gw_141) rfl dX5_tellSecret_73 ?_
  refine lv_iload hx hb dX5_tellSecret_76 (lv_at hl 0 rfl) ?_
  refine g_al (wr := [(h4, .inr (8, [.ref h7, .int wp4000327])), (h7, .inl (y 1, 18, .inr (.inl (vp_updL (vp_updL (vp_updL (vp_updL wf4000328 ((3 : Int32).toNatClampNeg) ((p1 - p1 / 10 * 10).toInt64)) ((2 : Int32).toNatClampNeg) (((p1 / 10) - (p1 / 10) / 10 * 10).toInt64)) ((1 : Int32).toNatClampNeg) ((((p1 / 10) / 10) - ((p1 / 10) / 10) / 10 * 10).toInt64)) ((0 : Int32).toNatClampNeg) (((((p1 / 10) / 10) / 10) - (((p1 / 10) / 10) / 10) / 10 * 10).toInt64))))), (h0, .inr (5, [.ref h2, .ref h3, .ref h4, .ref h5, .int 0])), (h2, .inr (8, [.ref h12, .int 0]))]) (va_runV (As := [.int 0]) (rest := []) ⟨hx, hb, hml, hown, hg⟩ (k_X8_get_20 l D y aS H.size h5 h10 wp4000329) (cwV 1 hg ggV_RX5_36_X8_get rfl rfl rfl (by decide +kernel) ⟨Nat.le_of_ble_eq_true rfl, Nat.le_of_ble_eq_true rfl⟩) (g_preV (q := (RX8, TX8, 2)) hK hP hD [2, 3] rfl (by decide) (ci := 8) (q0 := 2) rfl rfl) rfl rfl hl.1 rfl (lv_room (Nat.le_of_ble_eq_true rfl)) dX5_tellSecret_78 ⟨Nat.le_of_ble_eq_true rfl, Nat.le_of_ble_eq_true rfl⟩) hP hD hS hA [2, 3] [0, 1, 4, 5] rfl rfl (by decide) (by decide) ?_
  clear hP hD hS H locs
  refine fun r4000336 u H locs hq hP hD hS => ?_
  subst hq
  replace hP : va_P D vwCl [(h4, .inr (8, [.ref h7, .int wp4000327])), (h7, .inl (y 1, 18, .inr (.inl (vp_updL (vp_updL (vp_updL (vp_updL wf4000328 ((3 : Int32).toNatClampNeg) ((p1 - p1 / 10 * 10).toInt64)) ((2 : Int32).toNatClampNeg) (((p1 / 10) - (p1 / 10) / 10 * 10).toInt64)) ((1 : Int32).toNatClampNeg) ((((p1 / 10) / 10) - ((p1 / 10) / 10) / 10 * 10).toInt64)) ((0 : Int32).toNatClampNeg) (((((p1 / 10) / 10) / 10) - (((p1 / 10) / 10) / 10) / 10 * 10).toInt64))))), (h0, .inr (5, [.ref h2, .ref h3, .ref h4, .ref h5, .int 0])), (h2, .inr (8, [.ref h12, .int 0])), (h5, .inr (8, [.ref h10, .int wp4000329])), (h10, .inl (y 1, 3, .inr (.inl (vp_updL (fun _ => 0) ((0 : Int32).toNatClampNeg) 4))))] H := hP
  replace hD : va_D A [(h4, .inr (8, [.ref h7, .int wp4000327])), (h7, .inl (y 1, 18, .inr (.inl (vp_updL (vp_updL (vp_updL (vp_updL wf4000328 ((3 : Int32).toNatClampNeg) ((p1 - p1 / 10 * 10).toInt64)) ((2 : Int32).toNatClampNeg) (((p1 / 10) - (p1 / 10) / 10 * 10).toInt64)) ((1 : Int32).toNatClampNeg) ((((p1 / 10) / 10) - ((p1 / 10) / 10) / 10 * 10).toInt64)) ((0 : Int32).toNatClampNeg) (((((p1 / 10) / 10) / 10) - (((p1 / 10) / 10) / 10) / 10 * 10).toInt64))))), (h0, .inr (5, [.ref h2, .ref h3, .ref h4, .ref h5, .int 0])), (h2, .inr (8, [.ref h12, .int 0])), (h5, .inr (8, [.ref h10, .int wp4000329])), (h10, .inl (y 1, 3, .inr (.inl (vp_updL (fun _ => 0) ((0 : Int32).toNatClampNeg) 4))))] := hD
  refine lv_lconst (v := 0) hx hb dX5_tellSecret_81 (by decide) ?_
  refine W.lcmp hx hb dX5_tellSecret_82 ?_
  refine g_fi (v := 1) (by decide +kernel) ?_
  refine lv_if_le (tgt := 89) hx hb dX5_tellSecret_83 (by decide) (fun c9 => absurd c9 (by decide +kernel)) (fun _ => ?_)
  refine lv_iinc (v := 1) (lv' := [(5, .int 1), (6, .int 0), (4, .int ((((p1 / 10) / 10) / 10) / 10)), (0, .ref h0), (1, .int 0), (2, .int p1), (3, .int 4)]) hx hb dX5_tellSecret_86 hl (k := 1) rfl (by decide +kernel) (by decide) rfl ?_
  clear hl
  clear ls
  intro ls hl
  refine lv_iinc (v := 1) (lv' := [(6, .int 1), (5, .int 1), (4, .int ((((p1 / 10) / 10) / 10) / 10)), (0, .ref h0), (1, .int 0), (2, .int p1), (3, .int 4)]) hx hb dX5_tellSecret_89 hl (k := 1) rfl (by decide +kernel) (by decide) rfl ?_
  clear hl
  clear ls
  intro ls hl
  refine lv_goto (tgt := 66) hx hb dX5_tellSecret_92 (by decide) ?_
  refine lv_iload hx hb dX5_tellSecret_66 (lv_at hl 0 rfl) ?_
  refine lv_iconst (v := 3) hx hb dX5_tellSecret_68 (by decide) ?_
  refine lv_icmp_ge (tgt := 95) hx hb dX5_tellSecret_69 (by decide) (fun c9 => absurd c9 (by decide +kernel)) (fun _ => ?_)
  refine lv_aload_n hx hb dX5_tellSecret_72 rfl (lv_at hl 3 rfl) ?_
  refine gm_get (D := D) (ci := 5) (v := .ref h5) (C := RX5) (T := TX5) (N := 5) hx hb hg inlX5 hown hK.1 hP 2 rfl rfl 3 (by decide) tX5_3 (hg _ gw_141) rfl dX5_tellSecret_73 ?_
  refine lv_iload hx hb dX5_tellSecret_76 (lv_at hl 0 rfl) ?_
  refine g_al (wr := [(h4, .inr (8, [.ref h7, .int wp4000327])), (h7, .inl (y 1, 18, .inr (.inl (vp_updL (vp_updL (vp_updL (vp_updL wf4000328 ((3 : Int32).toNatClampNeg) ((p1 - p1 / 10 * 10).toInt64)) ((2 : Int32).toNatClampNeg) (((p1 / 10) - (p1 / 10) / 10 * 10).toInt64)) ((1 : Int32).toNatClampNeg) ((((p1 / 10) / 10) - ((p1 / 10) / 10) / 10 * 10).toInt64)) ((0 : Int32).toNatClampNeg) (((((p1 / 10) / 10) / 10) - (((p1 / 10) / 10) / 10) / 10 * 10).toInt64))))), (h0, .inr (5, [.ref h2, .ref h3, .ref h4, .ref h5, .int 0])), (h2, .inr (8, [.ref h12, .int 0]))]) (va_runV (As := [.int 1]) (rest := []) ⟨hx, hb, hml, hown, hg⟩ (k_X8_get_21 l D y aS H.size h5 h10 wp4000329) (cwV 1 hg ggV_RX5_36_X8_get rfl rfl rfl (by decide +kernel) ⟨Nat.le_of_ble_eq_true rfl, Nat.le_of_ble_eq_true rfl⟩) (g_preV (q := (RX8, TX8, 2)) hK hP hD [4, 5] rfl (by decide) (ci := 8) (q0 := 4) rfl rfl) rfl rfl hl.1 rfl (lv_room (Nat.le_of_ble_eq_true rfl)) dX5_tellSecret_78 ⟨Nat.le_of_ble_eq_true rfl, Nat.le_of_ble_eq_true rfl⟩) hP hD hS hA [4, 5] [0, 1, 2, 3] rfl rfl (by decide) (by decide) ?_
  clear hP hD hS H locs
  refine fun r4000337 u H locs hq hP hD hS => ?_
  subst hq
  replace hP : va_P D vwCl [(h4, .inr (8, [.ref h7, .int wp4000327])), (h7, .inl (y 1, 18, .inr (.inl (vp_updL (vp_updL (vp_updL (vp_updL wf4000328 ((3 : Int32).toNatClampNeg) ((p1 - p1 / 10 * 10).toInt64)) ((2 : Int32).toNatClampNeg) (((p1 / 10) - (p1 / 10) / 10 * 10).toInt64)) ((1 : Int32).toNatClampNeg) ((((p1 / 10) / 10) - ((p1 / 10) / 10) / 10 * 10).toInt64)) ((0 : Int32).toNatClampNeg) (((((p1 / 10) / 10) / 10) - (((p1 / 10) / 10) / 10) / 10 * 10).toInt64))))), (h0, .inr (5, [.ref h2, .ref h3, .ref h4, .ref h5, .int 0])), (h2, .inr (8, [.ref h12, .int 0])), (h5, .inr (8, [.ref h10, .int wp4000329])), (h10, .inl (y 1, 3, .inr (.inl (vp_updL (fun _ => 0) ((0 : Int32).toNatClampNeg) 4))))] H := hP
  replace hD : va_D A [(h4, .inr (8, [.ref h7, .int wp4000327])), (h7, .inl (y 1, 18, .inr (.inl (vp_updL (vp_updL (vp_updL (vp_updL wf4000328 ((3 : Int32).toNatClampNeg) ((p1 - p1 / 10 * 10).toInt64)) ((2 : Int32).toNatClampNeg) (((p1 / 10) - (p1 / 10) / 10 * 10).toInt64)) ((1 : Int32).toNatClampNeg) ((((p1 / 10) / 10) - ((p1 / 10) / 10) / 10 * 10).toInt64)) ((0 : Int32).toNatClampNeg) (((((p1 / 10) / 10) / 10) - (((p1 / 10) / 10) / 10) / 10 * 10).toInt64))))), (h0, .inr (5, [.ref h2, .ref h3, .ref h4, .ref h5, .int 0])), (h2, .inr (8, [.ref h12, .int 0])), (h5, .inr (8, [.ref h10, .int wp4000329])), (h10, .inl (y 1, 3, .inr (.inl (vp_updL (fun _ => 0) ((0 : Int32).toNatClampNeg) 4))))] := hD
  refine lv_lconst (v := 0) hx hb dX5_tellSecret_81 (by decide) ?_
  refine W.lcmp hx hb dX5_tellSecret_82 ?_
  refine g_fi (v := 0) (by decide +kernel) ?_
  refine lv_if_le (tgt := 89) hx hb dX5_tellSecret_83 (by decide) (fun _ => ?_) (fun c9 => absurd c9 (by decide +kernel))
  refine lv_iinc (v := 2) (lv' := [(6, .int 2), (5, .int 1), (4, .int ((((p1 / 10) / 10) / 10) / 10)), (0, .ref h0), (1, .int 0), (2, .int p1), (3, .int 4)]) hx hb dX5_tellSecret_89 hl (k := 0) rfl (by decide +kernel) (by decide) rfl ?_
  clear hl
  clear ls
  intro ls hl
  refine lv_goto (tgt := 66) hx hb dX5_tellSecret_92 (by decide) ?_
  refine lv_iload hx hb dX5_tellSecret_66 (lv_at hl 0 rfl) ?_
  refine lv_iconst (v := 3) hx hb dX5_tellSecret_68 (by decide) ?_
  refine lv_icmp_ge (tgt := 95) hx hb dX5_tellSecret_69 (by decide) (fun c9 => absurd c9 (by decide +kernel)) (fun _ => ?_)
  refine lv_aload_n hx hb dX5_tellSecret_72 rfl (lv_at hl 3 rfl) ?_
  refine gm_get (D := D) (ci := 5) (v := .ref h5) (C := RX5) (T := TX5) (N := 5) hx hb hg inlX5 hown hK.1 hP 2 rfl rfl 3 (by decide) tX5_3 (hg _ gw_141) rfl dX5_tellSecret_73 ?_
  refine lv_iload hx hb dX5_tellSecret_76 (lv_at hl 0 rfl) ?_
  refine g_al (wr := [(h4, .inr (8, [.ref h7, .int wp4000327])), (h7, .inl (y 1, 18, .inr (.inl (vp_updL (vp_updL (vp_updL (vp_updL wf4000328 ((3 : Int32).toNatClampNeg) ((p1 - p1 / 10 * 10).toInt64)) ((2 : Int32).toNatClampNeg) (((p1 / 10) - (p1 / 10) / 10 * 10).toInt64)) ((1 : Int32).toNatClampNeg) ((((p1 / 10) / 10) - ((p1 / 10) / 10) / 10 * 10).toInt64)) ((0 : Int32).toNatClampNeg) (((((p1 / 10) / 10) / 10) - (((p1 / 10) / 10) / 10) / 10 * 10).toInt64))))), (h0, .inr (5, [.ref h2, .ref h3, .ref h4, .ref h5, .int 0])), (h2, .inr (8, [.ref h12, .int 0]))]) (va_runV (As := [.int 2]) (rest := []) ⟨hx, hb, hml, hown, hg⟩ (k_X8_get_22 l D y aS H.size h5 h10 wp4000329) (cwV 1 hg ggV_RX5_36_X8_get rfl rfl rfl (by decide +kernel) ⟨Nat.le_of_ble_eq_true rfl, Nat.le_of_ble_eq_true rfl⟩) (g_preV (q := (RX8, TX8, 2)) hK hP hD [4, 5] rfl (by decide) (ci := 8) (q0 := 4) rfl rfl) rfl rfl hl.1 rfl (lv_room (Nat.le_of_ble_eq_true rfl)) dX5_tellSecret_78 ⟨Nat.le_of_ble_eq_true rfl, Nat.le_of_ble_eq_true rfl⟩) hP hD hS hA [4, 5] [0, 1, 2, 3] rfl rfl (by decide) (by decide) ?_
  clear hP hD hS H locs
  refine fun r4000338 u H locs hq hP hD hS => ?_
  subst hq
  replace hP : va_P D vwCl [(h4, .inr (8, [.ref h7, .int wp4000327])), (h7, .inl (y 1, 18, .inr (.inl (vp_updL (vp_updL (vp_updL (vp_updL wf4000328 ((3 : Int32).toNatClampNeg) ((p1 - p1 / 10 * 10).toInt64)) ((2 : Int32).toNatClampNeg) (((p1 / 10) - (p1 / 10) / 10 * 10).toInt64)) ((1 : Int32).toNatClampNeg) ((((p1 / 10) / 10) - ((p1 / 10) / 10) / 10 * 10).toInt64)) ((0 : Int32).toNatClampNeg) (((((p1 / 10) / 10) / 10) - (((p1 / 10) / 10) / 10) / 10 * 10).toInt64))))), (h0, .inr (5, [.ref h2, .ref h3, .ref h4, .ref h5, .int 0])), (h2, .inr (8, [.ref h12, .int 0])), (h5, .inr (8, [.ref h10, .int wp4000329])), (h10, .inl (y 1, 3, .inr (.inl (vp_updL (fun _ => 0) ((0 : Int32).toNatClampNeg) 4))))] H := hP
  replace hD : va_D A [(h4, .inr (8, [.ref h7, .int wp4000327])), (h7, .inl (y 1, 18, .inr (.inl (vp_updL (vp_updL (vp_updL (vp_updL wf4000328 ((3 : Int32).toNatClampNeg) ((p1 - p1 / 10 * 10).toInt64)) ((2 : Int32).toNatClampNeg) (((p1 / 10) - (p1 / 10) / 10 * 10).toInt64)) ((1 : Int32).toNatClampNeg) ((((p1 / 10) / 10) - ((p1 / 10) / 10) / 10 * 10).toInt64)) ((0 : Int32).toNatClampNeg) (((((p1 / 10) / 10) / 10) - (((p1 / 10) / 10) / 10) / 10 * 10).toInt64))))), (h0, .inr (5, [.ref h2, .ref h3, .ref h4, .ref h5, .int 0])), (h2, .inr (8, [.ref h12, .int 0])), (h5, .inr (8, [.ref h10, .int wp4000329])), (h10, .inl (y 1, 3, .inr (.inl (vp_updL (fun _ => 0) ((0 : Int32).toNatClampNeg) 4))))] := hD
  refine lv_lconst (v := 0) hx hb dX5_tellSecret_81 (by decide) ?_
  refine W.lcmp hx hb dX5_tellSecret_82 ?_
  refine g_fi (v := 0) (by decide +kernel) ?_
  refine lv_if_le (tgt := 89) hx hb dX5_tellSecret_83 (by decide) (fun _ => ?_) (fun c9 => absurd c9 (by decide +kernel))
  refine lv_iinc (v := 3) (lv' := [(6, .int 3), (5, .int 1), (4, .int ((((p1 / 10) / 10) / 10) / 10)), (0, .ref h0), (1, .int 0), (2, .int p1), (3, .int 4)]) hx hb dX5_tellSecret_89 hl (k := 0) rfl (by decide +kernel) (by decide) rfl ?_
  clear hl
  clear ls
  intro ls hl
  refine lv_goto (tgt := 66) hx hb dX5_tellSecret_92 (by decide) ?_
  refine lv_iload hx hb dX5_tellSecret_66 (lv_at hl 0 rfl) ?_
  refine lv_iconst (v := 3) hx hb dX5_tellSecret_68 (by decide) ?_
  refine lv_icmp_ge (tgt := 95) hx hb dX5_tellSecret_69 (by decide) (fun _ => ?_) (fun c9 => absurd c9 (by decide +kernel))
  refine lv_iload hx hb dX5_tellSecret_95 (lv_at hl 1 rfl) ?_
  exact g_iret hx hb hr hlocks () (hP.sub [2, 0, 1, 4, 5, 3] rfl) (hD.sub [2, 0, 1, 4, 5, 3] (by decide +kernel) rfl) hS rfl rfl (Nat.le_of_ble_eq_true rfl) (Nat.le_of_ble_eq_true rfl) dX5_tellSecret_97
set_option maxRecDepth 100000 in
set_option maxHeartbeats 4000000 in
theorem k_X8_set_37 (l : Launch) (D : va_G) (y : Nat → ClassId) (aS : Nat → Nat) (sz : Nat) (h0 : Nat) (p1 : Int64) (h2 : Nat) (wp4000341 : Int32) (wf4000342 : Nat → Int64) : Met l yX8_set (Cond.code yX8_set cX8_set 4 none :: wsL_law) ({ frames := 0, cells := 0, slots := 0, locals := 0 } : Room) (va_Pc [.ref h0, .int 9, .long p1] (gI D y aS [(h0, .inr (8, [.ref h2, .int wp4000341])), (h2, .inl (y 1, 18, .inr (.inl wf4000342)))] sz)) (va_Qv (fun (u : Unit) => True) (fun u => gO D (va_A [(h0, .inr (8, [.ref h2, .int wp4000341])), (h2, .inl (y 1, 18, .inr (.inl wf4000342)))] sz) [(h0, .inr (8, [.ref h2, .int wp4000341])), (h2, .inl (y 1, 18, .inr (.inl (vp_updL wf4000342 ((9 : Int32).toNatClampNeg) p1))))]) (va_A [(h0, .inr (8, [.ref h2, .int wp4000341])), (h2, .inl (y 1, 18, .inr (.inl wf4000342)))] sz)) 0 0 (va_A [(h0, .inr (8, [.ref h2, .int wp4000341])), (h2, .inl (y 1, 18, .inr (.inl wf4000342)))] sz) := by
  refine g_of (by decide) (Nat.le_of_ble_eq_true rfl) ?_
  intro p e s m below meth c ls A hx hb hr hml hown hg hlocks hin hsz hK hP hD hS hA hAe hl
  rw [← hAe]
  replace hown : s.vm.findClass RX8 = some m.cls := hown
  replace hl : lv_has ls 4 [(0, .ref h0), (1, .int 9), (2, .long p1)] := hl
  refine lv_iload_n hx hb dX8_set_0 rfl (lv_at hl 1 rfl) ?_
  refine lv_if_lt (tgt := 20) hx hb dX8_set_1 (by decide) (fun c9 => absurd c9 (by decide +kernel)) (fun _ => ?_)
  refine lv_iload_n hx hb dX8_set_4 rfl (lv_at hl 1 rfl) ?_
  refine lv_aload_n hx hb dX8_set_5 rfl (lv_at hl 0 rfl) ?_
  refine gm_get (D := D) (ci := 8) (v := .ref h2) (C := RX8) (T := TX8) (N := 2) hx hb hg inlX8 hown hK.1 hP 0 rfl rfl 0 (by decide) tX8_0 (hg _ gw_98) rfl dX8_set_6 ?_
  refine va_alen hx hb hK.1 hP 1 1 rfl rfl (v := 18) rfl dX8_set_9 ?_
  refine lv_icmp_ge (tgt := 20) hx hb dX8_set_10 (by decide) (fun c9 => absurd c9 (by decide +kernel)) (fun _ => ?_)
  refine lv_aload_n hx hb dX8_set_13 rfl (lv_at hl 0 rfl) ?_
  refine gm_get (D := D) (ci := 8) (v := .ref h2) (C := RX8) (T := TX8) (N := 2) hx hb hg inlX8 hown hK.1 hP 0 rfl rfl 0 (by decide) tX8_0 (hg _ gw_98) rfl dX8_set_14 ?_
  refine lv_iload_n hx hb dX8_set_17 rfl (lv_at hl 1 rfl) ?_
  refine lv_lload_n hx hb dX8_set_18 rfl (lv_at hl 2 rfl) ?_
  refine va_last hx hb hK.1 hP hD hS 1 1 rfl rfl (by unfold vp_in; decide +kernel) dX8_set_19 ?_
  clear hP hD hS
  refine fun H locs (hP : va_P D vwCl [(h0, .inr (8, [.ref h2, .int wp4000341])), (h2, .inl (y 1, 18, .inr (.inl (vp_updL wf4000342 ((9 : Int32).toNatClampNeg) p1))))] H) (hD : va_D A [(h0, .inr (8, [.ref h2, .int wp4000341])), (h2, .inl (y 1, 18, .inr (.inl (vp_updL wf4000342 ((9 : Int32).toNatClampNeg) p1))))]) hS => ?_
  exact g_vret hx hb hr hlocks () hP hD hS trivial (Nat.le_of_ble_eq_true rfl) (Nat.le_of_ble_eq_true rfl) dX8_set_20
set_option maxRecDepth 100000 in
set_option maxHeartbeats 4000000 in
theorem k_X8_get_23 (l : Launch) (D : va_G) (y : Nat → ClassId) (aS : Nat → Nat) (sz : Nat) (h0 : Nat) (h1 : Nat) (wp4000349 : Int32) : Met l yX8_get (Cond.code yX8_get cX8_get 2 (some .long) :: wsL_law) ({ frames := 0, cells := 0, slots := 0, locals := 0 } : Room) (va_Pc [.ref h0, .int 0] (gI D y aS [(h0, .inr (8, [.ref h1, .int wp4000349])), (h1, .inl (y 1, 3, .inr (.inl (vp_updL (fun _ => 0) ((1 : Int32).toNatClampNeg) 4))))] sz)) (va_Ql (fun (r : Int64) (u : Unit) => 0 = r) (fun u => gO D (va_A [(h0, .inr (8, [.ref h1, .int wp4000349])), (h1, .inl (y 1, 3, .inr (.inl (vp_updL (fun _ => 0) ((1 : Int32).toNatClampNeg) 4))))] sz) [(h0, .inr (8, [.ref h1, .int wp4000349])), (h1, .inl (y 1, 3, .inr (.inl (vp_updL (fun _ => 0) ((1 : Int32).toNatClampNeg) 4))))]) (va_A [(h0, .inr (8, [.ref h1, .int wp4000349])), (h1, .inl (y 1, 3, .inr (.inl (vp_updL (fun _ => 0) ((1 : Int32).toNatClampNeg) 4))))] sz)) 0 0 (va_A [(h0, .inr (8, [.ref h1, .int wp4000349])), (h1, .inl (y 1, 3, .inr (.inl (vp_updL (fun _ => 0) ((1 : Int32).toNatClampNeg) 4))))] sz) := by
  refine g_of (by decide) (Nat.le_of_ble_eq_true rfl) ?_
  intro p e s m below meth c ls A hx hb hr hml hown hg hlocks hin hsz hK hP hD hS hA hAe hl
  rw [← hAe]
  replace hown : s.vm.findClass RX8 = some m.cls := hown
  replace hl : lv_has ls 2 [(0, .ref h0), (1, .int 0)] := hl
  refine lv_iload_n hx hb dX8_get_0 rfl (lv_at hl 1 rfl) ?_
  refine lv_if_lt (tgt := 22) hx hb dX8_get_1 (by decide) (fun c9 => absurd c9 (by decide +kernel)) (fun _ => ?_)
  refine lv_iload_n hx hb dX8_get_4 rfl (lv_at hl 1 rfl) ?_
  refine lv_aload_n hx hb dX8_get_5 rfl (lv_at hl 0 rfl) ?_
  refine gm_get (D := D) (ci := 8) (v := .ref h1) (C := RX8) (T := TX8) (N := 2) hx hb hg inlX8 hown hK.1 hP 0 rfl rfl 0 (by decide) tX8_0 (hg _ gw_98) rfl dX8_get_6 ?_
  refine va_alen hx hb hK.1 hP 1 1 rfl rfl (v := 3) rfl dX8_get_9 ?_
  refine lv_icmp_ge (tgt := 22) hx hb dX8_get_10 (by decide) (fun c9 => absurd c9 (by decide +kernel)) (fun _ => ?_)
  refine lv_aload_n hx hb dX8_get_13 rfl (lv_at hl 0 rfl) ?_
  refine gm_get (D := D) (ci := 8) (v := .ref h1) (C := RX8) (T := TX8) (N := 2) hx hb hg inlX8 hown hK.1 hP 0 rfl rfl 0 (by decide) tX8_0 (hg _ gw_98) rfl dX8_get_14 ?_
  refine lv_iload_n hx hb dX8_get_17 rfl (lv_at hl 1 rfl) ?_
  refine va_lald hx hb hK.1 hP 1 1 rfl rfl (by unfold vp_in; decide +kernel) dX8_get_18 ?_
  refine g_fj (v := 0) (by rfl) ?_
  refine lv_goto (tgt := 23) hx hb dX8_get_19 (by decide) ?_
  exact g_lret hx hb hr hlocks () hP hD hS rfl (Nat.le_of_ble_eq_true rfl) (Nat.le_of_ble_eq_true rfl) dX8_get_23
set_option maxRecDepth 100000 in
set_option maxHeartbeats 4000000 in
theorem k_X8_get_24 (l : Launch) (D : va_G) (y : Nat → ClassId) (aS : Nat → Nat) (sz : Nat) (h0 : Nat) (h1 : Nat) (wp4000351 : Int32) : Met l yX8_get (Cond.code yX8_get cX8_get 2 (some .long) :: wsL_law) ({ frames := 0, cells := 0, slots := 0, locals := 0 } : Room) (va_Pc [.ref h0, .int 1] (gI D y aS [(h0, .inr (8, [.ref h1, .int wp4000351])), (h1, .inl (y 1, 3, .inr (.inl (vp_updL (fun _ => 0) ((1 : Int32).toNatClampNeg) 4))))] sz)) (va_Ql (fun (r : Int64) (u : Unit) => 4 = r) (fun u => gO D (va_A [(h0, .inr (8, [.ref h1, .int wp4000351])), (h1, .inl (y 1, 3, .inr (.inl (vp_updL (fun _ => 0) ((1 : Int32).toNatClampNeg) 4))))] sz) [(h0, .inr (8, [.ref h1, .int wp4000351])), (h1, .inl (y 1, 3, .inr (.inl (vp_updL (fun _ => 0) ((1 : Int32).toNatClampNeg) 4))))]) (va_A [(h0, .inr (8, [.ref h1, .int wp4000351])), (h1, .inl (y 1, 3, .inr (.inl (vp_updL (fun _ => 0) ((1 : Int32).toNatClampNeg) 4))))] sz)) 0 0 (va_A [(h0, .inr (8, [.ref h1, .int wp4000351])), (h1, .inl (y 1, 3, .inr (.inl (vp_updL (fun _ => 0) ((1 : Int32).toNatClampNeg) 4))))] sz) := by
  refine g_of (by decide) (Nat.le_of_ble_eq_true rfl) ?_
  intro p e s m below meth c ls A hx hb hr hml hown hg hlocks hin hsz hK hP hD hS hA hAe hl
  rw [← hAe]
  replace hown : s.vm.findClass RX8 = some m.cls := hown
  replace hl : lv_has ls 2 [(0, .ref h0), (1, .int 1)] := hl
  refine lv_iload_n hx hb dX8_get_0 rfl (lv_at hl 1 rfl) ?_
  refine lv_if_lt (tgt := 22) hx hb dX8_get_1 (by decide) (fun c9 => absurd c9 (by decide +kernel)) (fun _ => ?_)
  refine lv_iload_n hx hb dX8_get_4 rfl (lv_at hl 1 rfl) ?_
  refine lv_aload_n hx hb dX8_get_5 rfl (lv_at hl 0 rfl) ?_
  refine gm_get (D := D) (ci := 8) (v := .ref h1) (C := RX8) (T := TX8) (N := 2) hx hb hg inlX8 hown hK.1 hP 0 rfl rfl 0 (by decide) tX8_0 (hg _ gw_98) rfl dX8_get_6 ?_
  refine va_alen hx hb hK.1 hP 1 1 rfl rfl (v := 3) rfl dX8_get_9 ?_
  refine lv_icmp_ge (tgt := 22) hx hb dX8_get_10 (by decide) (fun c9 => absurd c9 (by decide +kernel)) (fun _ => ?_)
  refine lv_aload_n hx hb dX8_get_13 rfl (lv_at hl 0 rfl) ?_
  refine gm_get (D := D) (ci := 8) (v := .ref h1) (C := RX8) (T := TX8) (N := 2) hx hb hg inlX8 hown hK.1 hP 0 rfl rfl 0 (by decide) tX8_0 (hg _ gw_98) rfl dX8_get_14 ?_
  refine lv_iload_n hx hb dX8_get_17 rfl (lv_at hl 1 rfl) ?_
  refine va_lald hx hb hK.1 hP 1 1 rfl rfl (by unfold vp_in; decide +kernel) dX8_get_18 ?_
  refine g_fj (v := 4) (by rfl) ?_
  refine lv_goto (tgt := 23) hx hb dX8_get_19 (by decide) ?_
  exact g_lret hx hb hr hlocks () hP hD hS rfl (Nat.le_of_ble_eq_true rfl) (Nat.le_of_ble_eq_true rfl) dX8_get_23
set_option maxRecDepth 100000 in
set_option maxHeartbeats 4000000 in
theorem k_X8_get_25 (l : Launch) (D : va_G) (y : Nat → ClassId) (aS : Nat → Nat) (sz : Nat) (h0 : Nat) (h1 : Nat) (wp4000353 : Int32) : Met l yX8_get (Cond.code yX8_get cX8_get 2 (some .long) :: wsL_law) ({ frames := 0, cells := 0, slots := 0, locals := 0 } : Room) (va_Pc [.ref h0, .int 2] (gI D y aS [(h0, .inr (8, [.ref h1, .int wp4000353])), (h1, .inl (y 1, 3, .inr (.inl (vp_updL (fun _ => 0) ((1 : Int32).toNatClampNeg) 4))))] sz)) (va_Ql (fun (r : Int64) (u : Unit) => 0 = r) (fun u => gO D (va_A [(h0, .inr (8, [.ref h1, .int wp4000353])), (h1, .inl (y 1, 3, .inr (.inl (vp_updL (fun _ => 0) ((1 : Int32).toNatClampNeg) 4))))] sz) [(h0, .inr (8, [.ref h1, .int wp4000353])), (h1, .inl (y 1, 3, .inr (.inl (vp_updL (fun _ => 0) ((1 : Int32).toNatClampNeg) 4))))]) (va_A [(h0, .inr (8, [.ref h1, .int wp4000353])), (h1, .inl (y 1, 3, .inr (.inl (vp_updL (fun _ => 0) ((1 : Int32).toNatClampNeg) 4))))] sz)) 0 0 (va_A [(h0, .inr (8, [.ref h1, .int wp4000353])), (h1, .inl (y 1, 3, .inr (.inl (vp_updL (fun _ => 0) ((1 : Int32).toNatClampNeg) 4))))] sz) := by
  refine g_of (by decide) (Nat.le_of_ble_eq_true rfl) ?_
  intro p e s m below meth c ls A hx hb hr hml hown hg hlocks hin hsz hK hP hD hS hA hAe hl
  rw [← hAe]
  replace hown : s.vm.findClass RX8 = some m.cls := hown
  replace hl : lv_has ls 2 [(0, .ref h0), (1, .int 2)] := hl
  refine lv_iload_n hx hb dX8_get_0 rfl (lv_at hl 1 rfl) ?_
  refine lv_if_lt (tgt := 22) hx hb dX8_get_1 (by decide) (fun c9 => absurd c9 (by decide +kernel)) (fun _ => ?_)
  refine lv_iload_n hx hb dX8_get_4 rfl (lv_at hl 1 rfl) ?_
  refine lv_aload_n hx hb dX8_get_5 rfl (lv_at hl 0 rfl) ?_
  refine gm_get (D := D) (ci := 8) (v := .ref h1) (C := RX8) (T := TX8) (N := 2) hx hb hg inlX8 hown hK.1 hP 0 rfl rfl 0 (by decide) tX8_0 (hg _ gw_98) rfl dX8_get_6 ?_
  refine va_alen hx hb hK.1 hP 1 1 rfl rfl (v := 3) rfl dX8_get_9 ?_
  refine lv_icmp_ge (tgt := 22) hx hb dX8_get_10 (by decide) (fun c9 => absurd c9 (by decide +kernel)) (fun _ => ?_)
  refine lv_aload_n hx hb dX8_get_13 rfl (lv_at hl 0 rfl) ?_
  refine gm_get (D := D) (ci := 8) (v := .ref h1) (C := RX8) (T := TX8) (N := 2) hx hb hg inlX8 hown hK.1 hP 0 rfl rfl 0 (by decide) tX8_0 (hg _ gw_98) rfl dX8_get_14 ?_
  refine lv_iload_n hx hb dX8_get_17 rfl (lv_at hl 1 rfl) ?_
  refine va_lald hx hb hK.1 hP 1 1 rfl rfl (by unfold vp_in; decide +kernel) dX8_get_18 ?_
  refine g_fj (v := 0) (by rfl) ?_
  refine lv_goto (tgt := 23) hx hb dX8_get_19 (by decide) ?_
  exact g_lret hx hb hr hlocks () hP hD hS rfl (Nat.le_of_ble_eq_true rfl) (Nat.le_of_ble_eq_true rfl) dX8_get_23
set_option maxRecDepth 100000 in
set_option maxHeartbeats 4000000 in
theorem k_X5_tellSecret_7 (l : Launch) (D : va_G) (y : Nat → ClassId) (aS : Nat → Nat) (sz : Nat) (h0 : Nat) (p1 : Int32) (h2 : Nat) (h3 : Nat) (h4 : Nat) (h5 : Nat) (wp4000355 : Int32) (h7 : Nat) (wp4000356 : Int32) (wf4000357 : Nat → Int64) (h10 : Nat) (wp4000358 : Int32) (h12 : Nat) : Met l yX5_tellSecret (Cond.code yX5_tellSecret cX5_tellSecret 7 (some .int) :: wsL_law) ({ frames := 1, cells := 0, slots := 0, locals := 23 } : Room) (va_Pc [.ref h0, .int 1, .int p1, .int 4] (gI D y aS [(h0, .inr (5, [.ref h2, .ref h3, .ref h4, .ref h5, .int wp4000355])), (h4, .inr (8, [.ref h7, .int wp4000356])), (h7, .inl (y 1, 18, .inr (.inl wf4000357))), (h5, .inr (8, [.ref h10, .int wp4000358])), (h10, .inl (y 1, 3, .inr (.inl (fun _ => 0)))), (h2, .inr (8, [.ref h12, .int 0]))] sz)) (va_Qi (fun (r : Int32) (u : Unit) => 1 = r) (fun u => gO D (va_A [(h0, .inr (5, [.ref h2, .ref h3, .ref h4, .ref h5, .int wp4000355])), (h4, .inr (8, [.ref h7, .int wp4000356])), (h7, .inl (y 1, 18, .inr (.inl wf4000357))), (h5, .inr (8, [.ref h10, .int wp4000358])), (h10, .inl (y 1, 3, .inr (.inl (fun _ => 0)))), (h2, .inr (8, [.ref h12, .int 0]))] sz) [(h0, .inr (5, [.ref h2, .ref h3, .ref h4, .ref h5, .int 0])), (h4, .inr (8, [.ref h7, .int wp4000356])), (h7, .inl (y 1, 18, .inr (.inl (vp_updL (vp_updL (vp_updL (vp_updL wf4000357 ((9 : Int32).toNatClampNeg) ((p1 - p1 / 10 * 10).toInt64)) ((8 : Int32).toNatClampNeg) (((p1 / 10) - (p1 / 10) / 10 * 10).toInt64)) ((7 : Int32).toNatClampNeg) ((((p1 / 10) / 10) - ((p1 / 10) / 10) / 10 * 10).toInt64)) ((6 : Int32).toNatClampNeg) (((((p1 / 10) / 10) / 10) - (((p1 / 10) / 10) / 10) / 10 * 10).toInt64))))), (h5, .inr (8, [.ref h10, .int wp4000358])), (h10, .inl (y 1, 3, .inr (.inl (vp_updL (fun _ => 0) ((1 : Int32).toNatClampNeg) 4)))), (h2, .inr (8, [.ref h12, .int 0]))]) (va_A [(h0, .inr (5, [.ref h2, .ref h3, .ref h4, .ref h5, .int wp4000355])), (h4, .inr (8, [.ref h7, .int wp4000356])), (h7, .inl (y 1, 18, .inr (.inl wf4000357))), (h5, .inr (8, [.ref h10, .int wp4000358])), (h10, .inl (y 1, 3, .inr (.inl (fun _ => 0)))), (h2, .inr (8, [.ref h12, .int 0]))] sz)) 0 0 (va_A [(h0, .inr (5, [.ref h2, .ref h3, .ref h4, .ref h5, .int wp4000355])), (h4, .inr (8, [.ref h7, .int wp4000356])), (h7, .inl (y 1, 18, .inr (.inl wf4000357))), (h5, .inr (8, [.ref h10, .int wp4000358])), (h10, .inl (y 1, 3, .inr (.inl (fun _ => 0)))), (h2, .inr (8, [.ref h12, .int 0]))] sz) := by
  refine g_of (by decide) (Nat.le_of_ble_eq_true rfl) ?_
  intro p e s m below meth c ls A hx hb hr hml hown hg hlocks hin hsz hK hP hD hS hA hAe hl
  rw [← hAe]
  replace hown : s.vm.findClass RX5 = some m.cls := hown
  replace hl : lv_has ls 7 [(0, .ref h0), (1, .int 1), (2, .int p1), (3, .int 4)] := hl
  refine lv_iload_n hx hb dX5_tellSecret_0 rfl (lv_at hl 2 rfl) ?_
  refine lv_istore (lv' := [(4, .int p1), (0, .ref h0), (1, .int 1), (2, .int p1), (3, .int 4)]) hx hb dX5_tellSecret_1 hl (by decide) rfl ?_
  clear hl
  clear ls
  intro ls hl
  refine lv_iload_n hx hb dX5_tellSecret_3 rfl (lv_at hl 4 rfl) ?_
  refine lv_iconst (v := 1) hx hb dX5_tellSecret_4 (by decide) ?_
  refine lv_isub hx hb dX5_tellSecret_5 ?_
  refine g_fi (v := 3) (by decide +kernel) ?_
  refine lv_istore (lv' := [(5, .int 3), (4, .int p1), (0, .ref h0), (1, .int 1), (2, .int p1), (3, .int 4)]) hx hb dX5_tellSecret_6 hl (by decide) rfl ?_
  clear hl
  clear ls
  intro ls hl
  refine lv_iload hx hb dX5_tellSecret_8 (lv_at hl 0 rfl) ?_
  refine lv_if_lt (tgt := 46) hx hb dX5_tellSecret_10 (by decide) (fun c9 => absurd c9 (by decide +kernel)) (fun _ => ?_)
  refine lv_aload_n hx hb dX5_tellSecret_13 rfl (lv_at hl 2 rfl) ?_
  refine gm_get (D := D) (ci := 5) (v := .ref h4) (C := RX5) (T := TX5) (N := 5) hx hb hg inlX5 hown hK.1 hP 0 rfl rfl 2 (by decide) tX5_2 (hg _ gw_140) rfl dX5_tellSecret_14 ?_
  refine lv_iload_n hx hb dX5_tellSecret_17 rfl (lv_at hl 3 rfl) ?_
  refine lv_bipush (v := 6) hx hb dX5_tellSecret_18 (by decide +kernel) ?_
  refine lv_imul hx hb dX5_tellSecret_20 ?_
  refine g_fi (v := 6) (by decide +kernel) ?_
  refine lv_iload hx hb dX5_tellSecret_21 (lv_at hl 0 rfl) ?_
  refine lv_iadd hx hb dX5_tellSecret_23 ?_
  refine g_fi (v := 9) (by decide +kernel) ?_
  refine lv_iload hx hb dX5_tellSecret_24 (lv_at hl 1 rfl) ?_
  refine lv_bipush (v := 10) hx hb dX5_tellSecret_26 (by decide +kernel) ?_
  refine lv_irem hx hb dX5_tellSecret_28 (by decide +kernel) ?_
  refine lv_i2l (v := ((p1 - p1 / 10 * 10).toInt64)) hx hb dX5_tellSecret_29 rfl ?_
  refine g_av (wr := [(h0, .inr (5, [.ref h2, .ref h3, .ref h4, .ref h5, .int wp4000355])), (h5, .inr (8, [.ref h10, .int wp4000358])), (h10, .inl (y 1, 3, .inr (.inl (fun _ => 0)))), (h2, .inr (8, [.ref h12, .int 0]))]) (va_runV (As := [.int 9, .long ((p1 - p1 / 10 * 10).toInt64)]) (rest := []) ⟨hx, hb, hml, hown, hg⟩ (k_X8_set_37 l D y aS s.heap.size h4 ((p1 - p1 / 10 * 10).toInt64) h7 wp4000356 wf4000357) (cwV 2 hg ggV_RX5_29_X8_set rfl rfl rfl (by decide +kernel) ⟨Nat.le_of_ble_eq_true rfl, Nat.le_of_ble_eq_true rfl⟩) (g_preV (q := (RX8, TX8, 2)) hK hP hD [1, 2] rfl (by decide) (ci := 8) (q0 := 1) rfl rfl) rfl rfl hl.1 rfl (lv_room (Nat.le_of_ble_eq_true rfl)) dX5_tellSecret_30 ⟨Nat.le_of_ble_eq_true rfl, Nat.le_of_ble_eq_true rfl⟩) hP hD hS hA [1, 2] [0, 3, 4, 5] rfl rfl (by decide) (by decide) ?_
  clear hP hD hS
  refine fun u H locs hq hP hD hS => ?_
  replace hP : va_P D vwCl [(h0, .inr (5, [.ref h2, .ref h3, .ref h4, .ref h5, .int wp4000355])), (h5, .inr (8, [.ref h10, .int wp4000358])), (h10, .inl (y 1, 3, .inr (.inl (fun _ => 0)))), (h2, .inr (8, [.ref h12, .int 0])), (h4, .inr (8, [.ref h7, .int wp4000356])), (h7, .inl (y 1, 18, .inr (.inl (vp_updL wf4000357 ((9 : Int32).toNatClampNeg) ((p1 - p1 / 10 * 10).toInt64)))))] H := hP
  replace hD : va_D A [(h0, .inr (5, [.ref h2, .ref h3, .ref h4, .ref h5, .int wp4000355])), (h5, .inr (8, [.ref h10, .int wp4000358])), (h10, .inl (y 1, 3, .inr (.inl (fun _ => 0)))), (h2, .inr (8, [.ref h12, .int 0])), (h4, .inr (8, [.ref h7, .int wp4000356])), (h7, .inl (y 1, 18, .inr (.inl (vp_updL wf4000357 ((9 : Int32).toNatClampNeg) ((p1 - p1 / 10 * 10).toInt64)))))] := hD
  refine lv_iload hx hb dX5_tellSecret_33 (lv_at hl 1 rfl) ?_
  refine lv_bipush (v := 10) hx hb dX5_tellSecret_35 (by decide +kernel) ?_
  refine lv_idiv hx hb dX5_tellSecret_37 (by decide +kernel) ?_
  refine lv_istore (lv' := [(4, .int (p1 / 10)), (5, .int 3), (0, .ref h0), (1, .int 1), (2, .int p1), (3, .int 4)]) hx hb dX5_tellSecret_38 hl (by decide) rfl ?_
  clear hl
  clear ls
  intro ls hl
  refine lv_iinc (v := 2) (lv' := [(5, .int 2), (4, .int (p1 / 10)), (0, .ref h0), (1, .int 1), (2, .int p1), (3, .int 4)]) hx hb dX5_tellSecret_40 hl (k := 1) rfl (by decide +kernel) (by decide) rfl ?_
  clear hl
  clear ls
  intro ls hl
  refine lv_goto (tgt := 8) hx hb dX5_tellSecret_43 (by decide) ?_
  refine lv_iload hx hb dX5_tellSecret_8 (lv_at hl 0 rfl) ?_
  refine lv_if_lt (tgt := 46) hx hb dX5_tellSecret_10 (by decide) (fun c9 => absurd c9 (by decide +kernel)) (fun _ => ?_)
  refine lv_aload_n hx hb dX5_tellSecret_13 rfl (lv_at hl 2 rfl) ?_
  refine gm_get (D := D) (ci := 5) (v := .ref h4) (C := RX5) (T := TX5) (N := 5) hx hb hg inlX5 hown hK.1 hP 0 rfl rfl 2 (by decide) tX5_2 (hg _ gw_140) rfl dX5_tellSecret_14 ?_
  refine lv_iload_n hx hb dX5_tellSecret_17 rfl (lv_at hl 3 rfl) ?_
  refine lv_bipush (v := 6) hx hb dX5_tellSecret_18 (by decide +kernel) ?_
  refine lv_imul hx hb dX5_tellSecret_20 ?_
  refine g_fi (v := 6) (by decide +kernel) ?_
  refine lv_iload hx hb dX5_tellSecret_21 (lv_at hl 0 rfl) ?_
  refine lv_iadd hx hb dX5_tellSecret_23 ?_
  refine g_fi (v := 8) (by decide +kernel) ?_
  refine lv_iload hx hb dX5_tellSecret_24 (lv_at hl 1 rfl) ?_
  refine lv_bipush (v := 10) hx hb dX5_tellSecret_26 (by decide +kernel) ?_
  refine lv_irem hx hb dX5_tellSecret_28 (by decide +kernel) ?_
  refine lv_i2l (v := (((p1 / 10) - (p1 / 10) / 10 * 10).toInt64)) hx hb dX5_tellSecret_29 rfl ?_
  refine g_av (wr := [(h0, .inr (5, [.ref h2, .ref h3, .ref h4, .ref h5, .int wp4000355])), (h5, .inr (8, [.ref h10, .int wp4000358])), (h10, .inl (y 1, 3, .inr (.inl (fun _ => 0)))), (h2, .inr (8, [.ref h12, .int 0]))]) (va_runV (As := [.int 8, .long (((p1 / 10) - (p1 / 10) / 10 * 10).toInt64)]) (rest := []) ⟨hx, hb, hml, hown, hg⟩ (k_X8_set_34 l D y aS H.size h4 (((p1 / 10) - (p1 / 10) / 10 * 10).toInt64) h7 wp4000356 (vp_updL wf4000357 ((9 : Int32).toNatClampNeg) ((p1 - p1 / 10 * 10).toInt64))) (cwV 2 hg ggV_RX5_29_X8_set rfl rfl rfl (by decide +kernel) ⟨Nat.le_of_ble_eq_true rfl, Nat.le_of_ble_eq_true rfl⟩) (g_preV (q := (RX8, TX8, 2)) hK hP hD [4, 5] rfl (by decide) (ci := 8) (q0 := 4) rfl rfl) rfl rfl hl.1 rfl (lv_room (Nat.le_of_ble_eq_true rfl)) dX5_tellSecret_30 ⟨Nat.le_of_ble_eq_true rfl, Nat.le_of_ble_eq_true rfl⟩) hP hD hS hA [4, 5] [0, 1, 2, 3] rfl rfl (by decide) (by decide) ?_
  clear hP hD hS H locs
  refine fun u H locs hq hP hD hS => ?_
  replace hP : va_P D vwCl [(h0, .inr (5, [.ref h2, .ref h3, .ref h4, .ref h5, .int wp4000355])), (h5, .inr (8, [.ref h10, .int wp4000358])), (h10, .inl (y 1, 3, .inr (.inl (fun _ => 0)))), (h2, .inr (8, [.ref h12, .int 0])), (h4, .inr (8, [.ref h7, .int wp4000356])), (h7, .inl (y 1, 18, .inr (.inl (vp_updL (vp_updL wf4000357 ((9 : Int32).toNatClampNeg) ((p1 - p1 / 10 * 10).toInt64)) ((8 : Int32).toNatClampNeg) (((p1 / 10) - (p1 / 10) / 10 * 10).toInt64)))))] H := hP
  replace hD : va_D A [(h0, .inr (5, [.ref h2, .ref h3, .ref h4, .ref h5, .int wp4000355])), (h5, .inr (8, [.ref h10, .int wp4000358])), (h10, .inl (y 1, 3, .inr (.inl (fun _ => 0)))), (h2, .inr (8, [.ref h12, .int 0])), (h4, .inr (8, [.ref h7, .int wp4000356])), (h7, .inl (y 1, 18, .inr (.inl (vp_updL (vp_updL wf4000357 ((9 : Int32).toNatClampNeg) ((p1 - p1 / 10 * 10).toInt64)) ((8 : Int32).toNatClampNeg) (((p1 / 10) - (p1 / 10) / 10 * 10).toInt64)))))] := hD
  refine lv_iload hx hb dX5_tellSecret_33 (lv_at hl 1 rfl) ?_
  refine lv_bipush (v := 10) hx hb dX5_tellSecret_35 (by decide +kernel) ?_
  refine lv_idiv hx hb dX5_tellSecret_37 (by decide +kernel) ?_
  refine lv_istore (lv' := [(4, .int ((p1 / 10) / 10)), (5, .int 2), (0, .ref h0), (1, .int 1), (2, .int p1), (3, .int 4)]) hx hb dX5_tellSecret_38 hl (by decide) rfl ?_
  clear hl
  clear ls
  intro ls hl
  refine lv_iinc (v := 1) (lv' := [(5, .int 1), (4, .int ((p1 / 10) / 10)), (0, .ref h0), (1, .int 1), (2, .int p1), (3, .int 4)]) hx hb dX5_tellSecret_40 hl (k := 1) rfl (by decide +kernel) (by decide) rfl ?_
  clear hl
  clear ls
  intro ls hl
  refine lv_goto (tgt := 8) hx hb dX5_tellSecret_43 (by decide) ?_
  refine lv_iload hx hb dX5_tellSecret_8 (lv_at hl 0 rfl) ?_
  refine lv_if_lt (tgt := 46) hx hb dX5_tellSecret_10 (by decide) (fun c9 => absurd c9 (by decide +kernel)) (fun _ => ?_)
  refine lv_aload_n hx hb dX5_tellSecret_13 rfl (lv_at hl 2 rfl) ?_
  refine gm_get (D := D) (ci := 5) (v := .ref h4) (C := RX5) (T := TX5) (N := 5) hx hb hg inlX5 hown hK.1 hP 0 rfl rfl 2 (by decide) tX5_2 (hg _ gw_140) rfl dX5_tellSecret_14 ?_
  refine lv_iload_n hx hb dX5_tellSecret_17 rfl (lv_at hl 3 rfl) ?_
  refine lv_bipush (v := 6) hx hb dX5_tellSecret_18 (by decide +kernel) ?_
  refine lv_imul hx hb dX5_tellSecret_20 ?_
  refine g_fi (v := 6) (by decide +kernel) ?_
  refine lv_iload hx hb dX5_tellSecret_21 (lv_at hl 0 rfl) ?_
  refine lv_iadd hx hb dX5_tellSecret_23 ?_
  refine g_fi (v := 7) (by decide +kernel) ?_
  refine lv_iload hx hb dX5_tellSecret_24 (lv_at hl 1 rfl) ?_
  refine lv_bipush (v := 10) hx hb dX5_tellSecret_26 (by decide +kernel) ?_
  refine lv_irem hx hb dX5_tellSecret_28 (by decide +kernel) ?_
  refine lv_i2l (v := ((((p1 / 10) / 10) - ((p1 / 10) / 10) / 10 * 10).toInt64)) hx hb dX5_tellSecret_29 rfl ?_
  refine g_av (wr := [(h0, .inr (5, [.ref h2, .ref h3, .ref h4, .ref h5, .int wp4000355])), (h5, .inr (8, [.ref h10, .int wp4000358])), (h10, .inl (y 1, 3, .inr (.inl (fun _ => 0)))), (h2, .inr (8, [.ref h12, .int 0]))]) (va_runV (As := [.int 7, .long ((((p1 / 10) / 10) - ((p1 / 10) / 10) / 10 * 10).toInt64)]) (rest := []) ⟨hx, hb, hml, hown, hg⟩ (k_X8_set_29 l D y aS H.size h4 ((((p1 / 10) / 10) - ((p1 / 10) / 10) / 10 * 10).toInt64) h7 wp4000356 (vp_updL (vp_updL wf4000357 ((9 : Int32).toNatClampNeg) ((p1 - p1 / 10 * 10).toInt64)) ((8 : Int32).toNatClampNeg) (((p1 / 10) - (p1 / 10) / 10 * 10).toInt64))) (cwV 2 hg ggV_RX5_29_X8_set rfl rfl rfl (by decide +kernel) ⟨Nat.le_of_ble_eq_true rfl, Nat.le_of_ble_eq_true rfl⟩) (g_preV (q := (RX8, TX8, 2)) hK hP hD [4, 5] rfl (by decide) (ci := 8) (q0 := 4) rfl rfl) rfl rfl hl.1 rfl (lv_room (Nat.le_of_ble_eq_true rfl)) dX5_tellSecret_30 ⟨Nat.le_of_ble_eq_true rfl, Nat.le_of_ble_eq_true rfl⟩) hP hD hS hA [4, 5] [0, 1, 2, 3] rfl rfl (by decide) (by decide) ?_
  clear hP hD hS H locs
  refine fun u H locs hq hP hD hS => ?_
  replace hP : va_P D vwCl [(h0, .inr (5, [.ref h2, .ref h3, .ref h4, .ref h5, .int wp4000355])), (h5, .inr (8, [.ref h10, .int wp4000358])), (h10, .inl (y 1, 3, .inr (.inl (fun _ => 0)))), (h2, .inr (8, [.ref h12, .int 0])), (h4, .inr (8, [.ref h7, .int wp4000356])), (h7, .inl (y 1, 18, .inr (.inl (vp_updL (vp_updL (vp_updL wf4000357 ((9 : Int32).toNatClampNeg) ((p1 - p1 / 10 * 10).toInt64)) ((8 : Int32).toNatClampNeg) (((p1 / 10) - (p1 / 10) / 10 * 10).toInt64)) ((7 : Int32).toNatClampNeg) ((((p1 / 10) / 10) - ((p1 / 10) / 10) / 10 * 10).toInt64)))))] H := hP
  replace hD : va_D A [(h0, .inr (5, [.ref h2, .ref h3, .ref h4, .ref h5, .int wp4000355])), (h5, .inr (8, [.ref h10, .int wp4000358])), (h10, .inl (y 1, 3, .inr (.inl (fun _ => 0)))), (h2, .inr (8, [.ref h12, .int 0])), (h4, .inr (8, [.ref h7, .int wp4000356])), (h7, .inl (y 1, 18, .inr (.inl (vp_updL (vp_updL (vp_updL wf4000357 ((9 : Int32).toNatClampNeg) ((p1 - p1 / 10 * 10).toInt64)) ((8 : Int32).toNatClampNeg) (((p1 / 10) - (p1 / 10) / 10 * 10).toInt64)) ((7 : Int32).toNatClampNeg) ((((p1 / 10) / 10) - ((p1 / 10) / 10) / 10 * 10).toInt64)))))] := hD
  refine lv_iload hx hb dX5_tellSecret_33 (lv_at hl 1 rfl) ?_
  refine lv_bipush (v := 10) hx hb dX5_tellSecret_35 (by decide +kernel) ?_
  refine lv_idiv hx hb dX5_tellSecret_37 (by decide +kernel) ?_
  refine lv_istore (lv' := [(4, .int (((p1 / 10) / 10) / 10)), (5, .int 1), (0, .ref h0), (1, .int 1), (2, .int p1), (3, .int 4)]) hx hb dX5_tellSecret_38 hl (by decide) rfl ?_
  clear hl
  clear ls
  intro ls hl
  refine lv_iinc (v := 0) (lv' := [(5, .int 0), (4, .int (((p1 / 10) / 10) / 10)), (0, .ref h0), (1, .int 1), (2, .int p1), (3, .int 4)]) hx hb dX5_tellSecret_40 hl (k := 1) rfl (by decide +kernel) (by decide) rfl ?_
  clear hl
  clear ls
  intro ls hl
  refine lv_goto (tgt := 8) hx hb dX5_tellSecret_43 (by decide) ?_
  refine lv_iload hx hb dX5_tellSecret_8 (lv_at hl 0 rfl) ?_
  refine lv_if_lt (tgt := 46) hx hb dX5_tellSecret_10 (by decide) (fun c9 => absurd c9 (by decide +kernel)) (fun _ => ?_)
  refine lv_aload_n hx hb dX5_tellSecret_13 rfl (lv_at hl 2 rfl) ?_
  refine gm_get (D := D) (ci := 5) (v := .ref h4) (C := RX5) (T := TX5) (N := 5) hx hb hg inlX5 hown hK.1 hP 0 rfl rfl 2 (by decide) tX5_2 (hg _ gw_140) rfl dX5_tellSecret_14 ?_
  refine lv_iload_n hx hb dX5_tellSecret_17 rfl (lv_at hl 3 rfl) ?_
  refine lv_bipush (v := 6) hx hb dX5_tellSecret_18 (by decide +kernel) ?_
  refine lv_imul hx hb dX5_tellSecret_20 ?_
  refine g_fi (v := 6) (by decide +kernel) ?_
  refine lv_iload hx hb dX5_tellSecret_21 (lv_at hl 0 rfl) ?_
  refine lv_iadd hx hb dX5_tellSecret_23 ?_
  refine g_fi (v := 6) (by decide +kernel) ?_
  refine lv_iload hx hb dX5_tellSecret_24 (lv_at hl 1 rfl) ?_
  refine lv_bipush (v := 10) hx hb dX5_tellSecret_26 (by decide +kernel) ?_
  refine lv_irem hx hb dX5_tellSecret_28 (by decide +kernel) ?_
  refine lv_i2l (v := (((((p1 / 10) / 10) / 10) - (((p1 / 10) / 10) / 10) / 10 * 10).toInt64)) hx hb dX5_tellSecret_29 rfl ?_
  refine g_av (wr := [(h0, .inr (5, [.ref h2, .ref h3, .ref h4, .ref h5, .int wp4000355])), (h5, .inr (8, [.ref h10, .int wp4000358])), (h10, .inl (y 1, 3, .inr (.inl (fun _ => 0)))), (h2, .inr (8, [.ref h12, .int 0]))]) (va_runV (As := [.int 6, .long (((((p1 / 10) / 10) / 10) - (((p1 / 10) / 10) / 10) / 10 * 10).toInt64)]) (rest := []) ⟨hx, hb, hml, hown, hg⟩ (k_X8_set_30 l D y aS H.size h4 (((((p1 / 10) / 10) / 10) - (((p1 / 10) / 10) / 10) / 10 * 10).toInt64) h7 wp4000356 (vp_updL (vp_updL (vp_updL wf4000357 ((9 : Int32).toNatClampNeg) ((p1 - p1 / 10 * 10).toInt64)) ((8 : Int32).toNatClampNeg) (((p1 / 10) - (p1 / 10) / 10 * 10).toInt64)) ((7 : Int32).toNatClampNeg) ((((p1 / 10) / 10) - ((p1 / 10) / 10) / 10 * 10).toInt64))) (cwV 2 hg ggV_RX5_29_X8_set rfl rfl rfl (by decide +kernel) ⟨Nat.le_of_ble_eq_true rfl, Nat.le_of_ble_eq_true rfl⟩) (g_preV (q := (RX8, TX8, 2)) hK hP hD [4, 5] rfl (by decide) (ci := 8) (q0 := 4) rfl rfl) rfl rfl hl.1 rfl (lv_room (Nat.le_of_ble_eq_true rfl)) dX5_tellSecret_30 ⟨Nat.le_of_ble_eq_true rfl, Nat.le_of_ble_eq_true rfl⟩) hP hD hS hA [4, 5] [0, 1, 2, 3] rfl rfl (by decide) (by decide) ?_
  clear hP hD hS H locs
  refine fun u H locs hq hP hD hS => ?_
  replace hP : va_P D vwCl [(h0, .inr (5, [.ref h2, .ref h3, .ref h4, .ref h5, .int wp4000355])), (h5, .inr (8, [.ref h10, .int wp4000358])), (h10, .inl (y 1, 3, .inr (.inl (fun _ => 0)))), (h2, .inr (8, [.ref h12, .int 0])), (h4, .inr (8, [.ref h7, .int wp4000356])), (h7, .inl (y 1, 18, .inr (.inl (vp_updL (vp_updL (vp_updL (vp_updL wf4000357 ((9 : Int32).toNatClampNeg) ((p1 - p1 / 10 * 10).toInt64)) ((8 : Int32).toNatClampNeg) (((p1 / 10) - (p1 / 10) / 10 * 10).toInt64)) ((7 : Int32).toNatClampNeg) ((((p1 / 10) / 10) - ((p1 / 10) / 10) / 10 * 10).toInt64)) ((6 : Int32).toNatClampNeg) (((((p1 / 10) / 10) / 10) - (((p1 / 10) / 10) / 10) / 10 * 10).toInt64)))))] H := hP
  replace hD : va_D A [(h0, .inr (5, [.ref h2, .ref h3, .ref h4, .ref h5, .int wp4000355])), (h5, .inr (8, [.ref h10, .int wp4000358])), (h10, .inl (y 1, 3, .inr (.inl (fun _ => 0)))), (h2, .inr (8, [.ref h12, .int 0])), (h4, .inr (8, [.ref h7, .int wp4000356])), (h7, .inl (y 1, 18, .inr (.inl (vp_updL (vp_updL (vp_updL (vp_updL wf4000357 ((9 : Int32).toNatClampNeg) ((p1 - p1 / 10 * 10).toInt64)) ((8 : Int32).toNatClampNeg) (((p1 / 10) - (p1 / 10) / 10 * 10).toInt64)) ((7 : Int32).toNatClampNeg) ((((p1 / 10) / 10) - ((p1 / 10) / 10) / 10 * 10).toInt64)) ((6 : Int32).toNatClampNeg) (((((p1 / 10) / 10) / 10) - (((p1 / 10) / 10) / 10) / 10 * 10).toInt64)))))] := hD
  refine lv_iload hx hb dX5_tellSecret_33 (lv_at hl 1 rfl) ?_
  refine lv_bipush (v := 10) hx hb dX5_tellSecret_35 (by decide +kernel) ?_
  refine lv_idiv hx hb dX5_tellSecret_37 (by decide +kernel) ?_
  refine lv_istore (lv' := [(4, .int ((((p1 / 10) / 10) / 10) / 10)), (5, .int 0), (0, .ref h0), (1, .int 1), (2, .int p1), (3, .int 4)]) hx hb dX5_tellSecret_38 hl (by decide) rfl ?_
  clear hl
  clear ls
  intro ls hl
  refine lv_iinc (v := (-1)) (lv' := [(5, .int (-1)), (4, .int ((((p1 / 10) / 10) / 10) / 10)), (0, .ref h0), (1, .int 1), (2, .int p1), (3, .int 4)]) hx hb dX5_tellSecret_40 hl (k := 1) rfl (by decide +kernel) (by decide) rfl ?_
  clear hl
  clear ls
  intro ls hl
  refine lv_goto (tgt := 8) hx hb dX5_tellSecret_43 (by decide) ?_
  refine lv_iload hx hb dX5_tellSecret_8 (lv_at hl 0 rfl) ?_
  refine lv_if_lt (tgt := 46) hx hb dX5_tellSecret_10 (by decide) (fun _ => ?_) (fun c9 => absurd c9 (by decide +kernel))
  refine lv_aload_n hx hb dX5_tellSecret_46 rfl (lv_at hl 2 rfl) ?_
  refine gm_get (D := D) (ci := 5) (v := .ref h5) (C := RX5) (T := TX5) (N := 5) hx hb hg inlX5 hown hK.1 hP 0 rfl rfl 3 (by decide) tX5_3 (hg _ gw_141) rfl dX5_tellSecret_47 ?_
  refine lv_iload_n hx hb dX5_tellSecret_50 rfl (lv_at hl 3 rfl) ?_
  refine lv_iload_n hx hb dX5_tellSecret_51 rfl (lv_at hl 5 rfl) ?_
  refine lv_i2l (v := 4) hx hb dX5_tellSecret_52 (by decide +kernel) ?_
  refine g_av (wr := [(h0, .inr (5, [.ref h2, .ref h3, .ref h4, .ref h5, .int wp4000355])), (h2, .inr (8, [.ref h12, .int 0])), (h4, .inr (8, [.ref h7, .int wp4000356])), (h7, .inl (y 1, 18, .inr (.inl (vp_updL (vp_updL (vp_updL (vp_updL wf4000357 ((9 : Int32).toNatClampNeg) ((p1 - p1 / 10 * 10).toInt64)) ((8 : Int32).toNatClampNeg) (((p1 / 10) - (p1 / 10) / 10 * 10).toInt64)) ((7 : Int32).toNatClampNeg) ((((p1 / 10) / 10) - ((p1 / 10) / 10) / 10 * 10).toInt64)) ((6 : Int32).toNatClampNeg) (((((p1 / 10) / 10) / 10) - (((p1 / 10) / 10) / 10) / 10 * 10).toInt64)))))]) (va_runV (As := [.int 1, .long 4]) (rest := []) ⟨hx, hb, hml, hown, hg⟩ (k_X8_set_25 l D y aS H.size h5 4 h10 wp4000358 (fun _ => 0)) (cwV 2 hg ggV_RX5_29_X8_set rfl rfl rfl (by decide +kernel) ⟨Nat.le_of_ble_eq_true rfl, Nat.le_of_ble_eq_true rfl⟩) (g_preV (q := (RX8, TX8, 2)) hK hP hD [1, 2] rfl (by decide) (ci := 8) (q0 := 1) rfl rfl) rfl rfl hl.1 rfl (lv_room (Nat.le_of_ble_eq_true rfl)) dX5_tellSecret_53 ⟨Nat.le_of_ble_eq_true rfl, Nat.le_of_ble_eq_true rfl⟩) hP hD hS hA [1, 2] [0, 3, 4, 5] rfl rfl (by decide) (by decide) ?_
  clear hP hD hS H locs
  refine fun u H locs hq hP hD hS => ?_
  replace hP : va_P D vwCl [(h0, .inr (5, [.ref h2, .ref h3, .ref h4, .ref h5, .int wp4000355])), (h2, .inr (8, [.ref h12, .int 0])), (h4, .inr (8, [.ref h7, .int wp4000356])), (h7, .inl (y 1, 18, .inr (.inl (vp_updL (vp_updL (vp_updL (vp_updL wf4000357 ((9 : Int32).toNatClampNeg) ((p1 - p1 / 10 * 10).toInt64)) ((8 : Int32).toNatClampNeg) (((p1 / 10) - (p1 / 10) / 10 * 10).toInt64)) ((7 : Int32).toNatClampNeg) ((((p1 / 10) / 10) - ((p1 / 10) / 10) / 10 * 10).toInt64)) ((6 : Int32).toNatClampNeg) (((((p1 / 10) / 10) / 10) - (((p1 / 10) / 10) / 10) / 10 * 10).toInt64))))), (h5, .inr (8, [.ref h10, .int wp4000358])), (h10, .inl (y 1, 3, .inr (.inl (vp_updL (fun _ => 0) ((1 : Int32).toNatClampNeg) 4))))] H := hP
  replace hD : va_D A [(h0, .inr (5, [.ref h2, .ref h3, .ref h4, .ref h5, .int wp4000355])), (h2, .inr (8, [.ref h12, .int 0])), (h4, .inr (8, [.ref h7, .int wp4000356])), (h7, .inl (y 1, 18, .inr (.inl (vp_updL (vp_updL (vp_updL (vp_updL wf4000357 ((9 : Int32).toNatClampNeg) ((p1 - p1 / 10 * 10).toInt64)) ((8 : Int32).toNatClampNeg) (((p1 / 10) - (p1 / 10) / 10 * 10).toInt64)) ((7 : Int32).toNatClampNeg) ((((p1 / 10) / 10) - ((p1 / 10) / 10) / 10 * 10).toInt64)) ((6 : Int32).toNatClampNeg) (((((p1 / 10) / 10) / 10) - (((p1 / 10) / 10) / 10) / 10 * 10).toInt64))))), (h5, .inr (8, [.ref h10, .int wp4000358])), (h10, .inl (y 1, 3, .inr (.inl (vp_updL (fun _ => 0) ((1 : Int32).toNatClampNeg) 4))))] := hD
  refine lv_aload_n hx hb dX5_tellSecret_56 rfl (lv_at hl 2 rfl) ?_
  refine g_av (wr := [(h4, .inr (8, [.ref h7, .int wp4000356])), (h7, .inl (y 1, 18, .inr (.inl (vp_updL (vp_updL (vp_updL (vp_updL wf4000357 ((9 : Int32).toNatClampNeg) ((p1 - p1 / 10 * 10).toInt64)) ((8 : Int32).toNatClampNeg) (((p1 / 10) - (p1 / 10) / 10 * 10).toInt64)) ((7 : Int32).toNatClampNeg) ((((p1 / 10) / 10) - ((p1 / 10) / 10) / 10 * 10).toInt64)) ((6 : Int32).toNatClampNeg) (((((p1 / 10) / 10) / 10) - (((p1 / 10) / 10) / 10) / 10 * 10).toInt64))))), (h5, .inr (8, [.ref h10, .int wp4000358])), (h10, .inl (y 1, 3, .inr (.inl (vp_updL (fun _ => 0) ((1 : Int32).toNatClampNeg) 4))))]) (va_runV (As := []) (rest := []) ⟨hx, hb, hml, hown, hg⟩ (k_X5_findOut_0 l D y aS H.size h0 h2 h3 h4 h5 wp4000355 h12) (cwV 0 hg ggV_RX5_33_X5_findOut rfl rfl rfl (by decide +kernel) ⟨Nat.le_of_ble_eq_true rfl, Nat.le_of_ble_eq_true rfl⟩) (g_preV (q := (RX5, TX5, 5)) hK hP hD [0, 1] rfl (by decide) (ci := 5) (q0 := 0) rfl rfl) rfl rfl hl.1 rfl (lv_room (Nat.le_of_ble_eq_true rfl)) dX5_tellSecret_57 ⟨Nat.le_of_ble_eq_true rfl, Nat.le_of_ble_eq_true rfl⟩) hP hD hS hA [0, 1] [2, 3, 4, 5] rfl rfl (by decide) (by decide) ?_
  clear hP hD hS H locs
  refine fun u H locs hq hP hD hS => ?_
  replace hP : va_P D vwCl [(h4, .inr (8, [.ref h7, .int wp4000356])), (h7, .inl (y 1, 18, .inr (.inl (vp_updL (vp_updL (vp_updL (vp_updL wf4000357 ((9 : Int32).toNatClampNeg) ((p1 - p1 / 10 * 10).toInt64)) ((8 : Int32).toNatClampNeg) (((p1 / 10) - (p1 / 10) / 10 * 10).toInt64)) ((7 : Int32).toNatClampNeg) ((((p1 / 10) / 10) - ((p1 / 10) / 10) / 10 * 10).toInt64)) ((6 : Int32).toNatClampNeg) (((((p1 / 10) / 10) / 10) - (((p1 / 10) / 10) / 10) / 10 * 10).toInt64))))), (h5, .inr (8, [.ref h10, .int wp4000358])), (h10, .inl (y 1, 3, .inr (.inl (vp_updL (fun _ => 0) ((1 : Int32).toNatClampNeg) 4)))), (h0, .inr (5, [.ref h2, .ref h3, .ref h4, .ref h5, .int 0])), (h2, .inr (8, [.ref h12, .int 0]))] H := hP
  replace hD : va_D A [(h4, .inr (8, [.ref h7, .int wp4000356])), (h7, .inl (y 1, 18, .inr (.inl (vp_updL (vp_updL (vp_updL (vp_updL wf4000357 ((9 : Int32).toNatClampNeg) ((p1 - p1 / 10 * 10).toInt64)) ((8 : Int32).toNatClampNeg) (((p1 / 10) - (p1 / 10) / 10 * 10).toInt64)) ((7 : Int32).toNatClampNeg) ((((p1 / 10) / 10) - ((p1 / 10) / 10) / 10 * 10).toInt64)) ((6 : Int32).toNatClampNeg) (((((p1 / 10) / 10) / 10) - (((p1 / 10) / 10) / 10) / 10 * 10).toInt64))))), (h5, .inr (8, [.ref h10, .int wp4000358])), (h10, .inl (y 1, 3, .inr (.inl (vp_updL (fun _ => 0) ((1 : Int32).toNatClampNeg) 4)))), (h0, .inr (5, [.ref h2, .ref h3, .ref h4, .ref h5, .int 0])), (h2, .inr (8, [.ref h12, .int 0]))] := hD
  refine lv_iconst (v := 0) hx hb dX5_tellSecret_60 (by decide) ?_
  refine lv_istore (lv' := [(5, .int 0), (4, .int ((((p1 / 10) / 10) / 10) / 10)), (0, .ref h0), (1, .int 1), (2, .int p1), (3, .int 4)]) hx hb dX5_tellSecret_61 hl (by decide) rfl ?_
  clear hl
  clear ls
  intro ls hl
  refine lv_iconst (v := 0) hx hb dX5_tellSecret_63 (by decide) ?_
  refine lv_istore (lv' := [(6, .int 0), (5, .int 0), (4, .int ((((p1 / 10) / 10) / 10) / 10)), (0, .ref h0), (1, .int 1), (2, .int p1), (3, .int 4)]) hx hb dX5_tellSecret_64 hl (by decide) rfl ?_
  clear hl
  clear ls
  intro ls hl
  refine lv_iload hx hb dX5_tellSecret_66 (lv_at hl 0 rfl) ?_
  refine lv_iconst (v := 3) hx hb dX5_tellSecret_68 (by decide) ?_
  refine lv_icmp_ge (tgt := 95) hx hb dX5_tellSecret_69 (by decide) (fun c9 => absurd c9 (by decide +kernel)) (fun _ => ?_)
  refine lv_aload_n hx hb dX5_tellSecret_72 rfl (lv_at hl 3 rfl) ?_
  refine gm_get (D := D) (ci := 5) (v := .ref h5) (C := RX5) (T := TX5) (N := 5) hx hb hg inlX5 hown hK.1 hP 4 rfl rfl 3 (by decide) tX5_3 (hg _ gw_141) rfl dX5_tellSecret_73 ?_
  refine lv_iload hx hb dX5_tellSecret_76 (lv_at hl 0 rfl) ?_
  refine g_al (wr := [(h4, .inr (8, [.ref h7, .int wp4000356])), (h7, .inl (y 1, 18, .inr (.inl (vp_updL (vp_updL (vp_updL (vp_updL wf4000357 ((9 : Int32).toNatClampNeg) ((p1 - p1 / 10 * 10).toInt64)) ((8 : Int32).toNatClampNeg) (((p1 / 10) - (p1 / 10) / 10 * 10).toInt64)) ((7 : Int32).toNatClampNeg) ((((p1 / 10) / 10) - ((p1 / 10) / 10) / 10 * 10).toInt64)) ((6 : Int32).toNatClampNeg) (((((p1 / 10) / 10) / 10) - (((p1 / 10) / 10) / 10) / 10 * 10).toInt64))))), (h0, .inr (5, [.ref h2, .ref h3, .ref h4, .ref h5, .int 0])), (h2, .inr (8, [.ref h12, .int 0]))]) (va_runV (As := [.int 0]) (rest := []) ⟨hx, hb, hml, hown, hg⟩ (k_X8_get_23 l D y aS H.size h5 h10 wp4000358) (cwV 1 hg ggV_RX5_36_X8_get rfl rfl rfl (by decide +kernel) ⟨Nat.le_of_ble_eq_true rfl, Nat.le_of_ble_eq_true rfl⟩) (g_preV (q := (RX8, TX8, 2)) hK hP hD [2, 3] rfl (by decide) (ci := 8) (q0 := 2) rfl rfl) rfl rfl hl.1 rfl (lv_room (Nat.le_of_ble_eq_true rfl)) dX5_tellSecret_78 ⟨Nat.le_of_ble_eq_true rfl, Nat.le_of_ble_eq_true rfl⟩) hP hD hS hA [2, 3] [0, 1, 4, 5] rfl rfl (by decide) (by decide) ?_
  clear hP hD hS H locs
  refine fun r4000365 u H locs hq hP hD hS => ?_
  subst hq
  replace hP : va_P D vwCl [(h4, .inr (8, [.ref h7, .int wp4000356])), (h7, .inl (y 1, 18, .inr (.inl (vp_updL (vp_updL (vp_updL (vp_updL wf4000357 ((9 : Int32).toNatClampNeg) ((p1 - p1 / 10 * 10).toInt64)) ((8 : Int32).toNatClampNeg) (((p1 / 10) - (p1 / 10) / 10 * 10).toInt64)) ((7 : Int32).toNatClampNeg) ((((p1 / 10) / 10) - ((p1 / 10) / 10) / 10 * 10).toInt64)) ((6 : Int32).toNatClampNeg) (((((p1 / 10) / 10) / 10) - (((p1 / 10) / 10) / 10) / 10 * 10).toInt64))))), (h0, .inr (5, [.ref h2, .ref h3, .ref h4, .ref h5, .int 0])), (h2, .inr (8, [.ref h12, .int 0])), (h5, .inr (8, [.ref h10, .int wp4000358])), (h10, .inl (y 1, 3, .inr (.inl (vp_updL (fun _ => 0) ((1 : Int32).toNatClampNeg) 4))))] H := hP
  replace hD : va_D A [(h4, .inr (8, [.ref h7, .int wp4000356])), (h7, .inl (y 1, 18, .inr (.inl (vp_updL (vp_updL (vp_updL (vp_updL wf4000357 ((9 : Int32).toNatClampNeg) ((p1 - p1 / 10 * 10).toInt64)) ((8 : Int32).toNatClampNeg) (((p1 / 10) - (p1 / 10) / 10 * 10).toInt64)) ((7 : Int32).toNatClampNeg) ((((p1 / 10) / 10) - ((p1 / 10) / 10) / 10 * 10).toInt64)) ((6 : Int32).toNatClampNeg) (((((p1 / 10) / 10) / 10) - (((p1 / 10) / 10) / 10) / 10 * 10).toInt64))))), (h0, .inr (5, [.ref h2, .ref h3, .ref h4, .ref h5, .int 0])), (h2, .inr (8, [.ref h12, .int 0])), (h5, .inr (8, [.ref h10, .int wp4000358])), (h10, .inl (y 1, 3, .inr (.inl (vp_updL (fun _ => 0) ((1 : Int32).toNatClampNeg) 4))))] := hD
  refine lv_lconst (v := 0) hx hb dX5_tellSecret_81 (by decide) ?_
  refine W.lcmp hx hb dX5_tellSecret_82 ?_
  refine g_fi (v := 0) (by decide +kernel) ?_
  refine lv_if_le (tgt := 89) hx hb dX5_tellSecret_83 (by decide) (fun _ => ?_) (fun c9 => absurd c9 (by decide +kernel))
  refine lv_iinc (v := 1) (lv' := [(6, .int 1), (5, .int 0), (4, .int ((((p1 / 10) / 10) / 10) / 10)), (0, .ref h0), (1, .int 1), (2, .int p1), (3, .int 4)]) hx hb dX5_tellSecret_89 hl (k := 0) rfl (by decide +kernel) (by decide) rfl ?_
  clear hl
  clear ls
  intro ls hl
  refine lv_goto (tgt := 66) hx hb dX5_tellSecret_92 (by decide) ?_
  refine lv_iload hx hb dX5_tellSecret_66 (lv_at hl 0 rfl) ?_
  refine lv_iconst (v := 3) hx hb dX5_tellSecret_68 (by decide) ?_
  refine lv_icmp_ge (tgt := 95) hx hb dX5_tellSecret_69 (by decide) (fun c9 => absurd c9 (by decide +kernel)) (fun _ => ?_)
  refine lv_aload_n hx hb dX5_tellSecret_72 rfl (lv_at hl 3 rfl) ?_
  refine gm_get (D := D) (ci := 5) (v := .ref h5) (C := RX5) (T := TX5) (N := 5) hx hb hg inlX5 hown hK.1 hP 2 rfl rfl 3 (by decide) tX5_3 (hg _ gw_141) rfl dX5_tellSecret_73 ?_
  refine lv_iload hx hb dX5_tellSecret_76 (lv_at hl 0 rfl) ?_
  refine g_al (wr := [(h4, .inr (8, [.ref h7, .int wp4000356])), (h7, .inl (y 1, 18, .inr (.inl (vp_updL (vp_updL (vp_updL (vp_updL wf4000357 ((9 : Int32).toNatClampNeg) ((p1 - p1 / 10 * 10).toInt64)) ((8 : Int32).toNatClampNeg) (((p1 / 10) - (p1 / 10) / 10 * 10).toInt64)) ((7 : Int32).toNatClampNeg) ((((p1 / 10) / 10) - ((p1 / 10) / 10) / 10 * 10).toInt64)) ((6 : Int32).toNatClampNeg) (((((p1 / 10) / 10) / 10) - (((p1 / 10) / 10) / 10) / 10 * 10).toInt64))))), (h0, .inr (5, [.ref h2, .ref h3, .ref h4, .ref h5, .int 0])), (h2, .inr (8, [.ref h12, .int 0]))]) (va_runV (As := [.int 1]) (rest := []) ⟨hx, hb, hml, hown, hg⟩ (k_X8_get_24 l D y aS H.size h5 h10 wp4000358) (cwV 1 hg ggV_RX5_36_X8_get rfl rfl rfl (by decide +kernel) ⟨Nat.le_of_ble_eq_true rfl, Nat.le_of_ble_eq_true rfl⟩) (g_preV (q := (RX8, TX8, 2)) hK hP hD [4, 5] rfl (by decide) (ci := 8) (q0 := 4) rfl rfl) rfl rfl hl.1 rfl (lv_room (Nat.le_of_ble_eq_true rfl)) dX5_tellSecret_78 ⟨Nat.le_of_ble_eq_true rfl, Nat.le_of_ble_eq_true rfl⟩) hP hD hS hA [4, 5] [0, 1, 2, 3] rfl rfl (by decide) (by decide) ?_
  clear hP hD hS H locs
  refine fun r4000366 u H locs hq hP hD hS => ?_
  subst hq
  replace hP : va_P D vwCl [(h4, .inr (8, [.ref h7, .int wp4000356])), (h7, .inl (y 1, 18, .inr (.inl (vp_updL (vp_updL (vp_updL (vp_updL wf4000357 ((9 : Int32).toNatClampNeg) ((p1 - p1 / 10 * 10).toInt64)) ((8 : Int32).toNatClampNeg) (((p1 / 10) - (p1 / 10) / 10 * 10).toInt64)) ((7 : Int32).toNatClampNeg) ((((p1 / 10) / 10) - ((p1 / 10) / 10) / 10 * 10).toInt64)) ((6 : Int32).toNatClampNeg) (((((p1 / 10) / 10) / 10) - (((p1 / 10) / 10) / 10) / 10 * 10).toInt64))))), (h0, .inr (5, [.ref h2, .ref h3, .ref h4, .ref h5, .int 0])), (h2, .inr (8, [.ref h12, .int 0])), (h5, .inr (8, [.ref h10, .int wp4000358])), (h10, .inl (y 1, 3, .inr (.inl (vp_updL (fun _ => 0) ((1 : Int32).toNatClampNeg) 4))))] H := hP
  replace hD : va_D A [(h4, .inr (8, [.ref h7, .int wp4000356])), (h7, .inl (y 1, 18, .inr (.inl (vp_updL (vp_updL (vp_updL (vp_updL wf4000357 ((9 : Int32).toNatClampNeg) ((p1 - p1 / 10 * 10).toInt64)) ((8 : Int32).toNatClampNeg) (((p1 / 10) - (p1 / 10) / 10 * 10).toInt64)) ((7 : Int32).toNatClampNeg) ((((p1 / 10) / 10) - ((p1 / 10) / 10) / 10 * 10).toInt64)) ((6 : Int32).toNatClampNeg) (((((p1 / 10) / 10) / 10) - (((p1 / 10) / 10) / 10) / 10 * 10).toInt64))))), (h0, .inr (5, [.ref h2, .ref h3, .ref h4, .ref h5, .int 0])), (h2, .inr (8, [.ref h12, .int 0])), (h5, .inr (8, [.ref h10, .int wp4000358])), (h10, .inl (y 1, 3, .inr (.inl (vp_updL (fun _ => 0) ((1 : Int32).toNatClampNeg) 4))))] := hD
  refine lv_lconst (v := 0) hx hb dX5_tellSecret_81 (by decide) ?_
  refine W.lcmp hx hb dX5_tellSecret_82 ?_
  refine g_fi (v := 1) (by decide +kernel) ?_
  refine lv_if_le (tgt := 89) hx hb dX5_tellSecret_83 (by decide) (fun c9 => absurd c9 (by decide +kernel)) (fun _ => ?_)
  refine lv_iinc (v := 1) (lv' := [(5, .int 1), (6, .int 1), (4, .int ((((p1 / 10) / 10) / 10) / 10)), (0, .ref h0), (1, .int 1), (2, .int p1), (3, .int 4)]) hx hb dX5_tellSecret_86 hl (k := 1) rfl (by decide +kernel) (by decide) rfl ?_
  clear hl
  clear ls
  intro ls hl
  refine lv_iinc (v := 2) (lv' := [(6, .int 2), (5, .int 1), (4, .int ((((p1 / 10) / 10) / 10) / 10)), (0, .ref h0), (1, .int 1), (2, .int p1), (3, .int 4)]) hx hb dX5_tellSecret_89 hl (k := 1) rfl (by decide +kernel) (by decide) rfl ?_
  clear hl
  clear ls
  intro ls hl
  refine lv_goto (tgt := 66) hx hb dX5_tellSecret_92 (by decide) ?_
  refine lv_iload hx hb dX5_tellSecret_66 (lv_at hl 0 rfl) ?_
  refine lv_iconst (v := 3) hx hb dX5_tellSecret_68 (by decide) ?_
  refine lv_icmp_ge (tgt := 95) hx hb dX5_tellSecret_69 (by decide) (fun c9 => absurd c9 (by decide +kernel)) (fun _ => ?_)
  refine lv_aload_n hx hb dX5_tellSecret_72 rfl (lv_at hl 3 rfl) ?_
  refine gm_get (D := D) (ci := 5) (v := .ref h5) (C := RX5) (T := TX5) (N := 5) hx hb hg inlX5 hown hK.1 hP 2 rfl rfl 3 (by decide) tX5_3 (hg _ gw_141) rfl dX5_tellSecret_73 ?_
  refine lv_iload hx hb dX5_tellSecret_76 (lv_at hl 0 rfl) ?_
  refine g_al (wr := [(h4, .inr (8, [.ref h7, .int wp4000356])), (h7, .inl (y 1, 18, .inr (.inl (vp_updL (vp_updL (vp_updL (vp_updL wf4000357 ((9 : Int32).toNatClampNeg) ((p1 - p1 / 10 * 10).toInt64)) ((8 : Int32).toNatClampNeg) (((p1 / 10) - (p1 / 10) / 10 * 10).toInt64)) ((7 : Int32).toNatClampNeg) ((((p1 / 10) / 10) - ((p1 / 10) / 10) / 10 * 10).toInt64)) ((6 : Int32).toNatClampNeg) (((((p1 / 10) / 10) / 10) - (((p1 / 10) / 10) / 10) / 10 * 10).toInt64))))), (h0, .inr (5, [.ref h2, .ref h3, .ref h4, .ref h5, .int 0])), (h2, .inr (8, [.ref h12, .int 0]))]) (va_runV (As := [.int 2]) (rest := []) ⟨hx, hb, hml, hown, hg⟩ (k_X8_get_25 l D y aS H.size h5 h10 wp4000358) (cwV 1 hg ggV_RX5_36_X8_get rfl rfl rfl (by decide +kernel) ⟨Nat.le_of_ble_eq_true rfl, Nat.le_of_ble_eq_true rfl⟩) (g_preV (q := (RX8, TX8, 2)) hK hP hD [4, 5] rfl (by decide) (ci := 8) (q0 := 4) rfl rfl) rfl rfl hl.1 rfl (lv_room (Nat.le_of_ble_eq_true rfl)) dX5_tellSecret_78 ⟨Nat.le_of_ble_eq_true rfl, Nat.le_of_ble_eq_true rfl⟩) hP hD hS hA [4, 5] [0, 1, 2, 3] rfl rfl (by decide) (by decide) ?_
  clear hP hD hS H locs
  refine fun r4000367 u H locs hq hP hD hS => ?_
  subst hq
  replace hP : va_P D vwCl [(h4, .inr (8, [.ref h7, .int wp4000356])), (h7, .inl (y 1, 18, .inr (.inl (vp_updL (vp_updL (vp_updL (vp_updL wf4000357 ((9 : Int32).toNatClampNeg) ((p1 - p1 / 10 * 10).toInt64)) ((8 : Int32).toNatClampNeg) (((p1 / 10) - (p1 / 10) / 10 * 10).toInt64)) ((7 : Int32).toNatClampNeg) ((((p1 / 10) / 10) - ((p1 / 10) / 10) / 10 * 10).toInt64)) ((6 : Int32).toNatClampNeg) (((((p1 / 10) / 10) / 10) - (((p1 / 10) / 10) / 10) / 10 * 10).toInt64))))), (h0, .inr (5, [.ref h2, .ref h3, .ref h4, .ref h5, .int 0])), (h2, .inr (8, [.ref h12, .int 0])), (h5, .inr (8, [.ref h10, .int wp4000358])), (h10, .inl (y 1, 3, .inr (.inl (vp_updL (fun _ => 0) ((1 : Int32).toNatClampNeg) 4))))] H := hP
  replace hD : va_D A [(h4, .inr (8, [.ref h7, .int wp4000356])), (h7, .inl (y 1, 18, .inr (.inl (vp_updL (vp_updL (vp_updL (vp_updL wf4000357 ((9 : Int32).toNatClampNeg) ((p1 - p1 / 10 * 10).toInt64)) ((8 : Int32).toNatClampNeg) (((p1 / 10) - (p1 / 10) / 10 * 10).toInt64)) ((7 : Int32).toNatClampNeg) ((((p1 / 10) / 10) - ((p1 / 10) / 10) / 10 * 10).toInt64)) ((6 : Int32).toNatClampNeg) (((((p1 / 10) / 10) / 10) - (((p1 / 10) / 10) / 10) / 10 * 10).toInt64))))), (h0, .inr (5, [.ref h2, .ref h3, .ref h4, .ref h5, .int 0])), (h2, .inr (8, [.ref h12, .int 0])), (h5, .inr (8, [.ref h10, .int wp4000358])), (h10, .inl (y 1, 3, .inr (.inl (vp_updL (fun _ => 0) ((1 : Int32).toNatClampNeg) 4))))] := hD
  refine lv_lconst (v := 0) hx hb dX5_tellSecret_81 (by decide) ?_
  refine W.lcmp hx hb dX5_tellSecret_82 ?_
  refine g_fi (v := 0) (by decide +kernel) ?_
  refine lv_if_le (tgt := 89) hx hb dX5_tellSecret_83 (by decide) (fun _ => ?_) (fun c9 => absurd c9 (by decide +kernel))
  refine lv_iinc (v := 3) (lv' := [(6, .int 3), (5, .int 1), (4, .int ((((p1 / 10) / 10) / 10) / 10)), (0, .ref h0), (1, .int 1), (2, .int p1), (3, .int 4)]) hx hb dX5_tellSecret_89 hl (k := 0) rfl (by decide +kernel) (by decide) rfl ?_
  clear hl
  clear ls
  intro ls hl
  refine lv_goto (tgt := 66) hx hb dX5_tellSecret_92 (by decide) ?_
  refine lv_iload hx hb dX5_tellSecret_66 (lv_at hl 0 rfl) ?_
  refine lv_iconst (v := 3) hx hb dX5_tellSecret_68 (by decide) ?_
  refine lv_icmp_ge (tgt := 95) hx hb dX5_tellSecret_69 (by decide) (fun _ => ?_) (fun c9 => absurd c9 (by decide +kernel))
  refine lv_iload hx hb dX5_tellSecret_95 (lv_at hl 1 rfl) ?_
  exact g_iret hx hb hr hlocks () (hP.sub [2, 0, 1, 4, 5, 3] rfl) (hD.sub [2, 0, 1, 4, 5, 3] (by decide +kernel) rfl) hS rfl rfl (Nat.le_of_ble_eq_true rfl) (Nat.le_of_ble_eq_true rfl) dX5_tellSecret_97
set_option maxRecDepth 100000 in
set_option maxHeartbeats 4000000 in
theorem k_X8_set_38 (l : Launch) (D : va_G) (y : Nat → ClassId) (aS : Nat → Nat) (sz : Nat) (h0 : Nat) (p1 : Int64) (h2 : Nat) (wp4000370 : Int32) (wf4000371 : Nat → Int64) : Met l yX8_set (Cond.code yX8_set cX8_set 4 none :: wsL_law) ({ frames := 0, cells := 0, slots := 0, locals := 0 } : Room) (va_Pc [.ref h0, .int 15, .long p1] (gI D y aS [(h0, .inr (8, [.ref h2, .int wp4000370])), (h2, .inl (y 1, 18, .inr (.inl wf4000371)))] sz)) (va_Qv (fun (u : Unit) => True) (fun u => gO D (va_A [(h0, .inr (8, [.ref h2, .int wp4000370])), (h2, .inl (y 1, 18, .inr (.inl wf4000371)))] sz) [(h0, .inr (8, [.ref h2, .int wp4000370])), (h2, .inl (y 1, 18, .inr (.inl (vp_updL wf4000371 ((15 : Int32).toNatClampNeg) p1))))]) (va_A [(h0, .inr (8, [.ref h2, .int wp4000370])), (h2, .inl (y 1, 18, .inr (.inl wf4000371)))] sz)) 0 0 (va_A [(h0, .inr (8, [.ref h2, .int wp4000370])), (h2, .inl (y 1, 18, .inr (.inl wf4000371)))] sz) := by
  refine g_of (by decide) (Nat.le_of_ble_eq_true rfl) ?_
  intro p e s m below meth c ls A hx hb hr hml hown hg hlocks hin hsz hK hP hD hS hA hAe hl
  rw [← hAe]
  replace hown : s.vm.findClass RX8 = some m.cls := hown
  replace hl : lv_has ls 4 [(0, .ref h0), (1, .int 15), (2, .long p1)] := hl
  refine lv_iload_n hx hb dX8_set_0 rfl (lv_at hl 1 rfl) ?_
  refine lv_if_lt (tgt := 20) hx hb dX8_set_1 (by decide) (fun c9 => absurd c9 (by decide +kernel)) (fun _ => ?_)
  refine lv_iload_n hx hb dX8_set_4 rfl (lv_at hl 1 rfl) ?_
  refine lv_aload_n hx hb dX8_set_5 rfl (lv_at hl 0 rfl) ?_
  refine gm_get (D := D) (ci := 8) (v := .ref h2) (C := RX8) (T := TX8) (N := 2) hx hb hg inlX8 hown hK.1 hP 0 rfl rfl 0 (by decide) tX8_0 (hg _ gw_98) rfl dX8_set_6 ?_
  refine va_alen hx hb hK.1 hP 1 1 rfl rfl (v := 18) rfl dX8_set_9 ?_
  refine lv_icmp_ge (tgt := 20) hx hb dX8_set_10 (by decide) (fun c9 => absurd c9 (by decide +kernel)) (fun _ => ?_)
  refine lv_aload_n hx hb dX8_set_13 rfl (lv_at hl 0 rfl) ?_
  refine gm_get (D := D) (ci := 8) (v := .ref h2) (C := RX8) (T := TX8) (N := 2) hx hb hg inlX8 hown hK.1 hP 0 rfl rfl 0 (by decide) tX8_0 (hg _ gw_98) rfl dX8_set_14 ?_
  refine lv_iload_n hx hb dX8_set_17 rfl (lv_at hl 1 rfl) ?_
  refine lv_lload_n hx hb dX8_set_18 rfl (lv_at hl 2 rfl) ?_
  refine va_last hx hb hK.1 hP hD hS 1 1 rfl rfl (by unfold vp_in; decide +kernel) dX8_set_19 ?_
  clear hP hD hS
  refine fun H locs (hP : va_P D vwCl [(h0, .inr (8, [.ref h2, .int wp4000370])), (h2, .inl (y 1, 18, .inr (.inl (vp_updL wf4000371 ((15 : Int32).toNatClampNeg) p1))))] H) (hD : va_D A [(h0, .inr (8, [.ref h2, .int wp4000370])), (h2, .inl (y 1, 18, .inr (.inl (vp_updL wf4000371 ((15 : Int32).toNatClampNeg) p1))))]) hS => ?_
  exact g_vret hx hb hr hlocks () hP hD hS trivial (Nat.le_of_ble_eq_true rfl) (Nat.le_of_ble_eq_true rfl) dX8_set_20
set_option maxRecDepth 100000 in
set_option maxHeartbeats 4000000 in
theorem k_X8_get_26 (l : Launch) (D : va_G) (y : Nat → ClassId) (aS : Nat → Nat) (sz : Nat) (h0 : Nat) (h1 : Nat) (wp4000378 : Int32) : Met l yX8_get (Cond.code yX8_get cX8_get 2 (some .long) :: wsL_law) ({ frames := 0, cells := 0, slots := 0, locals := 0 } : Room) (va_Pc [.ref h0, .int 0] (gI D y aS [(h0, .inr (8, [.ref h1, .int wp4000378])), (h1, .inl (y 1, 3, .inr (.inl (vp_updL (fun _ => 0) ((2 : Int32).toNatClampNeg) 4))))] sz)) (va_Ql (fun (r : Int64) (u : Unit) => 0 = r) (fun u => gO D (va_A [(h0, .inr (8, [.ref h1, .int wp4000378])), (h1, .inl (y 1, 3, .inr (.inl (vp_updL (fun _ => 0) ((2 : Int32).toNatClampNeg) 4))))] sz) [(h0, .inr (8, [.ref h1, .int wp4000378])), (h1, .inl (y 1, 3, .inr (.inl (vp_updL (fun _ => 0) ((2 : Int32).toNatClampNeg) 4))))]) (va_A [(h0, .inr (8, [.ref h1, .int wp4000378])), (h1, .inl (y 1, 3, .inr (.inl (vp_updL (fun _ => 0) ((2 : Int32).toNatClampNeg) 4))))] sz)) 0 0 (va_A [(h0, .inr (8, [.ref h1, .int wp4000378])), (h1, .inl (y 1, 3, .inr (.inl (vp_updL (fun _ => 0) ((2 : Int32).toNatClampNeg) 4))))] sz) := by
  refine g_of (by decide) (Nat.le_of_ble_eq_true rfl) ?_
  intro p e s m below meth c ls A hx hb hr hml hown hg hlocks hin hsz hK hP hD hS hA hAe hl
  rw [← hAe]
  replace hown : s.vm.findClass RX8 = some m.cls := hown
  replace hl : lv_has ls 2 [(0, .ref h0), (1, .int 0)] := hl
  refine lv_iload_n hx hb dX8_get_0 rfl (lv_at hl 1 rfl) ?_
  refine lv_if_lt (tgt := 22) hx hb dX8_get_1 (by decide) (fun c9 => absurd c9 (by decide +kernel)) (fun _ => ?_)
  refine lv_iload_n hx hb dX8_get_4 rfl (lv_at hl 1 rfl) ?_
  refine lv_aload_n hx hb dX8_get_5 rfl (lv_at hl 0 rfl) ?_
  refine gm_get (D := D) (ci := 8) (v := .ref h1) (C := RX8) (T := TX8) (N := 2) hx hb hg inlX8 hown hK.1 hP 0 rfl rfl 0 (by decide) tX8_0 (hg _ gw_98) rfl dX8_get_6 ?_
  refine va_alen hx hb hK.1 hP 1 1 rfl rfl (v := 3) rfl dX8_get_9 ?_
  refine lv_icmp_ge (tgt := 22) hx hb dX8_get_10 (by decide) (fun c9 => absurd c9 (by decide +kernel)) (fun _ => ?_)
  refine lv_aload_n hx hb dX8_get_13 rfl (lv_at hl 0 rfl) ?_
  refine gm_get (D := D) (ci := 8) (v := .ref h1) (C := RX8) (T := TX8) (N := 2) hx hb hg inlX8 hown hK.1 hP 0 rfl rfl 0 (by decide) tX8_0 (hg _ gw_98) rfl dX8_get_14 ?_
  refine lv_iload_n hx hb dX8_get_17 rfl (lv_at hl 1 rfl) ?_
  refine va_lald hx hb hK.1 hP 1 1 rfl rfl (by unfold vp_in; decide +kernel) dX8_get_18 ?_
  refine g_fj (v := 0) (by rfl) ?_
  refine lv_goto (tgt := 23) hx hb dX8_get_19 (by decide) ?_
  exact g_lret hx hb hr hlocks () hP hD hS rfl (Nat.le_of_ble_eq_true rfl) (Nat.le_of_ble_eq_true rfl) dX8_get_23
set_option maxRecDepth 100000 in
set_option maxHeartbeats 4000000 in
theorem k_X8_get_27 (l : Launch) (D : va_G) (y : Nat → ClassId) (aS : Nat → Nat) (sz : Nat) (h0 : Nat) (h1 : Nat) (wp4000380 : Int32) : Met l yX8_get (Cond.code yX8_get cX8_get 2 (some .long) :: wsL_law) ({ frames := 0, cells := 0, slots := 0, locals := 0 } : Room) (va_Pc [.ref h0, .int 1] (gI D y aS [(h0, .inr (8, [.ref h1, .int wp4000380])), (h1, .inl (y 1, 3, .inr (.inl (vp_updL (fun _ => 0) ((2 : Int32).toNatClampNeg) 4))))] sz)) (va_Ql (fun (r : Int64) (u : Unit) => 0 = r) (fun u => gO D (va_A [(h0, .inr (8, [.ref h1, .int wp4000380])), (h1, .inl (y 1, 3, .inr (.inl (vp_updL (fun _ => 0) ((2 : Int32).toNatClampNeg) 4))))] sz) [(h0, .inr (8, [.ref h1, .int wp4000380])), (h1, .inl (y 1, 3, .inr (.inl (vp_updL (fun _ => 0) ((2 : Int32).toNatClampNeg) 4))))]) (va_A [(h0, .inr (8, [.ref h1, .int wp4000380])), (h1, .inl (y 1, 3, .inr (.inl (vp_updL (fun _ => 0) ((2 : Int32).toNatClampNeg) 4))))] sz)) 0 0 (va_A [(h0, .inr (8, [.ref h1, .int wp4000380])), (h1, .inl (y 1, 3, .inr (.inl (vp_updL (fun _ => 0) ((2 : Int32).toNatClampNeg) 4))))] sz) := by
  refine g_of (by decide) (Nat.le_of_ble_eq_true rfl) ?_
  intro p e s m below meth c ls A hx hb hr hml hown hg hlocks hin hsz hK hP hD hS hA hAe hl
  rw [← hAe]
  replace hown : s.vm.findClass RX8 = some m.cls := hown
  replace hl : lv_has ls 2 [(0, .ref h0), (1, .int 1)] := hl
  refine lv_iload_n hx hb dX8_get_0 rfl (lv_at hl 1 rfl) ?_
  refine lv_if_lt (tgt := 22) hx hb dX8_get_1 (by decide) (fun c9 => absurd c9 (by decide +kernel)) (fun _ => ?_)
  refine lv_iload_n hx hb dX8_get_4 rfl (lv_at hl 1 rfl) ?_
  refine lv_aload_n hx hb dX8_get_5 rfl (lv_at hl 0 rfl) ?_
  refine gm_get (D := D) (ci := 8) (v := .ref h1) (C := RX8) (T := TX8) (N := 2) hx hb hg inlX8 hown hK.1 hP 0 rfl rfl 0 (by decide) tX8_0 (hg _ gw_98) rfl dX8_get_6 ?_
  refine va_alen hx hb hK.1 hP 1 1 rfl rfl (v := 3) rfl dX8_get_9 ?_
  refine lv_icmp_ge (tgt := 22) hx hb dX8_get_10 (by decide) (fun c9 => absurd c9 (by decide +kernel)) (fun _ => ?_)
  refine lv_aload_n hx hb dX8_get_13 rfl (lv_at hl 0 rfl) ?_
  refine gm_get (D := D) (ci := 8) (v := .ref h1) (C := RX8) (T := TX8) (N := 2) hx hb hg inlX8 hown hK.1 hP 0 rfl rfl 0 (by decide) tX8_0 (hg _ gw_98) rfl dX8_get_14 ?_
  refine lv_iload_n hx hb dX8_get_17 rfl (lv_at hl 1 rfl) ?_
  refine va_lald hx hb hK.1 hP 1 1 rfl rfl (by unfold vp_in; decide +kernel) dX8_get_18 ?_
  refine g_fj (v := 0) (by rfl) ?_
  refine lv_goto (tgt := 23) hx hb dX8_get_19 (by decide) ?_
  exact g_lret hx hb hr hlocks () hP hD hS rfl (Nat.le_of_ble_eq_true rfl) (Nat.le_of_ble_eq_true rfl) dX8_get_23
set_option maxRecDepth 100000 in
set_option maxHeartbeats 4000000 in
theorem k_X8_get_28 (l : Launch) (D : va_G) (y : Nat → ClassId) (aS : Nat → Nat) (sz : Nat) (h0 : Nat) (h1 : Nat) (wp4000382 : Int32) : Met l yX8_get (Cond.code yX8_get cX8_get 2 (some .long) :: wsL_law) ({ frames := 0, cells := 0, slots := 0, locals := 0 } : Room) (va_Pc [.ref h0, .int 2] (gI D y aS [(h0, .inr (8, [.ref h1, .int wp4000382])), (h1, .inl (y 1, 3, .inr (.inl (vp_updL (fun _ => 0) ((2 : Int32).toNatClampNeg) 4))))] sz)) (va_Ql (fun (r : Int64) (u : Unit) => 4 = r) (fun u => gO D (va_A [(h0, .inr (8, [.ref h1, .int wp4000382])), (h1, .inl (y 1, 3, .inr (.inl (vp_updL (fun _ => 0) ((2 : Int32).toNatClampNeg) 4))))] sz) [(h0, .inr (8, [.ref h1, .int wp4000382])), (h1, .inl (y 1, 3, .inr (.inl (vp_updL (fun _ => 0) ((2 : Int32).toNatClampNeg) 4))))]) (va_A [(h0, .inr (8, [.ref h1, .int wp4000382])), (h1, .inl (y 1, 3, .inr (.inl (vp_updL (fun _ => 0) ((2 : Int32).toNatClampNeg) 4))))] sz)) 0 0 (va_A [(h0, .inr (8, [.ref h1, .int wp4000382])), (h1, .inl (y 1, 3, .inr (.inl (vp_updL (fun _ => 0) ((2 : Int32).toNatClampNeg) 4))))] sz) := by
  refine g_of (by decide) (Nat.le_of_ble_eq_true rfl) ?_
  intro p e s m below meth c ls A hx hb hr hml hown hg hlocks hin hsz hK hP hD hS hA hAe hl
  rw [← hAe]
  replace hown : s.vm.findClass RX8 = some m.cls := hown
  replace hl : lv_has ls 2 [(0, .ref h0), (1, .int 2)] := hl
  refine lv_iload_n hx hb dX8_get_0 rfl (lv_at hl 1 rfl) ?_
  refine lv_if_lt (tgt := 22) hx hb dX8_get_1 (by decide) (fun c9 => absurd c9 (by decide +kernel)) (fun _ => ?_)
  refine lv_iload_n hx hb dX8_get_4 rfl (lv_at hl 1 rfl) ?_
  refine lv_aload_n hx hb dX8_get_5 rfl (lv_at hl 0 rfl) ?_
  refine gm_get (D := D) (ci := 8) (v := .ref h1) (C := RX8) (T := TX8) (N := 2) hx hb hg inlX8 hown hK.1 hP 0 rfl rfl 0 (by decide) tX8_0 (hg _ gw_98) rfl dX8_get_6 ?_
  refine va_alen hx hb hK.1 hP 1 1 rfl rfl (v := 3) rfl dX8_get_9 ?_
  refine lv_icmp_ge (tgt := 22) hx hb dX8_get_10 (by decide) (fun c9 => absurd c9 (by decide +kernel)) (fun _ => ?_)
  refine lv_aload_n hx hb dX8_get_13 rfl (lv_at hl 0 rfl) ?_
  refine gm_get (D := D) (ci := 8) (v := .ref h1) (C := RX8) (T := TX8) (N := 2) hx hb hg inlX8 hown hK.1 hP 0 rfl rfl 0 (by decide) tX8_0 (hg _ gw_98) rfl dX8_get_14 ?_
  refine lv_iload_n hx hb dX8_get_17 rfl (lv_at hl 1 rfl) ?_
  refine va_lald hx hb hK.1 hP 1 1 rfl rfl (by unfold vp_in; decide +kernel) dX8_get_18 ?_
  refine g_fj (v := 4) (by rfl) ?_
  refine lv_goto (tgt := 23) hx hb dX8_get_19 (by decide) ?_
  exact g_lret hx hb hr hlocks () hP hD hS rfl (Nat.le_of_ble_eq_true rfl) (Nat.le_of_ble_eq_true rfl) dX8_get_23
set_option maxRecDepth 100000 in
set_option maxHeartbeats 4000000 in
theorem k_X5_tellSecret_8 (l : Launch) (D : va_G) (y : Nat → ClassId) (aS : Nat → Nat) (sz : Nat) (h0 : Nat) (p1 : Int32) (h2 : Nat) (h3 : Nat) (h4 : Nat) (h5 : Nat) (wp4000384 : Int32) (h7 : Nat) (wp4000385 : Int32) (wf4000386 : Nat → Int64) (h10 : Nat) (wp4000387 : Int32) (h12 : Nat) : Met l yX5_tellSecret (Cond.code yX5_tellSecret cX5_tellSecret 7 (some .int) :: wsL_law) ({ frames := 1, cells := 0, slots := 0, locals := 23 } : Room) (va_Pc [.ref h0, .int 2, .int p1, .int 4] (gI D y aS [(h0, .inr (5, [.ref h2, .ref h3, .ref h4, .ref h5, .int wp4000384])), (h4, .inr (8, [.ref h7, .int wp4000385])), (h7, .inl (y 1, 18, .inr (.inl wf4000386))), (h5, .inr (8, [.ref h10, .int wp4000387])), (h10, .inl (y 1, 3, .inr (.inl (fun _ => 0)))), (h2, .inr (8, [.ref h12, .int 0]))] sz)) (va_Qi (fun (r : Int32) (u : Unit) => 1 = r) (fun u => gO D (va_A [(h0, .inr (5, [.ref h2, .ref h3, .ref h4, .ref h5, .int wp4000384])), (h4, .inr (8, [.ref h7, .int wp4000385])), (h7, .inl (y 1, 18, .inr (.inl wf4000386))), (h5, .inr (8, [.ref h10, .int wp4000387])), (h10, .inl (y 1, 3, .inr (.inl (fun _ => 0)))), (h2, .inr (8, [.ref h12, .int 0]))] sz) [(h0, .inr (5, [.ref h2, .ref h3, .ref h4, .ref h5, .int 0])), (h4, .inr (8, [.ref h7, .int wp4000385])), (h7, .inl (y 1, 18, .inr (.inl (vp_updL (vp_updL (vp_updL (vp_updL wf4000386 ((15 : Int32).toNatClampNeg) ((p1 - p1 / 10 * 10).toInt64)) ((14 : Int32).toNatClampNeg) (((p1 / 10) - (p1 / 10) / 10 * 10).toInt64)) ((13 : Int32).toNatClampNeg) ((((p1 / 10) / 10) - ((p1 / 10) / 10) / 10 * 10).toInt64)) ((12 : Int32).toNatClampNeg) (((((p1 / 10) / 10) / 10) - (((p1 / 10) / 10) / 10) / 10 * 10).toInt64))))), (h5, .inr (8, [.ref h10, .int wp4000387])), (h10, .inl (y 1, 3, .inr (.inl (vp_updL (fun _ => 0) ((2 : Int32).toNatClampNeg) 4)))), (h2, .inr (8, [.ref h12, .int 0]))]) (va_A [(h0, .inr (5, [.ref h2, .ref h3, .ref h4, .ref h5, .int wp4000384])), (h4, .inr (8, [.ref h7, .int wp4000385])), (h7, .inl (y 1, 18, .inr (.inl wf4000386))), (h5, .inr (8, [.ref h10, .int wp4000387])), (h10, .inl (y 1, 3, .inr (.inl (fun _ => 0)))), (h2, .inr (8, [.ref h12, .int 0]))] sz)) 0 0 (va_A [(h0, .inr (5, [.ref h2, .ref h3, .ref h4, .ref h5, .int wp4000384])), (h4, .inr (8, [.ref h7, .int wp4000385])), (h7, .inl (y 1, 18, .inr (.inl wf4000386))), (h5, .inr (8, [.ref h10, .int wp4000387])), (h10, .inl (y 1, 3, .inr (.inl (fun _ => 0)))), (h2, .inr (8, [.ref h12, .int 0]))] sz) := by
  refine g_of (by decide) (Nat.le_of_ble_eq_true rfl) ?_
  intro p e s m below meth c ls A hx hb hr hml hown hg hlocks hin hsz hK hP hD hS hA hAe hl
  rw [← hAe]
  replace hown : s.vm.findClass RX5 = some m.cls := hown
  replace hl : lv_has ls 7 [(0, .ref h0), (1, .int 2), (2, .int p1), (3, .int 4)] := hl
  refine lv_iload_n hx hb dX5_tellSecret_0 rfl (lv_at hl 2 rfl) ?_
  refine lv_istore (lv' := [(4, .int p1), (0, .ref h0), (1, .int 2), (2, .int p1), (3, .int 4)]) hx hb dX5_tellSecret_1 hl (by decide) rfl ?_
  clear hl
  clear ls
  intro ls hl
  refine lv_iload_n hx hb dX5_tellSecret_3 rfl (lv_at hl 4 rfl) ?_
  refine lv_iconst (v := 1) hx hb dX5_tellSecret_4 (by decide) ?_
  refine lv_isub hx hb dX5_tellSecret_5 ?_
  refine g_fi (v := 3) (by decide +kernel) ?_
  refine lv_istore (lv' := [(5, .int 3), (4, .int p1), (0, .ref h0), (1, .int 2), (2, .int p1), (3, .int 4)]) hx hb dX5_tellSecret_6 hl (by decide) rfl ?_
  clear hl
  clear ls
  intro ls hl
  refine lv_iload hx hb dX5_tellSecret_8 (lv_at hl 0 rfl) ?_
  refine lv_if_lt (tgt := 46) hx hb dX5_tellSecret_10 (by decide) (fun c9 => absurd c9 (by decide +kernel)) (fun _ => ?_)
  refine lv_aload_n hx hb dX5_tellSecret_13 rfl (lv_at hl 2 rfl) ?_
  refine gm_get (D := D) (ci := 5) (v := .ref h4) (C := RX5) (T := TX5) (N := 5) hx hb hg inlX5 hown hK.1 hP 0 rfl rfl 2 (by decide) tX5_2 (hg _ gw_140) rfl dX5_tellSecret_14 ?_
  refine lv_iload_n hx hb dX5_tellSecret_17 rfl (lv_at hl 3 rfl) ?_
  refine lv_bipush (v := 6) hx hb dX5_tellSecret_18 (by decide +kernel) ?_
  refine lv_imul hx hb dX5_tellSecret_20 ?_
  refine g_fi (v := 12) (by decide +kernel) ?_
  refine lv_iload hx hb dX5_tellSecret_21 (lv_at hl 0 rfl) ?_
  refine lv_iadd hx hb dX5_tellSecret_23 ?_
  refine g_fi (v := 15) (by decide +kernel) ?_
  refine lv_iload hx hb dX5_tellSecret_24 (lv_at hl 1 rfl) ?_
  refine lv_bipush (v := 10) hx hb dX5_tellSecret_26 (by decide +kernel) ?_
  refine lv_irem hx hb dX5_tellSecret_28 (by decide +kernel) ?_
  refine lv_i2l (v := ((p1 - p1 / 10 * 10).toInt64)) hx hb dX5_tellSecret_29 rfl ?_
  refine g_av (wr := [(h0, .inr (5, [.ref h2, .ref h3, .ref h4, .ref h5, .int wp4000384])), (h5, .inr (8, [.ref h10, .int wp4000387])), (h10, .inl (y 1, 3, .inr (.inl (fun _ => 0)))), (h2, .inr (8, [.ref h12, .int 0]))]) (va_runV (As := [.int 15, .long ((p1 - p1 / 10 * 10).toInt64)]) (rest := []) ⟨hx, hb, hml, hown, hg⟩ (k_X8_set_38 l D y aS s.heap.size h4 ((p1 - p1 / 10 * 10).toInt64) h7 wp4000385 wf4000386) (cwV 2 hg ggV_RX5_29_X8_set rfl rfl rfl (by decide +kernel) ⟨Nat.le_of_ble_eq_true rfl, Nat.le_of_ble_eq_true rfl⟩) (g_preV (q := (RX8, TX8, 2)) hK hP hD [1, 2] rfl (by decide) (ci := 8) (q0 := 1) rfl rfl) rfl rfl hl.1 rfl (lv_room (Nat.le_of_ble_eq_true rfl)) dX5_tellSecret_30 ⟨Nat.le_of_ble_eq_true rfl, Nat.le_of_ble_eq_true rfl⟩) hP hD hS hA [1, 2] [0, 3, 4, 5] rfl rfl (by decide) (by decide) ?_
  clear hP hD hS
  refine fun u H locs hq hP hD hS => ?_
  replace hP : va_P D vwCl [(h0, .inr (5, [.ref h2, .ref h3, .ref h4, .ref h5, .int wp4000384])), (h5, .inr (8, [.ref h10, .int wp4000387])), (h10, .inl (y 1, 3, .inr (.inl (fun _ => 0)))), (h2, .inr (8, [.ref h12, .int 0])), (h4, .inr (8, [.ref h7, .int wp4000385])), (h7, .inl (y 1, 18, .inr (.inl (vp_updL wf4000386 ((15 : Int32).toNatClampNeg) ((p1 - p1 / 10 * 10).toInt64)))))] H := hP
  replace hD : va_D A [(h0, .inr (5, [.ref h2, .ref h3, .ref h4, .ref h5, .int wp4000384])), (h5, .inr (8, [.ref h10, .int wp4000387])), (h10, .inl (y 1, 3, .inr (.inl (fun _ => 0)))), (h2, .inr (8, [.ref h12, .int 0])), (h4, .inr (8, [.ref h7, .int wp4000385])), (h7, .inl (y 1, 18, .inr (.inl (vp_updL wf4000386 ((15 : Int32).toNatClampNeg) ((p1 - p1 / 10 * 10).toInt64)))))] := hD
  refine lv_iload hx hb dX5_tellSecret_33 (lv_at hl 1 rfl) ?_
  refine lv_bipush (v := 10) hx hb dX5_tellSecret_35 (by decide +kernel) ?_
  refine lv_idiv hx hb dX5_tellSecret_37 (by decide +kernel) ?_
  refine lv_istore (lv' := [(4, .int (p1 / 10)), (5, .int 3), (0, .ref h0), (1, .int 2), (2, .int p1), (3, .int 4)]) hx hb dX5_tellSecret_38 hl (by decide) rfl ?_
  clear hl
  clear ls
  intro ls hl
  refine lv_iinc (v := 2) (lv' := [(5, .int 2), (4, .int (p1 / 10)), (0, .ref h0), (1, .int 2), (2, .int p1), (3, .int 4)]) hx hb dX5_tellSecret_40 hl (k := 1) rfl (by decide +kernel) (by decide) rfl ?_
  clear hl
  clear ls
  intro ls hl
  refine lv_goto (tgt := 8) hx hb dX5_tellSecret_43 (by decide) ?_
  refine lv_iload hx hb dX5_tellSecret_8 (lv_at hl 0 rfl) ?_
  refine lv_if_lt (tgt := 46) hx hb dX5_tellSecret_10 (by decide) (fun c9 => absurd c9 (by decide +kernel)) (fun _ => ?_)
  refine lv_aload_n hx hb dX5_tellSecret_13 rfl (lv_at hl 2 rfl) ?_
  refine gm_get (D := D) (ci := 5) (v := .ref h4) (C := RX5) (T := TX5) (N := 5) hx hb hg inlX5 hown hK.1 hP 0 rfl rfl 2 (by decide) tX5_2 (hg _ gw_140) rfl dX5_tellSecret_14 ?_
  refine lv_iload_n hx hb dX5_tellSecret_17 rfl (lv_at hl 3 rfl) ?_
  refine lv_bipush (v := 6) hx hb dX5_tellSecret_18 (by decide +kernel) ?_
  refine lv_imul hx hb dX5_tellSecret_20 ?_
  refine g_fi (v := 12) (by decide +kernel) ?_
  refine lv_iload hx hb dX5_tellSecret_21 (lv_at hl 0 rfl) ?_
  refine lv_iadd hx hb dX5_tellSecret_23 ?_
  refine g_fi (v := 14) (by decide +kernel) ?_
  refine lv_iload hx hb dX5_tellSecret_24 (lv_at hl 1 rfl) ?_
  refine lv_bipush (v := 10) hx hb dX5_tellSecret_26 (by decide +kernel) ?_
  refine lv_irem hx hb dX5_tellSecret_28 (by decide +kernel) ?_
  refine lv_i2l (v := (((p1 / 10) - (p1 / 10) / 10 * 10).toInt64)) hx hb dX5_tellSecret_29 rfl ?_
  refine g_av (wr := [(h0, .inr (5, [.ref h2, .ref h3, .ref h4, .ref h5, .int wp4000384])), (h5, .inr (8, [.ref h10, .int wp4000387])), (h10, .inl (y 1, 3, .inr (.inl (fun _ => 0)))), (h2, .inr (8, [.ref h12, .int 0]))]) (va_runV (As := [.int 14, .long (((p1 / 10) - (p1 / 10) / 10 * 10).toInt64)]) (rest := []) ⟨hx, hb, hml, hown, hg⟩ (k_X8_set_35 l D y aS H.size h4 (((p1 / 10) - (p1 / 10) / 10 * 10).toInt64) h7 wp4000385 (vp_updL wf4000386 ((15 : Int32).toNatClampNeg) ((p1 - p1 / 10 * 10).toInt64))) (cwV 2 hg ggV_RX5_29_X8_set rfl rfl rfl (by decide +kernel) ⟨Nat.le_of_ble_eq_true rfl, Nat.le_of_ble_eq_true rfl⟩) (g_preV (q := (RX8, TX8, 2)) hK hP hD [4, 5] rfl (by decide) (ci := 8) (q0 := 4) rfl rfl) rfl rfl hl.1 rfl (lv_room (Nat.le_of_ble_eq_true rfl)) dX5_tellSecret_30 ⟨Nat.le_of_ble_eq_true rfl, Nat.le_of_ble_eq_true rfl⟩) hP hD hS hA [4, 5] [0, 1, 2, 3] rfl rfl (by decide) (by decide) ?_
  clear hP hD hS H locs
  refine fun u H locs hq hP hD hS => ?_
  replace hP : va_P D vwCl [(h0, .inr (5, [.ref h2, .ref h3, .ref h4, .ref h5, .int wp4000384])), (h5, .inr (8, [.ref h10, .int wp4000387])), (h10, .inl (y 1, 3, .inr (.inl (fun _ => 0)))), (h2, .inr (8, [.ref h12, .int 0])), (h4, .inr (8, [.ref h7, .int wp4000385])), (h7, .inl (y 1, 18, .inr (.inl (vp_updL (vp_updL wf4000386 ((15 : Int32).toNatClampNeg) ((p1 - p1 / 10 * 10).toInt64)) ((14 : Int32).toNatClampNeg) (((p1 / 10) - (p1 / 10) / 10 * 10).toInt64)))))] H := hP
  replace hD : va_D A [(h0, .inr (5, [.ref h2, .ref h3, .ref h4, .ref h5, .int wp4000384])), (h5, .inr (8, [.ref h10, .int wp4000387])), (h10, .inl (y 1, 3, .inr (.inl (fun _ => 0)))), (h2, .inr (8, [.ref h12, .int 0])), (h4, .inr (8, [.ref h7, .int wp4000385])), (h7, .inl (y 1, 18, .inr (.inl (vp_updL (vp_updL wf4000386 ((15 : Int32).toNatClampNeg) ((p1 - p1 / 10 * 10).toInt64)) ((14 : Int32).toNatClampNeg) (((p1 / 10) - (p1 / 10) / 10 * 10).toInt64)))))] := hD
  refine lv_iload hx hb dX5_tellSecret_33 (lv_at hl 1 rfl) ?_
  refine lv_bipush (v := 10) hx hb dX5_tellSecret_35 (by decide +kernel) ?_
  refine lv_idiv hx hb dX5_tellSecret_37 (by decide +kernel) ?_
  refine lv_istore (lv' := [(4, .int ((p1 / 10) / 10)), (5, .int 2), (0, .ref h0), (1, .int 2), (2, .int p1), (3, .int 4)]) hx hb dX5_tellSecret_38 hl (by decide) rfl ?_
  clear hl
  clear ls
  intro ls hl
  refine lv_iinc (v := 1) (lv' := [(5, .int 1), (4, .int ((p1 / 10) / 10)), (0, .ref h0), (1, .int 2), (2, .int p1), (3, .int 4)]) hx hb dX5_tellSecret_40 hl (k := 1) rfl (by decide +kernel) (by decide) rfl ?_
  clear hl
  clear ls
  intro ls hl
  refine lv_goto (tgt := 8) hx hb dX5_tellSecret_43 (by decide) ?_
  refine lv_iload hx hb dX5_tellSecret_8 (lv_at hl 0 rfl) ?_
  refine lv_if_lt (tgt := 46) hx hb dX5_tellSecret_10 (by decide) (fun c9 => absurd c9 (by decide +kernel)) (fun _ => ?_)
  refine lv_aload_n hx hb dX5_tellSecret_13 rfl (lv_at hl 2 rfl) ?_
  refine gm_get (D := D) (ci := 5) (v := .ref h4) (C := RX5) (T := TX5) (N := 5) hx hb hg inlX5 hown hK.1 hP 0 rfl rfl 2 (by decide) tX5_2 (hg _ gw_140) rfl dX5_tellSecret_14 ?_
  refine lv_iload_n hx hb dX5_tellSecret_17 rfl (lv_at hl 3 rfl) ?_
  refine lv_bipush (v := 6) hx hb dX5_tellSecret_18 (by decide +kernel) ?_
  refine lv_imul hx hb dX5_tellSecret_20 ?_
  refine g_fi (v := 12) (by decide +kernel) ?_
  refine lv_iload hx hb dX5_tellSecret_21 (lv_at hl 0 rfl) ?_
  refine lv_iadd hx hb dX5_tellSecret_23 ?_
  refine g_fi (v := 13) (by decide +kernel) ?_
  refine lv_iload hx hb dX5_tellSecret_24 (lv_at hl 1 rfl) ?_
  refine lv_bipush (v := 10) hx hb dX5_tellSecret_26 (by decide +kernel) ?_
  refine lv_irem hx hb dX5_tellSecret_28 (by decide +kernel) ?_
  refine lv_i2l (v := ((((p1 / 10) / 10) - ((p1 / 10) / 10) / 10 * 10).toInt64)) hx hb dX5_tellSecret_29 rfl ?_
  refine g_av (wr := [(h0, .inr (5, [.ref h2, .ref h3, .ref h4, .ref h5, .int wp4000384])), (h5, .inr (8, [.ref h10, .int wp4000387])), (h10, .inl (y 1, 3, .inr (.inl (fun _ => 0)))), (h2, .inr (8, [.ref h12, .int 0]))]) (va_runV (As := [.int 13, .long ((((p1 / 10) / 10) - ((p1 / 10) / 10) / 10 * 10).toInt64)]) (rest := []) ⟨hx, hb, hml, hown, hg⟩ (k_X8_set_31 l D y aS H.size h4 ((((p1 / 10) / 10) - ((p1 / 10) / 10) / 10 * 10).toInt64) h7 wp4000385 (vp_updL (vp_updL wf4000386 ((15 : Int32).toNatClampNeg) ((p1 - p1 / 10 * 10).toInt64)) ((14 : Int32).toNatClampNeg) (((p1 / 10) - (p1 / 10) / 10 * 10).toInt64))) (cwV 2 hg ggV_RX5_29_X8_set rfl rfl rfl (by decide +kernel) ⟨Nat.le_of_ble_eq_true rfl, Nat.le_of_ble_eq_true rfl⟩) (g_preV (q := (RX8, TX8, 2)) hK hP hD [4, 5] rfl (by decide) (ci := 8) (q0 := 4) rfl rfl) rfl rfl hl.1 rfl (lv_room (Nat.le_of_ble_eq_true rfl)) dX5_tellSecret_30 ⟨Nat.le_of_ble_eq_true rfl, Nat.le_of_ble_eq_true rfl⟩) hP hD hS hA [4, 5] [0, 1, 2, 3] rfl rfl (by decide) (by decide) ?_
  clear hP hD hS H locs
  refine fun u H locs hq hP hD hS => ?_
  replace hP : va_P D vwCl [(h0, .inr (5, [.ref h2, .ref h3, .ref h4, .ref h5, .int wp4000384])), (h5, .inr (8, [.ref h10, .int wp4000387])), (h10, .inl (y 1, 3, .inr (.inl (fun _ => 0)))), (h2, .inr (8, [.ref h12, .int 0])), (h4, .inr (8, [.ref h7, .int wp4000385])), (h7, .inl (y 1, 18, .inr (.inl (vp_updL (vp_updL (vp_updL wf4000386 ((15 : Int32).toNatClampNeg) ((p1 - p1 / 10 * 10).toInt64)) ((14 : Int32).toNatClampNeg) (((p1 / 10) - (p1 / 10) / 10 * 10).toInt64)) ((13 : Int32).toNatClampNeg) ((((p1 / 10) / 10) - ((p1 / 10) / 10) / 10 * 10).toInt64)))))] H := hP
  replace hD : va_D A [(h0, .inr (5, [.ref h2, .ref h3, .ref h4, .ref h5, .int wp4000384])), (h5, .inr (8, [.ref h10, .int wp4000387])), (h10, .inl (y 1, 3, .inr (.inl (fun _ => 0)))), (h2, .inr (8, [.ref h12, .int 0])), (h4, .inr (8, [.ref h7, .int wp4000385])), (h7, .inl (y 1, 18, .inr (.inl (vp_updL (vp_updL (vp_updL wf4000386 ((15 : Int32).toNatClampNeg) ((p1 - p1 / 10 * 10).toInt64)) ((14 : Int32).toNatClampNeg) (((p1 / 10) - (p1 / 10) / 10 * 10).toInt64)) ((13 : Int32).toNatClampNeg) ((((p1 / 10) / 10) - ((p1 / 10) / 10) / 10 * 10).toInt64)))))] := hD
  refine lv_iload hx hb dX5_tellSecret_33 (lv_at hl 1 rfl) ?_
  refine lv_bipush (v := 10) hx hb dX5_tellSecret_35 (by decide +kernel) ?_
  refine lv_idiv hx hb dX5_tellSecret_37 (by decide +kernel) ?_
  refine lv_istore (lv' := [(4, .int (((p1 / 10) / 10) / 10)), (5, .int 1), (0, .ref h0), (1, .int 2), (2, .int p1), (3, .int 4)]) hx hb dX5_tellSecret_38 hl (by decide) rfl ?_
  clear hl
  clear ls
  intro ls hl
  refine lv_iinc (v := 0) (lv' := [(5, .int 0), (4, .int (((p1 / 10) / 10) / 10)), (0, .ref h0), (1, .int 2), (2, .int p1), (3, .int 4)]) hx hb dX5_tellSecret_40 hl (k := 1) rfl (by decide +kernel) (by decide) rfl ?_
  clear hl
  clear ls
  intro ls hl
  refine lv_goto (tgt := 8) hx hb dX5_tellSecret_43 (by decide) ?_
  refine lv_iload hx hb dX5_tellSecret_8 (lv_at hl 0 rfl) ?_
  refine lv_if_lt (tgt := 46) hx hb dX5_tellSecret_10 (by decide) (fun c9 => absurd c9 (by decide +kernel)) (fun _ => ?_)
  refine lv_aload_n hx hb dX5_tellSecret_13 rfl (lv_at hl 2 rfl) ?_
  refine gm_get (D := D) (ci := 5) (v := .ref h4) (C := RX5) (T := TX5) (N := 5) hx hb hg inlX5 hown hK.1 hP 0 rfl rfl 2 (by decide) tX5_2 (hg _ gw_140) rfl dX5_tellSecret_14 ?_
  refine lv_iload_n hx hb dX5_tellSecret_17 rfl (lv_at hl 3 rfl) ?_
  refine lv_bipush (v := 6) hx hb dX5_tellSecret_18 (by decide +kernel) ?_
  refine lv_imul hx hb dX5_tellSecret_20 ?_
  refine g_fi (v := 12) (by decide +kernel) ?_
  refine lv_iload hx hb dX5_tellSecret_21 (lv_at hl 0 rfl) ?_
  refine lv_iadd hx hb dX5_tellSecret_23 ?_
  refine g_fi (v := 12) (by decide +kernel) ?_
  refine lv_iload hx hb dX5_tellSecret_24 (lv_at hl 1 rfl) ?_
  refine lv_bipush (v := 10) hx hb dX5_tellSecret_26 (by decide +kernel) ?_
  refine lv_irem hx hb dX5_tellSecret_28 (by decide +kernel) ?_
  refine lv_i2l (v := (((((p1 / 10) / 10) / 10) - (((p1 / 10) / 10) / 10) / 10 * 10).toInt64)) hx hb dX5_tellSecret_29 rfl ?_
  refine g_av (wr := [(h0, .inr (5, [.ref h2, .ref h3, .ref h4, .ref h5, .int wp4000384])), (h5, .inr (8, [.ref h10, .int wp4000387])), (h10, .inl (y 1, 3, .inr (.inl (fun _ => 0)))), (h2, .inr (8, [.ref h12, .int 0]))]) (va_runV (As := [.int 12, .long (((((p1 / 10) / 10) / 10) - (((p1 / 10) / 10) / 10) / 10 * 10).toInt64)]) (rest := []) ⟨hx, hb, hml, hown, hg⟩ (k_X8_set_32 l D y aS H.size h4 (((((p1 / 10) / 10) / 10) - (((p1 / 10) / 10) / 10) / 10 * 10).toInt64) h7 wp4000385 (vp_updL (vp_updL (vp_updL wf4000386 ((15 : Int32).toNatClampNeg) ((p1 - p1 / 10 * 10).toInt64)) ((14 : Int32).toNatClampNeg) (((p1 / 10) - (p1 / 10) / 10 * 10).toInt64)) ((13 : Int32).toNatClampNeg) ((((p1 / 10) / 10) - ((p1 / 10) / 10) / 10 * 10).toInt64))) (cwV 2 hg ggV_RX5_29_X8_set rfl rfl rfl (by decide +kernel) ⟨Nat.le_of_ble_eq_true rfl, Nat.le_of_ble_eq_true rfl⟩) (g_preV (q := (RX8, TX8, 2)) hK hP hD [4, 5] rfl (by decide) (ci := 8) (q0 := 4) rfl rfl) rfl rfl hl.1 rfl (lv_room (Nat.le_of_ble_eq_true rfl)) dX5_tellSecret_30 ⟨Nat.le_of_ble_eq_true rfl, Nat.le_of_ble_eq_true rfl⟩) hP hD hS hA [4, 5] [0, 1, 2, 3] rfl rfl (by decide) (by decide) ?_
  clear hP hD hS H locs
  refine fun u H locs hq hP hD hS => ?_
  replace hP : va_P D vwCl [(h0, .inr (5, [.ref h2, .ref h3, .ref h4, .ref h5, .int wp4000384])), (h5, .inr (8, [.ref h10, .int wp4000387])), (h10, .inl (y 1, 3, .inr (.inl (fun _ => 0)))), (h2, .inr (8, [.ref h12, .int 0])), (h4, .inr (8, [.ref h7, .int wp4000385])), (h7, .inl (y 1, 18, .inr (.inl (vp_updL (vp_updL (vp_updL (vp_updL wf4000386 ((15 : Int32).toNatClampNeg) ((p1 - p1 / 10 * 10).toInt64)) ((14 : Int32).toNatClampNeg) (((p1 / 10) - (p1 / 10) / 10 * 10).toInt64)) ((13 : Int32).toNatClampNeg) ((((p1 / 10) / 10) - ((p1 / 10) / 10) / 10 * 10).toInt64)) ((12 : Int32).toNatClampNeg) (((((p1 / 10) / 10) / 10) - (((p1 / 10) / 10) / 10) / 10 * 10).toInt64)))))] H := hP
  replace hD : va_D A [(h0, .inr (5, [.ref h2, .ref h3, .ref h4, .ref h5, .int wp4000384])), (h5, .inr (8, [.ref h10, .int wp4000387])), (h10, .inl (y 1, 3, .inr (.inl (fun _ => 0)))), (h2, .inr (8, [.ref h12, .int 0])), (h4, .inr (8, [.ref h7, .int wp4000385])), (h7, .inl (y 1, 18, .inr (.inl (vp_updL (vp_updL (vp_updL (vp_updL wf4000386 ((15 : Int32).toNatClampNeg) ((p1 - p1 / 10 * 10).toInt64)) ((14 : Int32).toNatClampNeg) (((p1 / 10) - (p1 / 10) / 10 * 10).toInt64)) ((13 : Int32).toNatClampNeg) ((((p1 / 10) / 10) - ((p1 / 10) / 10) / 10 * 10).toInt64)) ((12 : Int32).toNatClampNeg) (((((p1 / 10) / 10) / 10) - (((p1 / 10) / 10) / 10) / 10 * 10).toInt64)))))] := hD
  refine lv_iload hx hb dX5_tellSecret_33 (lv_at hl 1 rfl) ?_
  refine lv_bipush (v := 10) hx hb dX5_tellSecret_35 (by decide +kernel) ?_
  refine lv_idiv hx hb dX5_tellSecret_37 (by decide +kernel) ?_
  refine lv_istore (lv' := [(4, .int ((((p1 / 10) / 10) / 10) / 10)), (5, .int 0), (0, .ref h0), (1, .int 2), (2, .int p1), (3, .int 4)]) hx hb dX5_tellSecret_38 hl (by decide) rfl ?_
  clear hl
  clear ls
  intro ls hl
  refine lv_iinc (v := (-1)) (lv' := [(5, .int (-1)), (4, .int ((((p1 / 10) / 10) / 10) / 10)), (0, .ref h0), (1, .int 2), (2, .int p1), (3, .int 4)]) hx hb dX5_tellSecret_40 hl (k := 1) rfl (by decide +kernel) (by decide) rfl ?_
  clear hl
  clear ls
  intro ls hl
  refine lv_goto (tgt := 8) hx hb dX5_tellSecret_43 (by decide) ?_
  refine lv_iload hx hb dX5_tellSecret_8 (lv_at hl 0 rfl) ?_
  refine lv_if_lt (tgt := 46) hx hb dX5_tellSecret_10 (by decide) (fun _ => ?_) (fun c9 => absurd c9 (by decide +kernel))
  refine lv_aload_n hx hb dX5_tellSecret_46 rfl (lv_at hl 2 rfl) ?_
  refine gm_get (D := D) (ci := 5) (v := .ref h5) (C := RX5) (T := TX5) (N := 5) hx hb hg inlX5 hown hK.1 hP 0 rfl rfl 3 (by decide) tX5_3 (hg _ gw_141) rfl dX5_tellSecret_47 ?_
  refine lv_iload_n hx hb dX5_tellSecret_50 rfl (lv_at hl 3 rfl) ?_
  refine lv_iload_n hx hb dX5_tellSecret_51 rfl (lv_at hl 5 rfl) ?_
  refine lv_i2l (v := 4) hx hb dX5_tellSecret_52 (by decide +kernel) ?_
  refine g_av (wr := [(h0, .inr (5, [.ref h2, .ref h3, .ref h4, .ref h5, .int wp4000384])), (h2, .inr (8, [.ref h12, .int 0])), (h4, .inr (8, [.ref h7, .int wp4000385])), (h7, .inl (y 1, 18, .inr (.inl (vp_updL (vp_updL (vp_updL (vp_updL wf4000386 ((15 : Int32).toNatClampNeg) ((p1 - p1 / 10 * 10).toInt64)) ((14 : Int32).toNatClampNeg) (((p1 / 10) - (p1 / 10) / 10 * 10).toInt64)) ((13 : Int32).toNatClampNeg) ((((p1 / 10) / 10) - ((p1 / 10) / 10) / 10 * 10).toInt64)) ((12 : Int32).toNatClampNeg) (((((p1 / 10) / 10) / 10) - (((p1 / 10) / 10) / 10) / 10 * 10).toInt64)))))]) (va_runV (As := [.int 2, .long 4]) (rest := []) ⟨hx, hb, hml, hown, hg⟩ (k_X8_set_26 l D y aS H.size h5 4 h10 wp4000387 (fun _ => 0)) (cwV 2 hg ggV_RX5_29_X8_set rfl rfl rfl (by decide +kernel) ⟨Nat.le_of_ble_eq_true rfl, Nat.le_of_ble_eq_true rfl⟩) (g_preV (q := (RX8, TX8, 2)) hK hP hD [1, 2] rfl (by decide) (ci := 8) (q0 := 1) rfl rfl) rfl rfl hl.1 rfl (lv_room (Nat.le_of_ble_eq_true rfl)) dX5_tellSecret_53 ⟨Nat.le_of_ble_eq_true rfl, Nat.le_of_ble_eq_true rfl⟩) hP hD hS hA [1, 2] [0, 3, 4, 5] rfl rfl (by decide) (by decide) ?_
  clear hP hD hS H locs
  refine fun u H locs hq hP hD hS => ?_
  replace hP : va_P D vwCl [(h0, .inr (5, [.ref h2, .ref h3, .ref h4, .ref h5, .int wp4000384])), (h2, .inr (8, [.ref h12, .int 0])), (h4, .inr (8, [.ref h7, .int wp4000385])), (h7, .inl (y 1, 18, .inr (.inl (vp_updL (vp_updL (vp_updL (vp_updL wf4000386 ((15 : Int32).toNatClampNeg) ((p1 - p1 / 10 * 10).toInt64)) ((14 : Int32).toNatClampNeg) (((p1 / 10) - (p1 / 10) / 10 * 10).toInt64)) ((13 : Int32).toNatClampNeg) ((((p1 / 10) / 10) - ((p1 / 10) / 10) / 10 * 10).toInt64)) ((12 : Int32).toNatClampNeg) (((((p1 / 10) / 10) / 10) - (((p1 / 10) / 10) / 10) / 10 * 10).toInt64))))), (h5, .inr (8, [.ref h10, .int wp4000387])), (h10, .inl (y 1, 3, .inr (.inl (vp_updL (fun _ => 0) ((2 : Int32).toNatClampNeg) 4))))] H := hP
  replace hD : va_D A [(h0, .inr (5, [.ref h2, .ref h3, .ref h4, .ref h5, .int wp4000384])), (h2, .inr (8, [.ref h12, .int 0])), (h4, .inr (8, [.ref h7, .int wp4000385])), (h7, .inl (y 1, 18, .inr (.inl (vp_updL (vp_updL (vp_updL (vp_updL wf4000386 ((15 : Int32).toNatClampNeg) ((p1 - p1 / 10 * 10).toInt64)) ((14 : Int32).toNatClampNeg) (((p1 / 10) - (p1 / 10) / 10 * 10).toInt64)) ((13 : Int32).toNatClampNeg) ((((p1 / 10) / 10) - ((p1 / 10) / 10) / 10 * 10).toInt64)) ((12 : Int32).toNatClampNeg) (((((p1 / 10) / 10) / 10) - (((p1 / 10) / 10) / 10) / 10 * 10).toInt64))))), (h5, .inr (8, [.ref h10, .int wp4000387])), (h10, .inl (y 1, 3, .inr (.inl (vp_updL (fun _ => 0) ((2 : Int32).toNatClampNeg) 4))))] := hD
  refine lv_aload_n hx hb dX5_tellSecret_56 rfl (lv_at hl 2 rfl) ?_
  refine g_av (wr := [(h4, .inr (8, [.ref h7, .int wp4000385])), (h7, .inl (y 1, 18, .inr (.inl (vp_updL (vp_updL (vp_updL (vp_updL wf4000386 ((15 : Int32).toNatClampNeg) ((p1 - p1 / 10 * 10).toInt64)) ((14 : Int32).toNatClampNeg) (((p1 / 10) - (p1 / 10) / 10 * 10).toInt64)) ((13 : Int32).toNatClampNeg) ((((p1 / 10) / 10) - ((p1 / 10) / 10) / 10 * 10).toInt64)) ((12 : Int32).toNatClampNeg) (((((p1 / 10) / 10) / 10) - (((p1 / 10) / 10) / 10) / 10 * 10).toInt64))))), (h5, .inr (8, [.ref h10, .int wp4000387])), (h10, .inl (y 1, 3, .inr (.inl (vp_updL (fun _ => 0) ((2 : Int32).toNatClampNeg) 4))))]) (va_runV (As := []) (rest := []) ⟨hx, hb, hml, hown, hg⟩ (k_X5_findOut_0 l D y aS H.size h0 h2 h3 h4 h5 wp4000384 h12) (cwV 0 hg ggV_RX5_33_X5_findOut rfl rfl rfl (by decide +kernel) ⟨Nat.le_of_ble_eq_true rfl, Nat.le_of_ble_eq_true rfl⟩) (g_preV (q := (RX5, TX5, 5)) hK hP hD [0, 1] rfl (by decide) (ci := 5) (q0 := 0) rfl rfl) rfl rfl hl.1 rfl (lv_room (Nat.le_of_ble_eq_true rfl)) dX5_tellSecret_57 ⟨Nat.le_of_ble_eq_true rfl, Nat.le_of_ble_eq_true rfl⟩) hP hD hS hA [0, 1] [2, 3, 4, 5] rfl rfl (by decide) (by decide) ?_
  clear hP hD hS H locs
  refine fun u H locs hq hP hD hS => ?_
  replace hP : va_P D vwCl [(h4, .inr (8, [.ref h7, .int wp4000385])), (h7, .inl (y 1, 18, .inr (.inl (vp_updL (vp_updL (vp_updL (vp_updL wf4000386 ((15 : Int32).toNatClampNeg) ((p1 - p1 / 10 * 10).toInt64)) ((14 : Int32).toNatClampNeg) (((p1 / 10) - (p1 / 10) / 10 * 10).toInt64)) ((13 : Int32).toNatClampNeg) ((((p1 / 10) / 10) - ((p1 / 10) / 10) / 10 * 10).toInt64)) ((12 : Int32).toNatClampNeg) (((((p1 / 10) / 10) / 10) - (((p1 / 10) / 10) / 10) / 10 * 10).toInt64))))), (h5, .inr (8, [.ref h10, .int wp4000387])), (h10, .inl (y 1, 3, .inr (.inl (vp_updL (fun _ => 0) ((2 : Int32).toNatClampNeg) 4)))), (h0, .inr (5, [.ref h2, .ref h3, .ref h4, .ref h5, .int 0])), (h2, .inr (8, [.ref h12, .int 0]))] H := hP
  replace hD : va_D A [(h4, .inr (8, [.ref h7, .int wp4000385])), (h7, .inl (y 1, 18, .inr (.inl (vp_updL (vp_updL (vp_updL (vp_updL wf4000386 ((15 : Int32).toNatClampNeg) ((p1 - p1 / 10 * 10).toInt64)) ((14 : Int32).toNatClampNeg) (((p1 / 10) - (p1 / 10) / 10 * 10).toInt64)) ((13 : Int32).toNatClampNeg) ((((p1 / 10) / 10) - ((p1 / 10) / 10) / 10 * 10).toInt64)) ((12 : Int32).toNatClampNeg) (((((p1 / 10) / 10) / 10) - (((p1 / 10) / 10) / 10) / 10 * 10).toInt64))))), (h5, .inr (8, [.ref h10, .int wp4000387])), (h10, .inl (y 1, 3, .inr (.inl (vp_updL (fun _ => 0) ((2 : Int32).toNatClampNeg) 4)))), (h0, .inr (5, [.ref h2, .ref h3, .ref h4, .ref h5, .int 0])), (h2, .inr (8, [.ref h12, .int 0]))] := hD
  refine lv_iconst (v := 0) hx hb dX5_tellSecret_60 (by decide) ?_
  refine lv_istore (lv' := [(5, .int 0), (4, .int ((((p1 / 10) / 10) / 10) / 10)), (0, .ref h0), (1, .int 2), (2, .int p1), (3, .int 4)]) hx hb dX5_tellSecret_61 hl (by decide) rfl ?_
  clear hl
  clear ls
  intro ls hl
  refine lv_iconst (v := 0) hx hb dX5_tellSecret_63 (by decide) ?_
  refine lv_istore (lv' := [(6, .int 0), (5, .int 0), (4, .int ((((p1 / 10) / 10) / 10) / 10)), (0, .ref h0), (1, .int 2), (2, .int p1), (3, .int 4)]) hx hb dX5_tellSecret_64 hl (by decide) rfl ?_
  clear hl
  clear ls
  intro ls hl
  refine lv_iload hx hb dX5_tellSecret_66 (lv_at hl 0 rfl) ?_
  refine lv_iconst (v := 3) hx hb dX5_tellSecret_68 (by decide) ?_
  refine lv_icmp_ge (tgt := 95) hx hb dX5_tellSecret_69 (by decide) (fun c9 => absurd c9 (by decide +kernel)) (fun _ => ?_)
  refine lv_aload_n hx hb dX5_tellSecret_72 rfl (lv_at hl 3 rfl) ?_
  refine gm_get (D := D) (ci := 5) (v := .ref h5) (C := RX5) (T := TX5) (N := 5) hx hb hg inlX5 hown hK.1 hP 4 rfl rfl 3 (by decide) tX5_3 (hg _ gw_141) rfl dX5_tellSecret_73 ?_
  refine lv_iload hx hb dX5_tellSecret_76 (lv_at hl 0 rfl) ?_
  refine g_al (wr := [(h4, .inr (8, [.ref h7, .int wp4000385])), (h7, .inl (y 1, 18, .inr (.inl (vp_updL (vp_updL (vp_updL (vp_updL wf4000386 ((15 : Int32).toNatClampNeg) ((p1 - p1 / 10 * 10).toInt64)) ((14 : Int32).toNatClampNeg) (((p1 / 10) - (p1 / 10) / 10 * 10).toInt64)) ((13 : Int32).toNatClampNeg) ((((p1 / 10) / 10) - ((p1 / 10) / 10) / 10 * 10).toInt64)) ((12 : Int32).toNatClampNeg) (((((p1 / 10) / 10) / 10) - (((p1 / 10) / 10) / 10) / 10 * 10).toInt64))))), (h0, .inr (5, [.ref h2, .ref h3, .ref h4, .ref h5, .int 0])), (h2, .inr (8, [.ref h12, .int 0]))]) (va_runV (As := [.int 0]) (rest := []) ⟨hx, hb, hml, hown, hg⟩ (k_X8_get_26 l D y aS H.size h5 h10 wp4000387) (cwV 1 hg ggV_RX5_36_X8_get rfl rfl rfl (by decide +kernel) ⟨Nat.le_of_ble_eq_true rfl, Nat.le_of_ble_eq_true rfl⟩) (g_preV (q := (RX8, TX8, 2)) hK hP hD [2, 3] rfl (by decide) (ci := 8) (q0 := 2) rfl rfl) rfl rfl hl.1 rfl (lv_room (Nat.le_of_ble_eq_true rfl)) dX5_tellSecret_78 ⟨Nat.le_of_ble_eq_true rfl, Nat.le_of_ble_eq_true rfl⟩) hP hD hS hA [2, 3] [0, 1, 4, 5] rfl rfl (by decide) (by decide) ?_
  clear hP hD hS H locs
  refine fun r4000394 u H locs hq hP hD hS => ?_
  subst hq
  replace hP : va_P D vwCl [(h4, .inr (8, [.ref h7, .int wp4000385])), (h7, .inl (y 1, 18, .inr (.inl (vp_updL (vp_updL (vp_updL (vp_updL wf4000386 ((15 : Int32).toNatClampNeg) ((p1 - p1 / 10 * 10).toInt64)) ((14 : Int32).toNatClampNeg) (((p1 / 10) - (p1 / 10) / 10 * 10).toInt64)) ((13 : Int32).toNatClampNeg) ((((p1 / 10) / 10) - ((p1 / 10) / 10) / 10 * 10).toInt64)) ((12 : Int32).toNatClampNeg) (((((p1 / 10) / 10) / 10) - (((p1 / 10) / 10) / 10) / 10 * 10).toInt64))))), (h0, .inr (5, [.ref h2, .ref h3, .ref h4, .ref h5, .int 0])), (h2, .inr (8, [.ref h12, .int 0])), (h5, .inr (8, [.ref h10, .int wp4000387])), (h10, .inl (y 1, 3, .inr (.inl (vp_updL (fun _ => 0) ((2 : Int32).toNatClampNeg) 4))))] H := hP
  replace hD : va_D A [(h4, .inr (8, [.ref h7, .int wp4000385])), (h7, .inl (y 1, 18, .inr (.inl (vp_updL (vp_updL (vp_updL (vp_updL wf4000386 ((15 : Int32).toNatClampNeg) ((p1 - p1 / 10 * 10).toInt64)) ((14 : Int32).toNatClampNeg) (((p1 / 10) - (p1 / 10) / 10 * 10).toInt64)) ((13 : Int32).toNatClampNeg) ((((p1 / 10) / 10) - ((p1 / 10) / 10) / 10 * 10).toInt64)) ((12 : Int32).toNatClampNeg) (((((p1 / 10) / 10) / 10) - (((p1 / 10) / 10) / 10) / 10 * 10).toInt64))))), (h0, .inr (5, [.ref h2, .ref h3, .ref h4, .ref h5, .int 0])), (h2, .inr (8, [.ref h12, .int 0])), (h5, .inr (8, [.ref h10, .int wp4000387])), (h10, .inl (y 1, 3, .inr (.inl (vp_updL (fun _ => 0) ((2 : Int32).toNatClampNeg) 4))))] := hD
  refine lv_lconst (v := 0) hx hb dX5_tellSecret_81 (by decide) ?_
  refine W.lcmp hx hb dX5_tellSecret_82 ?_
  refine g_fi (v := 0) (by decide +kernel) ?_
  refine lv_if_le (tgt := 89) hx hb dX5_tellSecret_83 (by decide) (fun _ => ?_) (fun c9 => absurd c9 (by decide +kernel))
  refine lv_iinc (v := 1) (lv' := [(6, .int 1), (5, .int 0), (4, .int ((((p1 / 10) / 10) / 10) / 10)), (0, .ref h0), (1, .int 2), (2, .int p1), (3, .int 4)]) hx hb dX5_tellSecret_89 hl (k := 0) rfl (by decide +kernel) (by decide) rfl ?_
  clear hl
  clear ls
  intro ls hl
  refine lv_goto (tgt := 66) hx hb dX5_tellSecret_92 (by decide) ?_
  refine lv_iload hx hb dX5_tellSecret_66 (lv_at hl 0 rfl) ?_
  refine lv_iconst (v := 3) hx hb dX5_tellSecret_68 (by decide) ?_
  refine lv_icmp_ge (tgt := 95) hx hb dX5_tellSecret_69 (by decide) (fun c9 => absurd c9 (by decide +kernel)) (fun _ => ?_)
  refine lv_aload_n hx hb dX5_tellSecret_72 rfl (lv_at hl 3 rfl) ?_
  refine gm_get (D := D) (ci := 5) (v := .ref h5) (C := RX5) (T := TX5) (N := 5) hx hb hg inlX5 hown hK.1 hP 2 rfl rfl 3 (by decide) tX5_3 (hg _ gw_141) rfl dX5_tellSecret_73 ?_
  refine lv_iload hx hb dX5_tellSecret_76 (lv_at hl 0 rfl) ?_
  refine g_al (wr := [(h4, .inr (8, [.ref h7, .int wp4000385])), (h7, .inl (y 1, 18, .inr (.inl (vp_updL (vp_updL (vp_updL (vp_updL wf4000386 ((15 : Int32).toNatClampNeg) ((p1 - p1 / 10 * 10).toInt64)) ((14 : Int32).toNatClampNeg) (((p1 / 10) - (p1 / 10) / 10 * 10).toInt64)) ((13 : Int32).toNatClampNeg) ((((p1 / 10) / 10) - ((p1 / 10) / 10) / 10 * 10).toInt64)) ((12 : Int32).toNatClampNeg) (((((p1 / 10) / 10) / 10) - (((p1 / 10) / 10) / 10) / 10 * 10).toInt64))))), (h0, .inr (5, [.ref h2, .ref h3, .ref h4, .ref h5, .int 0])), (h2, .inr (8, [.ref h12, .int 0]))]) (va_runV (As := [.int 1]) (rest := []) ⟨hx, hb, hml, hown, hg⟩ (k_X8_get_27 l D y aS H.size h5 h10 wp4000387) (cwV 1 hg ggV_RX5_36_X8_get rfl rfl rfl (by decide +kernel) ⟨Nat.le_of_ble_eq_true rfl, Nat.le_of_ble_eq_true rfl⟩) (g_preV (q := (RX8, TX8, 2)) hK hP hD [4, 5] rfl (by decide) (ci := 8) (q0 := 4) rfl rfl) rfl rfl hl.1 rfl (lv_room (Nat.le_of_ble_eq_true rfl)) dX5_tellSecret_78 ⟨Nat.le_of_ble_eq_true rfl, Nat.le_of_ble_eq_true rfl⟩) hP hD hS hA [4, 5] [0, 1, 2, 3] rfl rfl (by decide) (by decide) ?_
  clear hP hD hS H locs
  refine fun r4000395 u H locs hq hP hD hS => ?_
  subst hq
  replace hP : va_P D vwCl [(h4, .inr (8, [.ref h7, .int wp4000385])), (h7, .inl (y 1, 18, .inr (.inl (vp_updL (vp_updL (vp_updL (vp_updL wf4000386 ((15 : Int32).toNatClampNeg) ((p1 - p1 / 10 * 10).toInt64)) ((14 : Int32).toNatClampNeg) (((p1 / 10) - (p1 / 10) / 10 * 10).toInt64)) ((13 : Int32).toNatClampNeg) ((((p1 / 10) / 10) - ((p1 / 10) / 10) / 10 * 10).toInt64)) ((12 : Int32).toNatClampNeg) (((((p1 / 10) / 10) / 10) - (((p1 / 10) / 10) / 10) / 10 * 10).toInt64))))), (h0, .inr (5, [.ref h2, .ref h3, .ref h4, .ref h5, .int 0])), (h2, .inr (8, [.ref h12, .int 0])), (h5, .inr (8, [.ref h10, .int wp4000387])), (h10, .inl (y 1, 3, .inr (.inl (vp_updL (fun _ => 0) ((2 : Int32).toNatClampNeg) 4))))] H := hP
  replace hD : va_D A [(h4, .inr (8, [.ref h7, .int wp4000385])), (h7, .inl (y 1, 18, .inr (.inl (vp_updL (vp_updL (vp_updL (vp_updL wf4000386 ((15 : Int32).toNatClampNeg) ((p1 - p1 / 10 * 10).toInt64)) ((14 : Int32).toNatClampNeg) (((p1 / 10) - (p1 / 10) / 10 * 10).toInt64)) ((13 : Int32).toNatClampNeg) ((((p1 / 10) / 10) - ((p1 / 10) / 10) / 10 * 10).toInt64)) ((12 : Int32).toNatClampNeg) (((((p1 / 10) / 10) / 10) - (((p1 / 10) / 10) / 10) / 10 * 10).toInt64))))), (h0, .inr (5, [.ref h2, .ref h3, .ref h4, .ref h5, .int 0])), (h2, .inr (8, [.ref h12, .int 0])), (h5, .inr (8, [.ref h10, .int wp4000387])), (h10, .inl (y 1, 3, .inr (.inl (vp_updL (fun _ => 0) ((2 : Int32).toNatClampNeg) 4))))] := hD
  refine lv_lconst (v := 0) hx hb dX5_tellSecret_81 (by decide) ?_
  refine W.lcmp hx hb dX5_tellSecret_82 ?_
  refine g_fi (v := 0) (by decide +kernel) ?_
  refine lv_if_le (tgt := 89) hx hb dX5_tellSecret_83 (by decide) (fun _ => ?_) (fun c9 => absurd c9 (by decide +kernel))
  refine lv_iinc (v := 2) (lv' := [(6, .int 2), (5, .int 0), (4, .int ((((p1 / 10) / 10) / 10) / 10)), (0, .ref h0), (1, .int 2), (2, .int p1), (3, .int 4)]) hx hb dX5_tellSecret_89 hl (k := 0) rfl (by decide +kernel) (by decide) rfl ?_
  clear hl
  clear ls
  intro ls hl
  refine lv_goto (tgt := 66) hx hb dX5_tellSecret_92 (by decide) ?_
  refine lv_iload hx hb dX5_tellSecret_66 (lv_at hl 0 rfl) ?_
  refine lv_iconst (v := 3) hx hb dX5_tellSecret_68 (by decide) ?_
  refine lv_icmp_ge (tgt := 95) hx hb dX5_tellSecret_69 (by decide) (fun c9 => absurd c9 (by decide +kernel)) (fun _ => ?_)
  refine lv_aload_n hx hb dX5_tellSecret_72 rfl (lv_at hl 3 rfl) ?_
  refine gm_get (D := D) (ci := 5) (v := .ref h5) (C := RX5) (T := TX5) (N := 5) hx hb hg inlX5 hown hK.1 hP 2 rfl rfl 3 (by decide) tX5_3 (hg _ gw_141) rfl dX5_tellSecret_73 ?_
  refine lv_iload hx hb dX5_tellSecret_76 (lv_at hl 0 rfl) ?_
  refine g_al (wr := [(h4, .inr (8, [.ref h7, .int wp4000385])), (h7, .inl (y 1, 18, .inr (.inl (vp_updL (vp_updL (vp_updL (vp_updL wf4000386 ((15 : Int32).toNatClampNeg) ((p1 - p1 / 10 * 10).toInt64)) ((14 : Int32).toNatClampNeg) (((p1 / 10) - (p1 / 10) / 10 * 10).toInt64)) ((13 : Int32).toNatClampNeg) ((((p1 / 10) / 10) - ((p1 / 10) / 10) / 10 * 10).toInt64)) ((12 : Int32).toNatClampNeg) (((((p1 / 10) / 10) / 10) - (((p1 / 10) / 10) / 10) / 10 * 10).toInt64))))), (h0, .inr (5, [.ref h2, .ref h3, .ref h4, .ref h5, .int 0])), (h2, .inr (8, [.ref h12, .int 0]))]) (va_runV (As := [.int 2]) (rest := []) ⟨hx, hb, hml, hown, hg⟩ (k_X8_get_28 l D y aS H.size h5 h10 wp4000387) (cwV 1 hg ggV_RX5_36_X8_get rfl rfl rfl (by decide +kernel) ⟨Nat.le_of_ble_eq_true rfl, Nat.le_of_ble_eq_true rfl⟩) (g_preV (q := (RX8, TX8, 2)) hK hP hD [4, 5] rfl (by decide) (ci := 8) (q0 := 4) rfl rfl) rfl rfl hl.1 rfl (lv_room (Nat.le_of_ble_eq_true rfl)) dX5_tellSecret_78 ⟨Nat.le_of_ble_eq_true rfl, Nat.le_of_ble_eq_true rfl⟩) hP hD hS hA [4, 5] [0, 1, 2, 3] rfl rfl (by decide) (by decide) ?_
  clear hP hD hS H locs
  refine fun r4000396 u H locs hq hP hD hS => ?_
  subst hq
  replace hP : va_P D vwCl [(h4, .inr (8, [.ref h7, .int wp4000385])), (h7, .inl (y 1, 18, .inr (.inl (vp_updL (vp_updL (vp_updL (vp_updL wf4000386 ((15 : Int32).toNatClampNeg) ((p1 - p1 / 10 * 10).toInt64)) ((14 : Int32).toNatClampNeg) (((p1 / 10) - (p1 / 10) / 10 * 10).toInt64)) ((13 : Int32).toNatClampNeg) ((((p1 / 10) / 10) - ((p1 / 10) / 10) / 10 * 10).toInt64)) ((12 : Int32).toNatClampNeg) (((((p1 / 10) / 10) / 10) - (((p1 / 10) / 10) / 10) / 10 * 10).toInt64))))), (h0, .inr (5, [.ref h2, .ref h3, .ref h4, .ref h5, .int 0])), (h2, .inr (8, [.ref h12, .int 0])), (h5, .inr (8, [.ref h10, .int wp4000387])), (h10, .inl (y 1, 3, .inr (.inl (vp_updL (fun _ => 0) ((2 : Int32).toNatClampNeg) 4))))] H := hP
  replace hD : va_D A [(h4, .inr (8, [.ref h7, .int wp4000385])), (h7, .inl (y 1, 18, .inr (.inl (vp_updL (vp_updL (vp_updL (vp_updL wf4000386 ((15 : Int32).toNatClampNeg) ((p1 - p1 / 10 * 10).toInt64)) ((14 : Int32).toNatClampNeg) (((p1 / 10) - (p1 / 10) / 10 * 10).toInt64)) ((13 : Int32).toNatClampNeg) ((((p1 / 10) / 10) - ((p1 / 10) / 10) / 10 * 10).toInt64)) ((12 : Int32).toNatClampNeg) (((((p1 / 10) / 10) / 10) - (((p1 / 10) / 10) / 10) / 10 * 10).toInt64))))), (h0, .inr (5, [.ref h2, .ref h3, .ref h4, .ref h5, .int 0])), (h2, .inr (8, [.ref h12, .int 0])), (h5, .inr (8, [.ref h10, .int wp4000387])), (h10, .inl (y 1, 3, .inr (.inl (vp_updL (fun _ => 0) ((2 : Int32).toNatClampNeg) 4))))] := hD
  refine lv_lconst (v := 0) hx hb dX5_tellSecret_81 (by decide) ?_
  refine W.lcmp hx hb dX5_tellSecret_82 ?_
  refine g_fi (v := 1) (by decide +kernel) ?_
  refine lv_if_le (tgt := 89) hx hb dX5_tellSecret_83 (by decide) (fun c9 => absurd c9 (by decide +kernel)) (fun _ => ?_)
  refine lv_iinc (v := 1) (lv' := [(5, .int 1), (6, .int 2), (4, .int ((((p1 / 10) / 10) / 10) / 10)), (0, .ref h0), (1, .int 2), (2, .int p1), (3, .int 4)]) hx hb dX5_tellSecret_86 hl (k := 1) rfl (by decide +kernel) (by decide) rfl ?_
  clear hl
  clear ls
  intro ls hl
  refine lv_iinc (v := 3) (lv' := [(6, .int 3), (5, .int 1), (4, .int ((((p1 / 10) / 10) / 10) / 10)), (0, .ref h0), (1, .int 2), (2, .int p1), (3, .int 4)]) hx hb dX5_tellSecret_89 hl (k := 1) rfl (by decide +kernel) (by decide) rfl ?_
  clear hl
  clear ls
  intro ls hl
  refine lv_goto (tgt := 66) hx hb dX5_tellSecret_92 (by decide) ?_
  refine lv_iload hx hb dX5_tellSecret_66 (lv_at hl 0 rfl) ?_
  refine lv_iconst (v := 3) hx hb dX5_tellSecret_68 (by decide) ?_
  refine lv_icmp_ge (tgt := 95) hx hb dX5_tellSecret_69 (by decide) (fun _ => ?_) (fun c9 => absurd c9 (by decide +kernel))
  refine lv_iload hx hb dX5_tellSecret_95 (lv_at hl 1 rfl) ?_
  exact g_iret hx hb hr hlocks () (hP.sub [2, 0, 1, 4, 5, 3] rfl) (hD.sub [2, 0, 1, 4, 5, 3] (by decide +kernel) rfl) hS rfl rfl (Nat.le_of_ble_eq_true rfl) (Nat.le_of_ble_eq_true rfl) dX5_tellSecret_97
set_option maxRecDepth 100000 in
set_option maxHeartbeats 4000000 in
theorem k_X8_set_39 (l : Launch) (D : va_G) (y : Nat → ClassId) (aS : Nat → Nat) (sz : Nat) (h0 : Nat) (p1 : Int64) (h2 : Nat) (wp4000402 : Int32) (wf4000403 : Nat → Int64) : Met l yX8_set (Cond.code yX8_set cX8_set 4 none :: wsL_law) ({ frames := 0, cells := 0, slots := 0, locals := 0 } : Room) (va_Pc [.ref h0, .int 4, .long p1] (gI D y aS [(h0, .inr (8, [.ref h2, .int wp4000402])), (h2, .inl (y 1, 18, .inr (.inl wf4000403)))] sz)) (va_Qv (fun (u : Unit) => True) (fun u => gO D (va_A [(h0, .inr (8, [.ref h2, .int wp4000402])), (h2, .inl (y 1, 18, .inr (.inl wf4000403)))] sz) [(h0, .inr (8, [.ref h2, .int wp4000402])), (h2, .inl (y 1, 18, .inr (.inl (vp_updL wf4000403 ((4 : Int32).toNatClampNeg) p1))))]) (va_A [(h0, .inr (8, [.ref h2, .int wp4000402])), (h2, .inl (y 1, 18, .inr (.inl wf4000403)))] sz)) 0 0 (va_A [(h0, .inr (8, [.ref h2, .int wp4000402])), (h2, .inl (y 1, 18, .inr (.inl wf4000403)))] sz) := by
  refine g_of (by decide) (Nat.le_of_ble_eq_true rfl) ?_
  intro p e s m below meth c ls A hx hb hr hml hown hg hlocks hin hsz hK hP hD hS hA hAe hl
  rw [← hAe]
  replace hown : s.vm.findClass RX8 = some m.cls := hown
  replace hl : lv_has ls 4 [(0, .ref h0), (1, .int 4), (2, .long p1)] := hl
  refine lv_iload_n hx hb dX8_set_0 rfl (lv_at hl 1 rfl) ?_
  refine lv_if_lt (tgt := 20) hx hb dX8_set_1 (by decide) (fun c9 => absurd c9 (by decide +kernel)) (fun _ => ?_)
  refine lv_iload_n hx hb dX8_set_4 rfl (lv_at hl 1 rfl) ?_
  refine lv_aload_n hx hb dX8_set_5 rfl (lv_at hl 0 rfl) ?_
  refine gm_get (D := D) (ci := 8) (v := .ref h2) (C := RX8) (T := TX8) (N := 2) hx hb hg inlX8 hown hK.1 hP 0 rfl rfl 0 (by decide) tX8_0 (hg _ gw_98) rfl dX8_set_6 ?_
  refine va_alen hx hb hK.1 hP 1 1 rfl rfl (v := 18) rfl dX8_set_9 ?_
  refine lv_icmp_ge (tgt := 20) hx hb dX8_set_10 (by decide) (fun c9 => absurd c9 (by decide +kernel)) (fun _ => ?_)
  refine lv_aload_n hx hb dX8_set_13 rfl (lv_at hl 0 rfl) ?_
  refine gm_get (D := D) (ci := 8) (v := .ref h2) (C := RX8) (T := TX8) (N := 2) hx hb hg inlX8 hown hK.1 hP 0 rfl rfl 0 (by decide) tX8_0 (hg _ gw_98) rfl dX8_set_14 ?_
  refine lv_iload_n hx hb dX8_set_17 rfl (lv_at hl 1 rfl) ?_
  refine lv_lload_n hx hb dX8_set_18 rfl (lv_at hl 2 rfl) ?_
  refine va_last hx hb hK.1 hP hD hS 1 1 rfl rfl (by unfold vp_in; decide +kernel) dX8_set_19 ?_
  clear hP hD hS
  refine fun H locs (hP : va_P D vwCl [(h0, .inr (8, [.ref h2, .int wp4000402])), (h2, .inl (y 1, 18, .inr (.inl (vp_updL wf4000403 ((4 : Int32).toNatClampNeg) p1))))] H) (hD : va_D A [(h0, .inr (8, [.ref h2, .int wp4000402])), (h2, .inl (y 1, 18, .inr (.inl (vp_updL wf4000403 ((4 : Int32).toNatClampNeg) p1))))]) hS => ?_
  exact g_vret hx hb hr hlocks () hP hD hS trivial (Nat.le_of_ble_eq_true rfl) (Nat.le_of_ble_eq_true rfl) dX8_set_20
set_option maxRecDepth 100000 in
set_option maxHeartbeats 4000000 in
theorem k_X8_get_29 (l : Launch) (D : va_G) (y : Nat → ClassId) (aS : Nat → Nat) (sz : Nat) (h0 : Nat) (h1 : Nat) (wp4000411 : Int32) : Met l yX8_get (Cond.code yX8_get cX8_get 2 (some .long) :: wsL_law) ({ frames := 0, cells := 0, slots := 0, locals := 0 } : Room) (va_Pc [.ref h0, .int 0] (gI D y aS [(h0, .inr (8, [.ref h1, .int wp4000411])), (h1, .inl (y 1, 3, .inr (.inl (vp_updL (fun _ => 0) ((0 : Int32).toNatClampNeg) 5))))] sz)) (va_Ql (fun (r : Int64) (u : Unit) => 5 = r) (fun u => gO D (va_A [(h0, .inr (8, [.ref h1, .int wp4000411])), (h1, .inl (y 1, 3, .inr (.inl (vp_updL (fun _ => 0) ((0 : Int32).toNatClampNeg) 5))))] sz) [(h0, .inr (8, [.ref h1, .int wp4000411])), (h1, .inl (y 1, 3, .inr (.inl (vp_updL (fun _ => 0) ((0 : Int32).toNatClampNeg) 5))))]) (va_A [(h0, .inr (8, [.ref h1, .int wp4000411])), (h1, .inl (y 1, 3, .inr (.inl (vp_updL (fun _ => 0) ((0 : Int32).toNatClampNeg) 5))))] sz)) 0 0 (va_A [(h0, .inr (8, [.ref h1, .int wp4000411])), (h1, .inl (y 1, 3, .inr (.inl (vp_updL (fun _ => 0) ((0 : Int32).toNatClampNeg) 5))))] sz) := by
  refine g_of (by decide) (Nat.le_of_ble_eq_true rfl) ?_
  intro p e s m below meth c ls A hx hb hr hml hown hg hlocks hin hsz hK hP hD hS hA hAe hl
  rw [← hAe]
  replace hown : s.vm.findClass RX8 = some m.cls := hown
  replace hl : lv_has ls 2 [(0, .ref h0), (1, .int 0)] := hl
  refine lv_iload_n hx hb dX8_get_0 rfl (lv_at hl 1 rfl) ?_
  refine lv_if_lt (tgt := 22) hx hb dX8_get_1 (by decide) (fun c9 => absurd c9 (by decide +kernel)) (fun _ => ?_)
  refine lv_iload_n hx hb dX8_get_4 rfl (lv_at hl 1 rfl) ?_
  refine lv_aload_n hx hb dX8_get_5 rfl (lv_at hl 0 rfl) ?_
  refine gm_get (D := D) (ci := 8) (v := .ref h1) (C := RX8) (T := TX8) (N := 2) hx hb hg inlX8 hown hK.1 hP 0 rfl rfl 0 (by decide) tX8_0 (hg _ gw_98) rfl dX8_get_6 ?_
  refine va_alen hx hb hK.1 hP 1 1 rfl rfl (v := 3) rfl dX8_get_9 ?_
  refine lv_icmp_ge (tgt := 22) hx hb dX8_get_10 (by decide) (fun c9 => absurd c9 (by decide +kernel)) (fun _ => ?_)
  refine lv_aload_n hx hb dX8_get_13 rfl (lv_at hl 0 rfl) ?_
  refine gm_get (D := D) (ci := 8) (v := .ref h1) (C := RX8) (T := TX8) (N := 2) hx hb hg inlX8 hown hK.1 hP 0 rfl rfl 0 (by decide) tX8_0 (hg _ gw_98) rfl dX8_get_14 ?_
  refine lv_iload_n hx hb dX8_get_17 rfl (lv_at hl 1 rfl) ?_
  refine va_lald hx hb hK.1 hP 1 1 rfl rfl (by unfold vp_in; decide +kernel) dX8_get_18 ?_
  refine g_fj (v := 5) (by rfl) ?_
  refine lv_goto (tgt := 23) hx hb dX8_get_19 (by decide) ?_
  exact g_lret hx hb hr hlocks () hP hD hS rfl (Nat.le_of_ble_eq_true rfl) (Nat.le_of_ble_eq_true rfl) dX8_get_23
set_option maxRecDepth 100000 in
set_option maxHeartbeats 4000000 in
theorem k_X8_get_30 (l : Launch) (D : va_G) (y : Nat → ClassId) (aS : Nat → Nat) (sz : Nat) (h0 : Nat) (h1 : Nat) (wp4000413 : Int32) : Met l yX8_get (Cond.code yX8_get cX8_get 2 (some .long) :: wsL_law) ({ frames := 0, cells := 0, slots := 0, locals := 0 } : Room) (va_Pc [.ref h0, .int 1] (gI D y aS [(h0, .inr (8, [.ref h1, .int wp4000413])), (h1, .inl (y 1, 3, .inr (.inl (vp_updL (fun _ => 0) ((0 : Int32).toNatClampNeg) 5))))] sz)) (va_Ql (fun (r : Int64) (u : Unit) => 0 = r) (fun u => gO D (va_A [(h0, .inr (8, [.ref h1, .int wp4000413])), (h1, .inl (y 1, 3, .inr (.inl (vp_updL (fun _ => 0) ((0 : Int32).toNatClampNeg) 5))))] sz) [(h0, .inr (8, [.ref h1, .int wp4000413])), (h1, .inl (y 1, 3, .inr (.inl (vp_updL (fun _ => 0) ((0 : Int32).toNatClampNeg) 5))))]) (va_A [(h0, .inr (8, [.ref h1, .int wp4000413])), (h1, .inl (y 1, 3, .inr (.inl (vp_updL (fun _ => 0) ((0 : Int32).toNatClampNeg) 5))))] sz)) 0 0 (va_A [(h0, .inr (8, [.ref h1, .int wp4000413])), (h1, .inl (y 1, 3, .inr (.inl (vp_updL (fun _ => 0) ((0 : Int32).toNatClampNeg) 5))))] sz) := by
  refine g_of (by decide) (Nat.le_of_ble_eq_true rfl) ?_
  intro p e s m below meth c ls A hx hb hr hml hown hg hlocks hin hsz hK hP hD hS hA hAe hl
  rw [← hAe]
  replace hown : s.vm.findClass RX8 = some m.cls := hown
  replace hl : lv_has ls 2 [(0, .ref h0), (1, .int 1)] := hl
  refine lv_iload_n hx hb dX8_get_0 rfl (lv_at hl 1 rfl) ?_
  refine lv_if_lt (tgt := 22) hx hb dX8_get_1 (by decide) (fun c9 => absurd c9 (by decide +kernel)) (fun _ => ?_)
  refine lv_iload_n hx hb dX8_get_4 rfl (lv_at hl 1 rfl) ?_
  refine lv_aload_n hx hb dX8_get_5 rfl (lv_at hl 0 rfl) ?_
  refine gm_get (D := D) (ci := 8) (v := .ref h1) (C := RX8) (T := TX8) (N := 2) hx hb hg inlX8 hown hK.1 hP 0 rfl rfl 0 (by decide) tX8_0 (hg _ gw_98) rfl dX8_get_6 ?_
  refine va_alen hx hb hK.1 hP 1 1 rfl rfl (v := 3) rfl dX8_get_9 ?_
  refine lv_icmp_ge (tgt := 22) hx hb dX8_get_10 (by decide) (fun c9 => absurd c9 (by decide +kernel)) (fun _ => ?_)
  refine lv_aload_n hx hb dX8_get_13 rfl (lv_at hl 0 rfl) ?_
  refine gm_get (D := D) (ci := 8) (v := .ref h1) (C := RX8) (T := TX8) (N := 2) hx hb hg inlX8 hown hK.1 hP 0 rfl rfl 0 (by decide) tX8_0 (hg _ gw_98) rfl dX8_get_14 ?_
  refine lv_iload_n hx hb dX8_get_17 rfl (lv_at hl 1 rfl) ?_
  refine va_lald hx hb hK.1 hP 1 1 rfl rfl (by unfold vp_in; decide +kernel) dX8_get_18 ?_
  refine g_fj (v := 0) (by rfl) ?_
  refine lv_goto (tgt := 23) hx hb dX8_get_19 (by decide) ?_
  exact g_lret hx hb hr hlocks () hP hD hS rfl (Nat.le_of_ble_eq_true rfl) (Nat.le_of_ble_eq_true rfl) dX8_get_23
set_option maxRecDepth 100000 in
set_option maxHeartbeats 4000000 in
theorem k_X8_get_31 (l : Launch) (D : va_G) (y : Nat → ClassId) (aS : Nat → Nat) (sz : Nat) (h0 : Nat) (h1 : Nat) (wp4000415 : Int32) : Met l yX8_get (Cond.code yX8_get cX8_get 2 (some .long) :: wsL_law) ({ frames := 0, cells := 0, slots := 0, locals := 0 } : Room) (va_Pc [.ref h0, .int 2] (gI D y aS [(h0, .inr (8, [.ref h1, .int wp4000415])), (h1, .inl (y 1, 3, .inr (.inl (vp_updL (fun _ => 0) ((0 : Int32).toNatClampNeg) 5))))] sz)) (va_Ql (fun (r : Int64) (u : Unit) => 0 = r) (fun u => gO D (va_A [(h0, .inr (8, [.ref h1, .int wp4000415])), (h1, .inl (y 1, 3, .inr (.inl (vp_updL (fun _ => 0) ((0 : Int32).toNatClampNeg) 5))))] sz) [(h0, .inr (8, [.ref h1, .int wp4000415])), (h1, .inl (y 1, 3, .inr (.inl (vp_updL (fun _ => 0) ((0 : Int32).toNatClampNeg) 5))))]) (va_A [(h0, .inr (8, [.ref h1, .int wp4000415])), (h1, .inl (y 1, 3, .inr (.inl (vp_updL (fun _ => 0) ((0 : Int32).toNatClampNeg) 5))))] sz)) 0 0 (va_A [(h0, .inr (8, [.ref h1, .int wp4000415])), (h1, .inl (y 1, 3, .inr (.inl (vp_updL (fun _ => 0) ((0 : Int32).toNatClampNeg) 5))))] sz) := by
  refine g_of (by decide) (Nat.le_of_ble_eq_true rfl) ?_
  intro p e s m below meth c ls A hx hb hr hml hown hg hlocks hin hsz hK hP hD hS hA hAe hl
  rw [← hAe]
  replace hown : s.vm.findClass RX8 = some m.cls := hown
  replace hl : lv_has ls 2 [(0, .ref h0), (1, .int 2)] := hl
  refine lv_iload_n hx hb dX8_get_0 rfl (lv_at hl 1 rfl) ?_
  refine lv_if_lt (tgt := 22) hx hb dX8_get_1 (by decide) (fun c9 => absurd c9 (by decide +kernel)) (fun _ => ?_)
  refine lv_iload_n hx hb dX8_get_4 rfl (lv_at hl 1 rfl) ?_
  refine lv_aload_n hx hb dX8_get_5 rfl (lv_at hl 0 rfl) ?_
  refine gm_get (D := D) (ci := 8) (v := .ref h1) (C := RX8) (T := TX8) (N := 2) hx hb hg inlX8 hown hK.1 hP 0 rfl rfl 0 (by decide) tX8_0 (hg _ gw_98) rfl dX8_get_6 ?_
  refine va_alen hx hb hK.1 hP 1 1 rfl rfl (v := 3) rfl dX8_get_9 ?_
  refine lv_icmp_ge (tgt := 22) hx hb dX8_get_10 (by decide) (fun c9 => absurd c9 (by decide +kernel)) (fun _ => ?_)
  refine lv_aload_n hx hb dX8_get_13 rfl (lv_at hl 0 rfl) ?_
  refine gm_get (D := D) (ci := 8) (v := .ref h1) (C := RX8) (T := TX8) (N := 2) hx hb hg inlX8 hown hK.1 hP 0 rfl rfl 0 (by decide) tX8_0 (hg _ gw_98) rfl dX8_get_14 ?_
  refine lv_iload_n hx hb dX8_get_17 rfl (lv_at hl 1 rfl) ?_
  refine va_lald hx hb hK.1 hP 1 1 rfl rfl (by unfold vp_in; decide +kernel) dX8_get_18 ?_
  refine g_fj (v := 0) (by rfl) ?_
  refine lv_goto (tgt := 23) hx hb dX8_get_19 (by decide) ?_
  exact g_lret hx hb hr hlocks () hP hD hS rfl (Nat.le_of_ble_eq_true rfl) (Nat.le_of_ble_eq_true rfl) dX8_get_23
set_option maxRecDepth 100000 in
set_option maxHeartbeats 4000000 in
theorem k_X5_tellSecret_9 (l : Launch) (D : va_G) (y : Nat → ClassId) (aS : Nat → Nat) (sz : Nat) (h0 : Nat) (p1 : Int32) (h2 : Nat) (h3 : Nat) (h4 : Nat) (h5 : Nat) (wp4000417 : Int32) (h7 : Nat) (wp4000418 : Int32) (wf4000419 : Nat → Int64) (h10 : Nat) (wp4000420 : Int32) (h12 : Nat) : Met l yX5_tellSecret (Cond.code yX5_tellSecret cX5_tellSecret 7 (some .int) :: wsL_law) ({ frames := 1, cells := 0, slots := 0, locals := 23 } : Room) (va_Pc [.ref h0, .int 0, .int p1, .int 5] (gI D y aS [(h0, .inr (5, [.ref h2, .ref h3, .ref h4, .ref h5, .int wp4000417])), (h4, .inr (8, [.ref h7, .int wp4000418])), (h7, .inl (y 1, 18, .inr (.inl wf4000419))), (h5, .inr (8, [.ref h10, .int wp4000420])), (h10, .inl (y 1, 3, .inr (.inl (fun _ => 0)))), (h2, .inr (8, [.ref h12, .int 0]))] sz)) (va_Qi (fun (r : Int32) (u : Unit) => 1 = r) (fun u => gO D (va_A [(h0, .inr (5, [.ref h2, .ref h3, .ref h4, .ref h5, .int wp4000417])), (h4, .inr (8, [.ref h7, .int wp4000418])), (h7, .inl (y 1, 18, .inr (.inl wf4000419))), (h5, .inr (8, [.ref h10, .int wp4000420])), (h10, .inl (y 1, 3, .inr (.inl (fun _ => 0)))), (h2, .inr (8, [.ref h12, .int 0]))] sz) [(h0, .inr (5, [.ref h2, .ref h3, .ref h4, .ref h5, .int 0])), (h4, .inr (8, [.ref h7, .int wp4000418])), (h7, .inl (y 1, 18, .inr (.inl (vp_updL (vp_updL (vp_updL (vp_updL (vp_updL wf4000419 ((4 : Int32).toNatClampNeg) ((p1 - p1 / 10 * 10).toInt64)) ((3 : Int32).toNatClampNeg) (((p1 / 10) - (p1 / 10) / 10 * 10).toInt64)) ((2 : Int32).toNatClampNeg) ((((p1 / 10) / 10) - ((p1 / 10) / 10) / 10 * 10).toInt64)) ((1 : Int32).toNatClampNeg) (((((p1 / 10) / 10) / 10) - (((p1 / 10) / 10) / 10) / 10 * 10).toInt64)) ((0 : Int32).toNatClampNeg) ((((((p1 / 10) / 10) / 10) / 10) - ((((p1 / 10) / 10) / 10) / 10) / 10 * 10).toInt64))))), (h5, .inr (8, [.ref h10, .int wp4000420])), (h10, .inl (y 1, 3, .inr (.inl (vp_updL (fun _ => 0) ((0 : Int32).toNatClampNeg) 5)))), (h2, .inr (8, [.ref h12, .int 0]))]) (va_A [(h0, .inr (5, [.ref h2, .ref h3, .ref h4, .ref h5, .int wp4000417])), (h4, .inr (8, [.ref h7, .int wp4000418])), (h7, .inl (y 1, 18, .inr (.inl wf4000419))), (h5, .inr (8, [.ref h10, .int wp4000420])), (h10, .inl (y 1, 3, .inr (.inl (fun _ => 0)))), (h2, .inr (8, [.ref h12, .int 0]))] sz)) 0 0 (va_A [(h0, .inr (5, [.ref h2, .ref h3, .ref h4, .ref h5, .int wp4000417])), (h4, .inr (8, [.ref h7, .int wp4000418])), (h7, .inl (y 1, 18, .inr (.inl wf4000419))), (h5, .inr (8, [.ref h10, .int wp4000420])), (h10, .inl (y 1, 3, .inr (.inl (fun _ => 0)))), (h2, .inr (8, [.ref h12, .int 0]))] sz) := by
  refine g_of (by decide) (Nat.le_of_ble_eq_true rfl) ?_
  intro p e s m below meth c ls A hx hb hr hml hown hg hlocks hin hsz hK hP hD hS hA hAe hl
  rw [← hAe]
  replace hown : s.vm.findClass RX5 = some m.cls := hown
  replace hl : lv_has ls 7 [(0, .ref h0), (1, .int 0), (2, .int p1), (3, .int 5)] := hl
  refine lv_iload_n hx hb dX5_tellSecret_0 rfl (lv_at hl 2 rfl) ?_
  refine lv_istore (lv' := [(4, .int p1), (0, .ref h0), (1, .int 0), (2, .int p1), (3, .int 5)]) hx hb dX5_tellSecret_1 hl (by decide) rfl ?_
  clear hl
  clear ls
  intro ls hl
  refine lv_iload_n hx hb dX5_tellSecret_3 rfl (lv_at hl 4 rfl) ?_
  refine lv_iconst (v := 1) hx hb dX5_tellSecret_4 (by decide) ?_
  refine lv_isub hx hb dX5_tellSecret_5 ?_
  refine g_fi (v := 4) (by decide +kernel) ?_
  refine lv_istore (lv' := [(5, .int 4), (4, .int p1), (0, .ref h0), (1, .int 0), (2, .int p1), (3, .int 5)]) hx hb dX5_tellSecret_6 hl (by decide) rfl ?_
  clear hl
  clear ls
  intro ls hl
  refine lv_iload hx hb dX5_tellSecret_8 (lv_at hl 0 rfl) ?_
  refine lv_if_lt (tgt := 46) hx hb dX5_tellSecret_10 (by decide) (fun c9 => absurd c9 (by decide +kernel)) (fun _ => ?_)
  refine lv_aload_n hx hb dX5_tellSecret_13 rfl (lv_at hl 2 rfl) ?_
  refine gm_get (D := D) (ci := 5) (v := .ref h4) (C := RX5) (T := TX5) (N := 5) hx hb hg inlX5 hown hK.1 hP 0 rfl rfl 2 (by decide) tX5_2 (hg _ gw_140) rfl dX5_tellSecret_14 ?_
  refine lv_iload_n hx hb dX5_tellSecret_17 rfl (lv_at hl 3 rfl) ?_
  refine lv_bipush (v := 6) hx hb dX5_tellSecret_18 (by decide +kernel) ?_
  refine lv_imul hx hb dX5_tellSecret_20 ?_
  refine g_fi (v := 0) (by decide +kernel) ?_
  refine lv_iload hx hb dX5_tellSecret_21 (lv_at hl 0 rfl) ?_
  refine lv_iadd hx hb dX5_tellSecret_23 ?_
  refine g_fi (v := 4) (by decide +kernel) ?_
  refine lv_iload hx hb dX5_tellSecret_24 (lv_at hl 1 rfl) ?_
  refine lv_bipush (v := 10) hx hb dX5_tellSecret_26 (by decide +kernel) ?_
  refine lv_irem hx hb dX5_tellSecret_28 (by decide +kernel) ?_
  refine lv_i2l (v := ((p1 - p1 / 10 * 10).toInt64)) hx hb dX5_tellSecret_29 rfl ?_
  refine g_av (wr := [(h0, .inr (5, [.ref h2, .ref h3, .ref h4, .ref h5, .int wp4000417])), (h5, .inr (8, [.ref h10, .int wp4000420])), (h10, .inl (y 1, 3, .inr (.inl (fun _ => 0)))), (h2, .inr (8, [.ref h12, .int 0]))]) (va_runV (As := [.int 4, .long ((p1 - p1 / 10 * 10).toInt64)]) (rest := []) ⟨hx, hb, hml, hown, hg⟩ (k_X8_set_39 l D y aS s.heap.size h4 ((p1 - p1 / 10 * 10).toInt64) h7 wp4000418 wf4000419) (cwV 2 hg ggV_RX5_29_X8_set rfl rfl rfl (by decide +kernel) ⟨Nat.le_of_ble_eq_true rfl, Nat.le_of_ble_eq_true rfl⟩) (g_preV (q := (RX8, TX8, 2)) hK hP hD [1, 2] rfl (by decide) (ci := 8) (q0 := 1) rfl rfl) rfl rfl hl.1 rfl (lv_room (Nat.le_of_ble_eq_true rfl)) dX5_tellSecret_30 ⟨Nat.le_of_ble_eq_true rfl, Nat.le_of_ble_eq_true rfl⟩) hP hD hS hA [1, 2] [0, 3, 4, 5] rfl rfl (by decide) (by decide) ?_
  clear hP hD hS
  refine fun u H locs hq hP hD hS => ?_
  replace hP : va_P D vwCl [(h0, .inr (5, [.ref h2, .ref h3, .ref h4, .ref h5, .int wp4000417])), (h5, .inr (8, [.ref h10, .int wp4000420])), (h10, .inl (y 1, 3, .inr (.inl (fun _ => 0)))), (h2, .inr (8, [.ref h12, .int 0])), (h4, .inr (8, [.ref h7, .int wp4000418])), (h7, .inl (y 1, 18, .inr (.inl (vp_updL wf4000419 ((4 : Int32).toNatClampNeg) ((p1 - p1 / 10 * 10).toInt64)))))] H := hP
  replace hD : va_D A [(h0, .inr (5, [.ref h2, .ref h3, .ref h4, .ref h5, .int wp4000417])), (h5, .inr (8, [.ref h10, .int wp4000420])), (h10, .inl (y 1, 3, .inr (.inl (fun _ => 0)))), (h2, .inr (8, [.ref h12, .int 0])), (h4, .inr (8, [.ref h7, .int wp4000418])), (h7, .inl (y 1, 18, .inr (.inl (vp_updL wf4000419 ((4 : Int32).toNatClampNeg) ((p1 - p1 / 10 * 10).toInt64)))))] := hD
  refine lv_iload hx hb dX5_tellSecret_33 (lv_at hl 1 rfl) ?_
  refine lv_bipush (v := 10) hx hb dX5_tellSecret_35 (by decide +kernel) ?_
  refine lv_idiv hx hb dX5_tellSecret_37 (by decide +kernel) ?_
  refine lv_istore (lv' := [(4, .int (p1 / 10)), (5, .int 4), (0, .ref h0), (1, .int 0), (2, .int p1), (3, .int 5)]) hx hb dX5_tellSecret_38 hl (by decide) rfl ?_
  clear hl
  clear ls
  intro ls hl
  refine lv_iinc (v := 3) (lv' := [(5, .int 3), (4, .int (p1 / 10)), (0, .ref h0), (1, .int 0), (2, .int p1), (3, .int 5)]) hx hb dX5_tellSecret_40 hl (k := 1) rfl (by decide +kernel) (by decide) rfl ?_
  clear hl
  clear ls
  intro ls hl
  refine lv_goto (tgt := 8) hx hb dX5_tellSecret_43 (by decide) ?_
  refine lv_iload hx hb dX5_tellSecret_8 (lv_at hl 0 rfl) ?_
  refine lv_if_lt (tgt := 46) hx hb dX5_tellSecret_10 (by decide) (fun c9 => absurd c9 (by decide +kernel)) (fun _ => ?_)
  refine lv_aload_n hx hb dX5_tellSecret_13 rfl (lv_at hl 2 rfl) ?_
  refine gm_get (D := D) (ci := 5) (v := .ref h4) (C := RX5) (T := TX5) (N := 5) hx hb hg inlX5 hown hK.1 hP 0 rfl rfl 2 (by decide) tX5_2 (hg _ gw_140) rfl dX5_tellSecret_14 ?_
  refine lv_iload_n hx hb dX5_tellSecret_17 rfl (lv_at hl 3 rfl) ?_
  refine lv_bipush (v := 6) hx hb dX5_tellSecret_18 (by decide +kernel) ?_
  refine lv_imul hx hb dX5_tellSecret_20 ?_
  refine g_fi (v := 0) (by decide +kernel) ?_
  refine lv_iload hx hb dX5_tellSecret_21 (lv_at hl 0 rfl) ?_
  refine lv_iadd hx hb dX5_tellSecret_23 ?_
  refine g_fi (v := 3) (by decide +kernel) ?_
  refine lv_iload hx hb dX5_tellSecret_24 (lv_at hl 1 rfl) ?_
  refine lv_bipush (v := 10) hx hb dX5_tellSecret_26 (by decide +kernel) ?_
  refine lv_irem hx hb dX5_tellSecret_28 (by decide +kernel) ?_
  refine lv_i2l (v := (((p1 / 10) - (p1 / 10) / 10 * 10).toInt64)) hx hb dX5_tellSecret_29 rfl ?_
  refine g_av (wr := [(h0, .inr (5, [.ref h2, .ref h3, .ref h4, .ref h5, .int wp4000417])), (h5, .inr (8, [.ref h10, .int wp4000420])), (h10, .inl (y 1, 3, .inr (.inl (fun _ => 0)))), (h2, .inr (8, [.ref h12, .int 0]))]) (va_runV (As := [.int 3, .long (((p1 / 10) - (p1 / 10) / 10 * 10).toInt64)]) (rest := []) ⟨hx, hb, hml, hown, hg⟩ (k_X8_set_36 l D y aS H.size h4 (((p1 / 10) - (p1 / 10) / 10 * 10).toInt64) h7 wp4000418 (vp_updL wf4000419 ((4 : Int32).toNatClampNeg) ((p1 - p1 / 10 * 10).toInt64))) (cwV 2 hg ggV_RX5_29_X8_set rfl rfl rfl (by decide +kernel) ⟨Nat.le_of_ble_eq_true rfl, Nat.le_of_ble_eq_true rfl⟩) (g_preV (q := (RX8, TX8, 2)) hK hP hD [4, 5] rfl (by decide) (ci := 8) (q0 := 4) rfl rfl) rfl rfl hl.1 rfl (lv_room (Nat.le_of_ble_eq_true rfl)) dX5_tellSecret_30 ⟨Nat.le_of_ble_eq_true rfl, Nat.le_of_ble_eq_true rfl⟩) hP hD hS hA [4, 5] [0, 1, 2, 3] rfl rfl (by decide) (by decide) ?_
  clear hP hD hS H locs
  refine fun u H locs hq hP hD hS => ?_
  replace hP : va_P D vwCl [(h0, .inr (5, [.ref h2, .ref h3, .ref h4, .ref h5, .int wp4000417])), (h5, .inr (8, [.ref h10, .int wp4000420])), (h10, .inl (y 1, 3, .inr (.inl (fun _ => 0)))), (h2, .inr (8, [.ref h12, .int 0])), (h4, .inr (8, [.ref h7, .int wp4000418])), (h7, .inl (y 1, 18, .inr (.inl (vp_updL (vp_updL wf4000419 ((4 : Int32).toNatClampNeg) ((p1 - p1 / 10 * 10).toInt64)) ((3 : Int32).toNatClampNeg) (((p1 / 10) - (p1 / 10) / 10 * 10).toInt64)))))] H := hP
  replace hD : va_D A [(h0, .inr (5, [.ref h2, .ref h3, .ref h4, .ref h5, .int wp4000417])), (h5, .inr (8, [.ref h10, .int wp4000420])), (h10, .inl (y 1, 3, .inr (.inl (fun _ => 0)))), (h2, .inr (8, [.ref h12, .int 0])), (h4, .inr (8, [.ref h7, .int wp4000418])), (h7, .inl (y 1, 18, .inr (.inl (vp_updL (vp_updL wf4000419 ((4 : Int32).toNatClampNeg) ((p1 - p1 / 10 * 10).toInt64)) ((3 : Int32).toNatClampNeg) (((p1 / 10) - (p1 / 10) / 10 * 10).toInt64)))))] := hD
  refine lv_iload hx hb dX5_tellSecret_33 (lv_at hl 1 rfl) ?_
  refine lv_bipush (v := 10) hx hb dX5_tellSecret_35 (by decide +kernel) ?_
  refine lv_idiv hx hb dX5_tellSecret_37 (by decide +kernel) ?_
  refine lv_istore (lv' := [(4, .int ((p1 / 10) / 10)), (5, .int 3), (0, .ref h0), (1, .int 0), (2, .int p1), (3, .int 5)]) hx hb dX5_tellSecret_38 hl (by decide) rfl ?_
  clear hl
  clear ls
  intro ls hl
  refine lv_iinc (v := 2) (lv' := [(5, .int 2), (4, .int ((p1 / 10) / 10)), (0, .ref h0), (1, .int 0), (2, .int p1), (3, .int 5)]) hx hb dX5_tellSecret_40 hl (k := 1) rfl (by decide +kernel) (by decide) rfl ?_
  clear hl
  clear ls
  intro ls hl
  refine lv_goto (tgt := 8) hx hb dX5_tellSecret_43 (by decide) ?_
  refine lv_iload hx hb dX5_tellSecret_8 (lv_at hl 0 rfl) ?_
  refine lv_if_lt (tgt := 46) hx hb dX5_tellSecret_10 (by decide) (fun c9 => absurd c9 (by decide +kernel)) (fun _ => ?_)
  refine lv_aload_n hx hb dX5_tellSecret_13 rfl (lv_at hl 2 rfl) ?_
  refine gm_get (D := D) (ci := 5) (v := .ref h4) (C := RX5) (T := TX5) (N := 5) hx hb hg inlX5 hown hK.1 hP 0 rfl rfl 2 (by decide) tX5_2 (hg _ gw_140) rfl dX5_tellSecret_14 ?_
  refine lv_iload_n hx hb dX5_tellSecret_17 rfl (lv_at hl 3 rfl) ?_
  refine lv_bipush (v := 6) hx hb dX5_tellSecret_18 (by decide +kernel) ?_
  refine lv_imul hx hb dX5_tellSecret_20 ?_
  refine g_fi (v := 0) (by decide +kernel) ?_
  refine lv_iload hx hb dX5_tellSecret_21 (lv_at hl 0 rfl) ?_
  refine lv_iadd hx hb dX5_tellSecret_23 ?_
  refine g_fi (v := 2) (by decide +kernel) ?_
  refine lv_iload hx hb dX5_tellSecret_24 (lv_at hl 1 rfl) ?_
  refine lv_bipush (v := 10) hx hb dX5_tellSecret_26 (by decide +kernel) ?_
  refine lv_irem hx hb dX5_tellSecret_28 (by decide +kernel) ?_
  refine lv_i2l (v := ((((p1 / 10) / 10) - ((p1 / 10) / 10) / 10 * 10).toInt64)) hx hb dX5_tellSecret_29 rfl ?_
  refine g_av (wr := [(h0, .inr (5, [.ref h2, .ref h3, .ref h4, .ref h5, .int wp4000417])), (h5, .inr (8, [.ref h10, .int wp4000420])), (h10, .inl (y 1, 3, .inr (.inl (fun _ => 0)))), (h2, .inr (8, [.ref h12, .int 0]))]) (va_runV (As := [.int 2, .long ((((p1 / 10) / 10) - ((p1 / 10) / 10) / 10 * 10).toInt64)]) (rest := []) ⟨hx, hb, hml, hown, hg⟩ (k_X8_set_33 l D y aS H.size h4 ((((p1 / 10) / 10) - ((p1 / 10) / 10) / 10 * 10).toInt64) h7 wp4000418 (vp_updL (vp_updL wf4000419 ((4 : Int32).toNatClampNeg) ((p1 - p1 / 10 * 10).toInt64)) ((3 : Int32).toNatClampNeg) (((p1 / 10) - (p1 / 10) / 10 * 10).toInt64))) (cwV 2 hg ggV_RX5_29_X8_set rfl rfl rfl (by decide +kernel) ⟨Nat.le_of_ble_eq_true rfl, Nat.le_of_ble_eq_true rfl⟩) (g_preV (q := (RX8, TX8, 2)) hK hP hD [4, 5] rfl (by decide) (ci := 8) (q0 := 4) rfl rfl) rfl rfl hl.1 rfl (lv_room (Nat.le_of_ble_eq_true rfl)) dX5_tellSecret_30 ⟨Nat.le_of_ble_eq_true rfl, Nat.le_of_ble_eq_true rfl⟩) hP hD hS hA [4, 5] [0, 1, 2, 3] rfl rfl (by decide) (by decide) ?_
  clear hP hD hS H locs
  refine fun u H locs hq hP hD hS => ?_
  replace hP : va_P D vwCl [(h0, .inr (5, [.ref h2, .ref h3, .ref h4, .ref h5, .int wp4000417])), (h5, .inr (8, [.ref h10, .int wp4000420])), (h10, .inl (y 1, 3, .inr (.inl (fun _ => 0)))), (h2, .inr (8, [.ref h12, .int 0])), (h4, .inr (8, [.ref h7, .int wp4000418])), (h7, .inl (y 1, 18, .inr (.inl (vp_updL (vp_updL (vp_updL wf4000419 ((4 : Int32).toNatClampNeg) ((p1 - p1 / 10 * 10).toInt64)) ((3 : Int32).toNatClampNeg) (((p1 / 10) - (p1 / 10) / 10 * 10).toInt64)) ((2 : Int32).toNatClampNeg) ((((p1 / 10) / 10) - ((p1 / 10) / 10) / 10 * 10).toInt64)))))] H := hP
  replace hD : va_D A [(h0, .inr (5, [.ref h2, .ref h3, .ref h4, .ref h5, .int wp4000417])), (h5, .inr (8, [.ref h10, .int wp4000420])), (h10, .inl (y 1, 3, .inr (.inl (fun _ => 0)))), (h2, .inr (8, [.ref h12, .int 0])), (h4, .inr (8, [.ref h7, .int wp4000418])), (h7, .inl (y 1, 18, .inr (.inl (vp_updL (vp_updL (vp_updL wf4000419 ((4 : Int32).toNatClampNeg) ((p1 - p1 / 10 * 10).toInt64)) ((3 : Int32).toNatClampNeg) (((p1 / 10) - (p1 / 10) / 10 * 10).toInt64)) ((2 : Int32).toNatClampNeg) ((((p1 / 10) / 10) - ((p1 / 10) / 10) / 10 * 10).toInt64)))))] := hD
  refine lv_iload hx hb dX5_tellSecret_33 (lv_at hl 1 rfl) ?_
  refine lv_bipush (v := 10) hx hb dX5_tellSecret_35 (by decide +kernel) ?_
  refine lv_idiv hx hb dX5_tellSecret_37 (by decide +kernel) ?_
  refine lv_istore (lv' := [(4, .int (((p1 / 10) / 10) / 10)), (5, .int 2), (0, .ref h0), (1, .int 0), (2, .int p1), (3, .int 5)]) hx hb dX5_tellSecret_38 hl (by decide) rfl ?_
  clear hl
  clear ls
  intro ls hl
  refine lv_iinc (v := 1) (lv' := [(5, .int 1), (4, .int (((p1 / 10) / 10) / 10)), (0, .ref h0), (1, .int 0), (2, .int p1), (3, .int 5)]) hx hb dX5_tellSecret_40 hl (k := 1) rfl (by decide +kernel) (by decide) rfl ?_
  clear hl
  clear ls
  intro ls hl
  refine lv_goto (tgt := 8) hx hb dX5_tellSecret_43 (by decide) ?_
  refine lv_iload hx hb dX5_tellSecret_8 (lv_at hl 0 rfl) ?_
  refine lv_if_lt (tgt := 46) hx hb dX5_tellSecret_10 (by decide) (fun c9 => absurd c9 (by decide +kernel)) (fun _ => ?_)
  refine lv_aload_n hx hb dX5_tellSecret_13 rfl (lv_at hl 2 rfl) ?_
  refine gm_get (D := D) (ci := 5) (v := .ref h4) (C := RX5) (T := TX5) (N := 5) hx hb hg inlX5 hown hK.1 hP 0 rfl rfl 2 (by decide) tX5_2 (hg _ gw_140) rfl dX5_tellSecret_14 ?_
  refine lv_iload_n hx hb dX5_tellSecret_17 rfl (lv_at hl 3 rfl) ?_
  refine lv_bipush (v := 6) hx hb dX5_tellSecret_18 (by decide +kernel) ?_
  refine lv_imul hx hb dX5_tellSecret_20 ?_
  refine g_fi (v := 0) (by decide +kernel) ?_
  refine lv_iload hx hb dX5_tellSecret_21 (lv_at hl 0 rfl) ?_
  refine lv_iadd hx hb dX5_tellSecret_23 ?_
  refine g_fi (v := 1) (by decide +kernel) ?_
  refine lv_iload hx hb dX5_tellSecret_24 (lv_at hl 1 rfl) ?_
  refine lv_bipush (v := 10) hx hb dX5_tellSecret_26 (by decide +kernel) ?_
  refine lv_irem hx hb dX5_tellSecret_28 (by decide +kernel) ?_
  refine lv_i2l (v := (((((p1 / 10) / 10) / 10) - (((p1 / 10) / 10) / 10) / 10 * 10).toInt64)) hx hb dX5_tellSecret_29 rfl ?_
  refine g_av (wr := [(h0, .inr (5, [.ref h2, .ref h3, .ref h4, .ref h5, .int wp4000417])), (h5, .inr (8, [.ref h10, .int wp4000420])), (h10, .inl (y 1, 3, .inr (.inl (fun _ => 0)))), (h2, .inr (8, [.ref h12, .int 0]))]) (va_runV (As := [.int 1, .long (((((p1 / 10) / 10) / 10) - (((p1 / 10) / 10) / 10) / 10 * 10).toInt64)]) (rest := []) ⟨hx, hb, hml, hown, hg⟩ (k_X8_set_27 l D y aS H.size h4 (((((p1 / 10) / 10) / 10) - (((p1 / 10) / 10) / 10) / 10 * 10).toInt64) h7 wp4000418 (vp_updL (vp_updL (vp_updL wf4000419 ((4 : Int32).toNatClampNeg) ((p1 - p1 / 10 * 10).toInt64)) ((3 : Int32).toNatClampNeg) (((p1 / 10) - (p1 / 10) / 10 * 10).toInt64)) ((2 : Int32).toNatClampNeg) ((((p1 / 10) / 10) - ((p1 / 10) / 10) / 10 * 10).toInt64))) (cwV 2 hg ggV_RX5_29_X8_set rfl rfl rfl (by decide +kernel) ⟨Nat.le_of_ble_eq_true rfl, Nat.le_of_ble_eq_true rfl⟩) (g_preV (q := (RX8, TX8, 2)) hK hP hD [4, 5] rfl (by decide) (ci := 8) (q0 := 4) rfl rfl) rfl rfl hl.1 rfl (lv_room (Nat.le_of_ble_eq_true rfl)) dX5_tellSecret_30 ⟨Nat.le_of_ble_eq_true rfl, Nat.le_of_ble_eq_true rfl⟩) hP hD hS hA [4, 5] [0, 1, 2, 3] rfl rfl (by decide) (by decide) ?_
  clear hP hD hS H locs
  refine fun u H locs hq hP hD hS => ?_
  replace hP : va_P D vwCl [(h0, .inr (5, [.ref h2, .ref h3, .ref h4, .ref h5, .int wp4000417])), (h5, .inr (8, [.ref h10, .int wp4000420])), (h10, .inl (y 1, 3, .inr (.inl (fun _ => 0)))), (h2, .inr (8, [.ref h12, .int 0])), (h4, .inr (8, [.ref h7, .int wp4000418])), (h7, .inl (y 1, 18, .inr (.inl (vp_updL (vp_updL (vp_updL (vp_updL wf4000419 ((4 : Int32).toNatClampNeg) ((p1 - p1 / 10 * 10).toInt64)) ((3 : Int32).toNatClampNeg) (((p1 / 10) - (p1 / 10) / 10 * 10).toInt64)) ((2 : Int32).toNatClampNeg) ((((p1 / 10) / 10) - ((p1 / 10) / 10) / 10 * 10).toInt64)) ((1 : Int32).toNatClampNeg) (((((p1 / 10) / 10) / 10) - (((p1 / 10) / 10) / 10) / 10 * 10).toInt64)))))] H := hP
  replace hD : va_D A [(h0, .inr (5, [.ref h2, .ref h3, .ref h4, .ref h5, .int wp4000417])), (h5, .inr (8, [.ref h10, .int wp4000420])), (h10, .inl (y 1, 3, .inr (.inl (fun _ => 0)))), (h2, .inr (8, [.ref h12, .int 0])), (h4, .inr (8, [.ref h7, .int wp4000418])), (h7, .inl (y 1, 18, .inr (.inl (vp_updL (vp_updL (vp_updL (vp_updL wf4000419 ((4 : Int32).toNatClampNeg) ((p1 - p1 / 10 * 10).toInt64)) ((3 : Int32).toNatClampNeg) (((p1 / 10) - (p1 / 10) / 10 * 10).toInt64)) ((2 : Int32).toNatClampNeg) ((((p1 / 10) / 10) - ((p1 / 10) / 10) / 10 * 10).toInt64)) ((1 : Int32).toNatClampNeg) (((((p1 / 10) / 10) / 10) - (((p1 / 10) / 10) / 10) / 10 * 10).toInt64)))))] := hD
  refine lv_iload hx hb dX5_tellSecret_33 (lv_at hl 1 rfl) ?_
  refine lv_bipush (v := 10) hx hb dX5_tellSecret_35 (by decide +kernel) ?_
  refine lv_idiv hx hb dX5_tellSecret_37 (by decide +kernel) ?_
  refine lv_istore (lv' := [(4, .int ((((p1 / 10) / 10) / 10) / 10)), (5, .int 1), (0, .ref h0), (1, .int 0), (2, .int p1), (3, .int 5)]) hx hb dX5_tellSecret_38 hl (by decide) rfl ?_
  clear hl
  clear ls
  intro ls hl
  refine lv_iinc (v := 0) (lv' := [(5, .int 0), (4, .int ((((p1 / 10) / 10) / 10) / 10)), (0, .ref h0), (1, .int 0), (2, .int p1), (3, .int 5)]) hx hb dX5_tellSecret_40 hl (k := 1) rfl (by decide +kernel) (by decide) rfl ?_
  clear hl
  clear ls
  intro ls hl
  refine lv_goto (tgt := 8) hx hb dX5_tellSecret_43 (by decide) ?_
  refine lv_iload hx hb dX5_tellSecret_8 (lv_at hl 0 rfl) ?_
  refine lv_if_lt (tgt := 46) hx hb dX5_tellSecret_10 (by decide) (fun c9 => absurd c9 (by decide +kernel)) (fun _ => ?_)
  refine lv_aload_n hx hb dX5_tellSecret_13 rfl (lv_at hl 2 rfl) ?_
  refine gm_get (D := D) (ci := 5) (v := .ref h4) (C := RX5) (T := TX5) (N := 5) hx hb hg inlX5 hown hK.1 hP 0 rfl rfl 2 (by decide) tX5_2 (hg _ gw_140) rfl dX5_tellSecret_14 ?_
  refine lv_iload_n hx hb dX5_tellSecret_17 rfl (lv_at hl 3 rfl) ?_
  refine lv_bipush (v := 6) hx hb dX5_tellSecret_18 (by decide +kernel) ?_
  refine lv_imul hx hb dX5_tellSecret_20 ?_
  refine g_fi (v := 0) (by decide +kernel) ?_
  refine lv_iload hx hb dX5_tellSecret_21 (lv_at hl 0 rfl) ?_
  refine lv_iadd hx hb dX5_tellSecret_23 ?_
  refine g_fi (v := 0) (by decide +kernel) ?_
  refine lv_iload hx hb dX5_tellSecret_24 (lv_at hl 1 rfl) ?_
  refine lv_bipush (v := 10) hx hb dX5_tellSecret_26 (by decide +kernel) ?_
  refine lv_irem hx hb dX5_tellSecret_28 (by decide +kernel) ?_
  refine lv_i2l (v := ((((((p1 / 10) / 10) / 10) / 10) - ((((p1 / 10) / 10) / 10) / 10) / 10 * 10).toInt64)) hx hb dX5_tellSecret_29 rfl ?_
  refine g_av (wr := [(h0, .inr (5, [.ref h2, .ref h3, .ref h4, .ref h5, .int wp4000417])), (h5, .inr (8, [.ref h10, .int wp4000420])), (h10, .inl (y 1, 3, .inr (.inl (fun _ => 0)))), (h2, .inr (8, [.ref h12, .int 0]))]) (va_runV (As := [.int 0, .long ((((((p1 / 10) / 10) / 10) / 10) - ((((p1 / 10) / 10) / 10) / 10) / 10 * 10).toInt64)]) (rest := []) ⟨hx, hb, hml, hown, hg⟩ (k_X8_set_28 l D y aS H.size h4 ((((((p1 / 10) / 10) / 10) / 10) - ((((p1 / 10) / 10) / 10) / 10) / 10 * 10).toInt64) h7 wp4000418 (vp_updL (vp_updL (vp_updL (vp_updL wf4000419 ((4 : Int32).toNatClampNeg) ((p1 - p1 / 10 * 10).toInt64)) ((3 : Int32).toNatClampNeg) (((p1 / 10) - (p1 / 10) / 10 * 10).toInt64)) ((2 : Int32).toNatClampNeg) ((((p1 / 10) / 10) - ((p1 / 10) / 10) / 10 * 10).toInt64)) ((1 : Int32).toNatClampNeg) (((((p1 / 10) / 10) / 10) - (((p1 / 10) / 10) / 10) / 10 * 10).toInt64))) (cwV 2 hg ggV_RX5_29_X8_set rfl rfl rfl (by decide +kernel) ⟨Nat.le_of_ble_eq_true rfl, Nat.le_of_ble_eq_true rfl⟩) (g_preV (q := (RX8, TX8, 2)) hK hP hD [4, 5] rfl (by decide) (ci := 8) (q0 := 4) rfl rfl) rfl rfl hl.1 rfl (lv_room (Nat.le_of_ble_eq_true rfl)) dX5_tellSecret_30 ⟨Nat.le_of_ble_eq_true rfl, Nat.le_of_ble_eq_true rfl⟩) hP hD hS hA [4, 5] [0, 1, 2, 3] rfl rfl (by decide) (by decide) ?_
  clear hP hD hS H locs
  refine fun u H locs hq hP hD hS => ?_
  replace hP : va_P D vwCl [(h0, .inr (5, [.ref h2, .ref h3, .ref h4, .ref h5, .int wp4000417])), (h5, .inr (8, [.ref h10, .int wp4000420])), (h10, .inl (y 1, 3, .inr (.inl (fun _ => 0)))), (h2, .inr (8, [.ref h12, .int 0])), (h4, .inr (8, [.ref h7, .int wp4000418])), (h7, .inl (y 1, 18, .inr (.inl (vp_updL (vp_updL (vp_updL (vp_updL (vp_updL wf4000419 ((4 : Int32).toNatClampNeg) ((p1 - p1 / 10 * 10).toInt64)) ((3 : Int32).toNatClampNeg) (((p1 / 10) - (p1 / 10) / 10 * 10).toInt64)) ((2 : Int32).toNatClampNeg) ((((p1 / 10) / 10) - ((p1 / 10) / 10) / 10 * 10).toInt64)) ((1 : Int32).toNatClampNeg) (((((p1 / 10) / 10) / 10) - (((p1 / 10) / 10) / 10) / 10 * 10).toInt64)) ((0 : Int32).toNatClampNeg) ((((((p1 / 10) / 10) / 10) / 10) - ((((p1 / 10) / 10) / 10) / 10) / 10 * 10).toInt64)))))] H := hP
  replace hD : va_D A [(h0, .inr (5, [.ref h2, .ref h3, .ref h4, .ref h5, .int wp4000417])), (h5, .inr (8, [.ref h10, .int wp4000420])), (h10, .inl (y 1, 3, .inr (.inl (fun _ => 0)))), (h2, .inr (8, [.ref h12, .int 0])), (h4, .inr (8, [.ref h7, .int wp4000418])), (h7, .inl (y 1, 18, .inr (.inl (vp_updL (vp_updL (vp_updL (vp_updL (vp_updL wf4000419 ((4 : Int32).toNatClampNeg) ((p1 - p1 / 10 * 10).toInt64)) ((3 : Int32).toNatClampNeg) (((p1 / 10) - (p1 / 10) / 10 * 10).toInt64)) ((2 : Int32).toNatClampNeg) ((((p1 / 10) / 10) - ((p1 / 10) / 10) / 10 * 10).toInt64)) ((1 : Int32).toNatClampNeg) (((((p1 / 10) / 10) / 10) - (((p1 / 10) / 10) / 10) / 10 * 10).toInt64)) ((0 : Int32).toNatClampNeg) ((((((p1 / 10) / 10) / 10) / 10) - ((((p1 / 10) / 10) / 10) / 10) / 10 * 10).toInt64)))))] := hD
  refine lv_iload hx hb dX5_tellSecret_33 (lv_at hl 1 rfl) ?_
  refine lv_bipush (v := 10) hx hb dX5_tellSecret_35 (by decide +kernel) ?_
  refine lv_idiv hx hb dX5_tellSecret_37 (by decide +kernel) ?_
  refine lv_istore (lv' := [(4, .int (((((p1 / 10) / 10) / 10) / 10) / 10)), (5, .int 0), (0, .ref h0), (1, .int 0), (2, .int p1), (3, .int 5)]) hx hb dX5_tellSecret_38 hl (by decide) rfl ?_
  clear hl
  clear ls
  intro ls hl
  refine lv_iinc (v := (-1)) (lv' := [(5, .int (-1)), (4, .int (((((p1 / 10) / 10) / 10) / 10) / 10)), (0, .ref h0), (1, .int 0), (2, .int p1), (3, .int 5)]) hx hb dX5_tellSecret_40 hl (k := 1) rfl (by decide +kernel) (by decide) rfl ?_
  clear hl
  clear ls
  intro ls hl
  refine lv_goto (tgt := 8) hx hb dX5_tellSecret_43 (by decide) ?_
  refine lv_iload hx hb dX5_tellSecret_8 (lv_at hl 0 rfl) ?_
  refine lv_if_lt (tgt := 46) hx hb dX5_tellSecret_10 (by decide) (fun _ => ?_) (fun c9 => absurd c9 (by decide +kernel))
  refine lv_aload_n hx hb dX5_tellSecret_46 rfl (lv_at hl 2 rfl) ?_
  refine gm_get (D := D) (ci := 5) (v := .ref h5) (C := RX5) (T := TX5) (N := 5) hx hb hg inlX5 hown hK.1 hP 0 rfl rfl 3 (by decide) tX5_3 (hg _ gw_141) rfl dX5_tellSecret_47 ?_
  refine lv_iload_n hx hb dX5_tellSecret_50 rfl (lv_at hl 3 rfl) ?_
  refine lv_iload_n hx hb dX5_tellSecret_51 rfl (lv_at hl 5 rfl) ?_
  refine lv_i2l (v := 5) hx hb dX5_tellSecret_52 (by decide +kernel) ?_
  refine g_av (wr := [(h0, .inr (5, [.ref h2, .ref h3, .ref h4, .ref h5, .int wp4000417])), (h2, .inr (8, [.ref h12, .int 0])), (h4, .inr (8, [.ref h7, .int wp4000418])), (h7, .inl (y 1, 18, .inr (.inl (vp_updL (vp_updL (vp_updL (vp_updL (vp_updL wf4000419 ((4 : Int32).toNatClampNeg) ((p1 - p1 / 10 * 10).toInt64)) ((3 : Int32).toNatClampNeg) (((p1 / 10) - (p1 / 10) / 10 * 10).toInt64)) ((2 : Int32).toNatClampNeg) ((((p1 / 10) / 10) - ((p1 / 10) / 10) / 10 * 10).toInt64)) ((1 : Int32).toNatClampNeg) (((((p1 / 10) / 10) / 10) - (((p1 / 10) / 10) / 10) / 10 * 10).toInt64)) ((0 : Int32).toNatClampNeg) ((((((p1 / 10) / 10) / 10) / 10) - ((((p1 / 10) / 10) / 10) / 10) / 10 * 10).toInt64)))))]) (va_runV (As := [.int 0, .long 5]) (rest := []) ⟨hx, hb, hml, hown, hg⟩ (k_X8_set_24 l D y aS H.size h5 5 h10 wp4000420 (fun _ => 0)) (cwV 2 hg ggV_RX5_29_X8_set rfl rfl rfl (by decide +kernel) ⟨Nat.le_of_ble_eq_true rfl, Nat.le_of_ble_eq_true rfl⟩) (g_preV (q := (RX8, TX8, 2)) hK hP hD [1, 2] rfl (by decide) (ci := 8) (q0 := 1) rfl rfl) rfl rfl hl.1 rfl (lv_room (Nat.le_of_ble_eq_true rfl)) dX5_tellSecret_53 ⟨Nat.le_of_ble_eq_true rfl, Nat.le_of_ble_eq_true rfl⟩) hP hD hS hA [1, 2] [0, 3, 4, 5] rfl rfl (by decide) (by decide) ?_
  clear hP hD hS H locs
  refine fun u H locs hq hP hD hS => ?_
  replace hP : va_P D vwCl [(h0, .inr (5, [.ref h2, .ref h3, .ref h4, .ref h5, .int wp4000417])), (h2, .inr (8, [.ref h12, .int 0])), (h4, .inr (8, [.ref h7, .int wp4000418])), (h7, .inl (y 1, 18, .inr (.inl (vp_updL (vp_updL (vp_updL (vp_updL (vp_updL wf4000419 ((4 : Int32).toNatClampNeg) ((p1 - p1 / 10 * 10).toInt64)) ((3 : Int32).toNatClampNeg) (((p1 / 10) - (p1 / 10) / 10 * 10).toInt64)) ((2 : Int32).toNatClampNeg) ((((p1 / 10) / 10) - ((p1 / 10) / 10) / 10 * 10).toInt64)) ((1 : Int32).toNatClampNeg) (((((p1 / 10) / 10) / 10) - (((p1 / 10) / 10) / 10) / 10 * 10).toInt64)) ((0 : Int32).toNatClampNeg) ((((((p1 / 10) / 10) / 10) / 10) - ((((p1 / 10) / 10) / 10) / 10) / 10 * 10).toInt64))))), (h5, .inr (8, [.ref h10, .int wp4000420])), (h10, .inl (y 1, 3, .inr (.inl (vp_updL (fun _ => 0) ((0 : Int32).toNatClampNeg) 5))))] H := hP
  replace hD : va_D A [(h0, .inr (5, [.ref h2, .ref h3, .ref h4, .ref h5, .int wp4000417])), (h2, .inr (8, [.ref h12, .int 0])), (h4, .inr (8, [.ref h7, .int wp4000418])), (h7, .inl (y 1, 18, .inr (.inl (vp_updL (vp_updL (vp_updL (vp_updL (vp_updL wf4000419 ((4 : Int32).toNatClampNeg) ((p1 - p1 / 10 * 10).toInt64)) ((3 : Int32).toNatClampNeg) (((p1 / 10) - (p1 / 10) / 10 * 10).toInt64)) ((2 : Int32).toNatClampNeg) ((((p1 / 10) / 10) - ((p1 / 10) / 10) / 10 * 10).toInt64)) ((1 : Int32).toNatClampNeg) (((((p1 / 10) / 10) / 10) - (((p1 / 10) / 10) / 10) / 10 * 10).toInt64)) ((0 : Int32).toNatClampNeg) ((((((p1 / 10) / 10) / 10) / 10) - ((((p1 / 10) / 10) / 10) / 10) / 10 * 10).toInt64))))), (h5, .inr (8, [.ref h10, .int wp4000420])), (h10, .inl (y 1, 3, .inr (.inl (vp_updL (fun _ => 0) ((0 : Int32).toNatClampNeg) 5))))] := hD
  refine lv_aload_n hx hb dX5_tellSecret_56 rfl (lv_at hl 2 rfl) ?_
  refine g_av (wr := [(h4, .inr (8, [.ref h7, .int wp4000418])), (h7, .inl (y 1, 18, .inr (.inl (vp_updL (vp_updL (vp_updL (vp_updL (vp_updL wf4000419 ((4 : Int32).toNatClampNeg) ((p1 - p1 / 10 * 10).toInt64)) ((3 : Int32).toNatClampNeg) (((p1 / 10) - (p1 / 10) / 10 * 10).toInt64)) ((2 : Int32).toNatClampNeg) ((((p1 / 10) / 10) - ((p1 / 10) / 10) / 10 * 10).toInt64)) ((1 : Int32).toNatClampNeg) (((((p1 / 10) / 10) / 10) - (((p1 / 10) / 10) / 10) / 10 * 10).toInt64)) ((0 : Int32).toNatClampNeg) ((((((p1 / 10) / 10) / 10) / 10) - ((((p1 / 10) / 10) / 10) / 10) / 10 * 10).toInt64))))), (h5, .inr (8, [.ref h10, .int wp4000420])), (h10, .inl (y 1, 3, .inr (.inl (vp_updL (fun _ => 0) ((0 : Int32).toNatClampNeg) 5))))]) (va_runV (As := []) (rest := []) ⟨hx, hb, hml, hown, hg⟩ (k_X5_findOut_0 l D y aS H.size h0 h2 h3 h4 h5 wp4000417 h12) (cwV 0 hg ggV_RX5_33_X5_findOut rfl rfl rfl (by decide +kernel) ⟨Nat.le_of_ble_eq_true rfl, Nat.le_of_ble_eq_true rfl⟩) (g_preV (q := (RX5, TX5, 5)) hK hP hD [0, 1] rfl (by decide) (ci := 5) (q0 := 0) rfl rfl) rfl rfl hl.1 rfl (lv_room (Nat.le_of_ble_eq_true rfl)) dX5_tellSecret_57 ⟨Nat.le_of_ble_eq_true rfl, Nat.le_of_ble_eq_true rfl⟩) hP hD hS hA [0, 1] [2, 3, 4, 5] rfl rfl (by decide) (by decide) ?_
  clear hP hD hS H locs
  refine fun u H locs hq hP hD hS => ?_
  replace hP : va_P D vwCl [(h4, .inr (8, [.ref h7, .int wp4000418])), (h7, .inl (y 1, 18, .inr (.inl (vp_updL (vp_updL (vp_updL (vp_updL (vp_updL wf4000419 ((4 : Int32).toNatClampNeg) ((p1 - p1 / 10 * 10).toInt64)) ((3 : Int32).toNatClampNeg) (((p1 / 10) - (p1 / 10) / 10 * 10).toInt64)) ((2 : Int32).toNatClampNeg) ((((p1 / 10) / 10) - ((p1 / 10) / 10) / 10 * 10).toInt64)) ((1 : Int32).toNatClampNeg) (((((p1 / 10) / 10) / 10) - (((p1 / 10) / 10) / 10) / 10 * 10).toInt64)) ((0 : Int32).toNatClampNeg) ((((((p1 / 10) / 10) / 10) / 10) - ((((p1 / 10) / 10) / 10) / 10) / 10 * 10).toInt64))))), (h5, .inr (8, [.ref h10, .int wp4000420])), (h10, .inl (y 1, 3, .inr (.inl (vp_updL (fun _ => 0) ((0 : Int32).toNatClampNeg) 5)))), (h0, .inr (5, [.ref h2, .ref h3, .ref h4, .ref h5, .int 0])), (h2, .inr (8, [.ref h12, .int 0]))] H := hP
  replace hD : va_D A [(h4, .inr (8, [.ref h7, .int wp4000418])), (h7, .inl (y 1, 18, .inr (.inl (vp_updL (vp_updL (vp_updL (vp_updL (vp_updL wf4000419 ((4 : Int32).toNatClampNeg) ((p1 - p1 / 10 * 10).toInt64)) ((3 : Int32).toNatClampNeg) (((p1 / 10) - (p1 / 10) / 10 * 10).toInt64)) ((2 : Int32).toNatClampNeg) ((((p1 / 10) / 10) - ((p1 / 10) / 10) / 10 * 10).toInt64)) ((1 : Int32).toNatClampNeg) (((((p1 / 10) / 10) / 10) - (((p1 / 10) / 10) / 10) / 10 * 10).toInt64)) ((0 : Int32).toNatClampNeg) ((((((p1 / 10) / 10) / 10) / 10) - ((((p1 / 10) / 10) / 10) / 10) / 10 * 10).toInt64))))), (h5, .inr (8, [.ref h10, .int wp4000420])), (h10, .inl (y 1, 3, .inr (.inl (vp_updL (fun _ => 0) ((0 : Int32).toNatClampNeg) 5)))), (h0, .inr (5, [.ref h2, .ref h3, .ref h4, .ref h5, .int 0])), (h2, .inr (8, [.ref h12, .int 0]))] := hD
  refine lv_iconst (v := 0) hx hb dX5_tellSecret_60 (by decide) ?_
  refine lv_istore (lv' := [(5, .int 0), (4, .int (((((p1 / 10) / 10) / 10) / 10) / 10)), (0, .ref h0), (1, .int 0), (2, .int p1), (3, .int 5)]) hx hb dX5_tellSecret_61 hl (by decide) rfl ?_
  clear hl
  clear ls
  intro ls hl
  refine lv_iconst (v := 0) hx hb dX5_tellSecret_63 (by decide) ?_
  refine lv_istore (lv' := [(6, .int 0), (5, .int 0), (4, .int (((((p1 / 10) / 10) / 10) / 10) / 10)), (0, .ref h0), (1, .int 0), (2, .int p1), (3, .int 5)]) hx hb dX5_tellSecret_64 hl (by decide) rfl ?_
  clear hl
  clear ls
  intro ls hl
  refine lv_iload hx hb dX5_tellSecret_66 (lv_at hl 0 rfl) ?_
  refine lv_iconst (v := 3) hx hb dX5_tellSecret_68 (by decide) ?_
  refine lv_icmp_ge (tgt := 95) hx hb dX5_tellSecret_69 (by decide) (fun c9 => absurd c9 (by decide +kernel)) (fun _ => ?_)
  refine lv_aload_n hx hb dX5_tellSecret_72 rfl (lv_at hl 3 rfl) ?_
  refine gm_get (D := D) (ci := 5) (v := .ref h5) (C := RX5) (T := TX5) (N := 5) hx hb hg inlX5 hown hK.1 hP 4 rfl rfl 3 (by decide) tX5_3 (hg _ gw_141) rfl dX5_tellSecret_73 ?_
  refine lv_iload hx hb dX5_tellSecret_76 (lv_at hl 0 rfl) ?_
  refine g_al (wr := [(h4, .inr (8, [.ref h7, .int wp4000418])), (h7, .inl (y 1, 18, .inr (.inl (vp_updL (vp_updL (vp_updL (vp_updL (vp_updL wf4000419 ((4 : Int32).toNatClampNeg) ((p1 - p1 / 10 * 10).toInt64)) ((3 : Int32).toNatClampNeg) (((p1 / 10) - (p1 / 10) / 10 * 10).toInt64)) ((2 : Int32).toNatClampNeg) ((((p1 / 10) / 10) - ((p1 / 10) / 10) / 10 * 10).toInt64)) ((1 : Int32).toNatClampNeg) (((((p1 / 10) / 10) / 10) - (((p1 / 10) / 10) / 10) / 10 * 10).toInt64)) ((0 : Int32).toNatClampNeg) ((((((p1 / 10) / 10) / 10) / 10) - ((((p1 / 10) / 10) / 10) / 10) / 10 * 10).toInt64))))), (h0, .inr (5, [.ref h2, .ref h3, .ref h4, .ref h5, .int 0])), (h2, .inr (8, [.ref h12, .int 0]))]) (va_runV (As := [.int 0]) (rest := []) ⟨hx, hb, hml, hown, hg⟩ (k_X8_get_29 l D y aS H.size h5 h10 wp4000420) (cwV 1 hg ggV_RX5_36_X8_get rfl rfl rfl (by decide +kernel) ⟨Nat.le_of_ble_eq_true rfl, Nat.le_of_ble_eq_true rfl⟩) (g_preV (q := (RX8, TX8, 2)) hK hP hD [2, 3] rfl (by decide) (ci := 8) (q0 := 2) rfl rfl) rfl rfl hl.1 rfl (lv_room (Nat.le_of_ble_eq_true rfl)) dX5_tellSecret_78 ⟨Nat.le_of_ble_eq_true rfl, Nat.le_of_ble_eq_true rfl⟩) hP hD hS hA [2, 3] [0, 1, 4, 5] rfl rfl (by decide) (by decide) ?_
  clear hP hD hS H locs
  refine fun r4000428 u H locs hq hP hD hS => ?_
  subst hq
  replace hP : va_P D vwCl [(h4, .inr (8, [.ref h7, .int wp4000418])), (h7, .inl (y 1, 18, .inr (.inl (vp_updL (vp_updL (vp_updL (vp_updL (vp_updL wf4000419 ((4 : Int32).toNatClampNeg) ((p1 - p1 / 10 * 10).toInt64)) ((3 : Int32).toNatClampNeg) (((p1 / 10) - (p1 / 10) / 10 * 10).toInt64)) ((2 : Int32).toNatClampNeg) ((((p1 / 10) / 10) - ((p1 / 10) / 10) / 10 * 10).toInt64)) ((1 : Int32).toNatClampNeg) (((((p1 / 10) / 10) / 10) - (((p1 / 10) / 10) / 10) / 10 * 10).toInt64)) ((0 : Int32).toNatClampNeg) ((((((p1 / 10) / 10) / 10) / 10) - ((((p1 / 10) / 10) / 10) / 10) / 10 * 10).toInt64))))), (h0, .inr (5, [.ref h2, .ref h3, .ref h4, .ref h5, .int 0])), (h2, .inr (8, [.ref h12, .int 0])), (h5, .inr (8, [.ref h10, .int wp4000420])), (h10, .inl (y 1, 3, .inr (.inl (vp_updL (fun _ => 0) ((0 : Int32).toNatClampNeg) 5))))] H := hP
  replace hD : va_D A [(h4, .inr (8, [.ref h7, .int wp4000418])), (h7, .inl (y 1, 18, .inr (.inl (vp_updL (vp_updL (vp_updL (vp_updL (vp_updL wf4000419 ((4 : Int32).toNatClampNeg) ((p1 - p1 / 10 * 10).toInt64)) ((3 : Int32).toNatClampNeg) (((p1 / 10) - (p1 / 10) / 10 * 10).toInt64)) ((2 : Int32).toNatClampNeg) ((((p1 / 10) / 10) - ((p1 / 10) / 10) / 10 * 10).toInt64)) ((1 : Int32).toNatClampNeg) (((((p1 / 10) / 10) / 10) - (((p1 / 10) / 10) / 10) / 10 * 10).toInt64)) ((0 : Int32).toNatClampNeg) ((((((p1 / 10) / 10) / 10) / 10) - ((((p1 / 10) / 10) / 10) / 10) / 10 * 10).toInt64))))), (h0, .inr (5, [.ref h2, .ref h3, .ref h4, .ref h5, .int 0])), (h2, .inr (8, [.ref h12, .int 0])), (h5, .inr (8, [.ref h10, .int wp4000420])), (h10, .inl (y 1, 3, .inr (.inl (vp_updL (fun _ => 0) ((0 : Int32).toNatClampNeg) 5))))] := hD
  refine lv_lconst (v := 0) hx hb dX5_tellSecret_81 (by decide) ?_
  refine W.lcmp hx hb dX5_tellSecret_82 ?_
  refine g_fi (v := 1) (by decide +kernel) ?_
  refine lv_if_le (tgt := 89) hx hb dX5_tellSecret_83 (by decide) (fun c9 => absurd c9 (by decide +kernel)) (fun _ => ?_)
  refine lv_iinc (v := 1) (lv' := [(5, .int 1), (6, .int 0), (4, .int (((((p1 / 10) / 10) / 10) / 10) / 10)), (0, .ref h0), (1, .int 0), (2, .int p1), (3, .int 5)]) hx hb dX5_tellSecret_86 hl (k := 1) rfl (by decide +kernel) (by decide) rfl ?_
  clear hl
  clear ls
  intro ls hl
  refine lv_iinc (v := 1) (lv' := [(6, .int 1), (5, .int 1), (4, .int (((((p1 / 10) / 10) / 10) / 10) / 10)), (0, .ref h0), (1, .int 0), (2, .int p1), (3, .int 5)]) hx hb dX5_tellSecret_89 hl (k := 1) rfl (by decide +kernel) (by decide) rfl ?_
  clear hl
  clear ls
  intro ls hl
  refine lv_goto (tgt := 66) hx hb dX5_tellSecret_92 (by decide) ?_
  refine lv_iload hx hb dX5_tellSecret_66 (lv_at hl 0 rfl) ?_
  refine lv_iconst (v := 3) hx hb dX5_tellSecret_68 (by decide) ?_
  refine lv_icmp_ge (tgt := 95) hx hb dX5_tellSecret_69 (by decide) (fun c9 => absurd c9 (by decide +kernel)) (fun _ => ?_)
  refine lv_aload_n hx hb dX5_tellSecret_72 rfl (lv_at hl 3 rfl) ?_
  refine gm_get (D := D) (ci := 5) (v := .ref h5) (C := RX5) (T := TX5) (N := 5) hx hb hg inlX5 hown hK.1 hP 2 rfl rfl 3 (by decide) tX5_3 (hg _ gw_141) rfl dX5_tellSecret_73 ?_
  refine lv_iload hx hb dX5_tellSecret_76 (lv_at hl 0 rfl) ?_
  refine g_al (wr := [(h4, .inr (8, [.ref h7, .int wp4000418])), (h7, .inl (y 1, 18, .inr (.inl (vp_updL (vp_updL (vp_updL (vp_updL (vp_updL wf4000419 ((4 : Int32).toNatClampNeg) ((p1 - p1 / 10 * 10).toInt64)) ((3 : Int32).toNatClampNeg) (((p1 / 10) - (p1 / 10) / 10 * 10).toInt64)) ((2 : Int32).toNatClampNeg) ((((p1 / 10) / 10) - ((p1 / 10) / 10) / 10 * 10).toInt64)) ((1 : Int32).toNatClampNeg) (((((p1 / 10) / 10) / 10) - (((p1 / 10) / 10) / 10) / 10 * 10).toInt64)) ((0 : Int32).toNatClampNeg) ((((((p1 / 10) / 10) / 10) / 10) - ((((p1 / 10) / 10) / 10) / 10) / 10 * 10).toInt64))))), (h0, .inr (5, [.ref h2, .ref h3, .ref h4, .ref h5, .int 0])), (h2, .inr (8, [.ref h12, .int 0]))]) (va_runV (As := [.int 1]) (rest := []) ⟨hx, hb, hml, hown, hg⟩ (k_X8_get_30 l D y aS H.size h5 h10 wp4000420) (cwV 1 hg ggV_RX5_36_X8_get rfl rfl rfl (by decide +kernel) ⟨Nat.le_of_ble_eq_true rfl, Nat.le_of_ble_eq_true rfl⟩) (g_preV (q := (RX8, TX8, 2)) hK hP hD [4, 5] rfl (by decide) (ci := 8) (q0 := 4) rfl rfl) rfl rfl hl.1 rfl (lv_room (Nat.le_of_ble_eq_true rfl)) dX5_tellSecret_78 ⟨Nat.le_of_ble_eq_true rfl, Nat.le_of_ble_eq_true rfl⟩) hP hD hS hA [4, 5] [0, 1, 2, 3] rfl rfl (by decide) (by decide) ?_
  clear hP hD hS H locs
  refine fun r4000429 u H locs hq hP hD hS => ?_
  subst hq
  replace hP : va_P D vwCl [(h4, .inr (8, [.ref h7, .int wp4000418])), (h7, .inl (y 1, 18, .inr (.inl (vp_updL (vp_updL (vp_updL (vp_updL (vp_updL wf4000419 ((4 : Int32).toNatClampNeg) ((p1 - p1 / 10 * 10).toInt64)) ((3 : Int32).toNatClampNeg) (((p1 / 10) - (p1 / 10) / 10 * 10).toInt64)) ((2 : Int32).toNatClampNeg) ((((p1 / 10) / 10) - ((p1 / 10) / 10) / 10 * 10).toInt64)) ((1 : Int32).toNatClampNeg) (((((p1 / 10) / 10) / 10) - (((p1 / 10) / 10) / 10) / 10 * 10).toInt64)) ((0 : Int32).toNatClampNeg) ((((((p1 / 10) / 10) / 10) / 10) - ((((p1 / 10) / 10) / 10) / 10) / 10 * 10).toInt64))))), (h0, .inr (5, [.ref h2, .ref h3, .ref h4, .ref h5, .int 0])), (h2, .inr (8, [.ref h12, .int 0])), (h5, .inr (8, [.ref h10, .int wp4000420])), (h10, .inl (y 1, 3, .inr (.inl (vp_updL (fun _ => 0) ((0 : Int32).toNatClampNeg) 5))))] H := hP
  replace hD : va_D A [(h4, .inr (8, [.ref h7, .int wp4000418])), (h7, .inl (y 1, 18, .inr (.inl (vp_updL (vp_updL (vp_updL (vp_updL (vp_updL wf4000419 ((4 : Int32).toNatClampNeg) ((p1 - p1 / 10 * 10).toInt64)) ((3 : Int32).toNatClampNeg) (((p1 / 10) - (p1 / 10) / 10 * 10).toInt64)) ((2 : Int32).toNatClampNeg) ((((p1 / 10) / 10) - ((p1 / 10) / 10) / 10 * 10).toInt64)) ((1 : Int32).toNatClampNeg) (((((p1 / 10) / 10) / 10) - (((p1 / 10) / 10) / 10) / 10 * 10).toInt64)) ((0 : Int32).toNatClampNeg) ((((((p1 / 10) / 10) / 10) / 10) - ((((p1 / 10) / 10) / 10) / 10) / 10 * 10).toInt64))))), (h0, .inr (5, [.ref h2, .ref h3, .ref h4, .ref h5, .int 0])), (h2, .inr (8, [.ref h12, .int 0])), (h5, .inr (8, [.ref h10, .int wp4000420])), (h10, .inl (y 1, 3, .inr (.inl (vp_updL (fun _ => 0) ((0 : Int32).toNatClampNeg) 5))))] := hD
  refine lv_lconst (v := 0) hx hb dX5_tellSecret_81 (by decide) ?_
  refine W.lcmp hx hb dX5_tellSecret_82 ?_
  refine g_fi (v := 0) (by decide +kernel) ?_
  refine lv_if_le (tgt := 89) hx hb dX5_tellSecret_83 (by decide) (fun _ => ?_) (fun c9 => absurd c9 (by decide +kernel))
  refine lv_iinc (v := 2) (lv' := [(6, .int 2), (5, .int 1), (4, .int (((((p1 / 10) / 10) / 10) / 10) / 10)), (0, .ref h0), (1, .int 0), (2, .int p1), (3, .int 5)]) hx hb dX5_tellSecret_89 hl (k := 0) rfl (by decide +kernel) (by decide) rfl ?_
  clear hl
  clear ls
  intro ls hl
  refine lv_goto (tgt := 66) hx hb dX5_tellSecret_92 (by decide) ?_
  refine lv_iload hx hb dX5_tellSecret_66 (lv_at hl 0 rfl) ?_
  refine lv_iconst (v := 3) hx hb dX5_tellSecret_68 (by decide) ?_
  refine lv_icmp_ge (tgt := 95) hx hb dX5_tellSecret_69 (by decide) (fun c9 => absurd c9 (by decide +kernel)) (fun _ => ?_)
  refine lv_aload_n hx hb dX5_tellSecret_72 rfl (lv_at hl 3 rfl) ?_
  refine gm_get (D := D) (ci := 5) (v := .ref h5) (C := RX5) (T := TX5) (N := 5) hx hb hg inlX5 hown hK.1 hP 2 rfl rfl 3 (by decide) tX5_3 (hg _ gw_141) rfl dX5_tellSecret_73 ?_
  refine lv_iload hx hb dX5_tellSecret_76 (lv_at hl 0 rfl) ?_
  refine g_al (wr := [(h4, .inr (8, [.ref h7, .int wp4000418])), (h7, .inl (y 1, 18, .inr (.inl (vp_updL (vp_updL (vp_updL (vp_updL (vp_updL wf4000419 ((4 : Int32).toNatClampNeg) ((p1 - p1 / 10 * 10).toInt64)) ((3 : Int32).toNatClampNeg) (((p1 / 10) - (p1 / 10) / 10 * 10).toInt64)) ((2 : Int32).toNatClampNeg) ((((p1 / 10) / 10) - ((p1 / 10) / 10) / 10 * 10).toInt64)) ((1 : Int32).toNatClampNeg) (((((p1 / 10) / 10) / 10) - (((p1 / 10) / 10) / 10) / 10 * 10).toInt64)) ((0 : Int32).toNatClampNeg) ((((((p1 / 10) / 10) / 10) / 10) - ((((p1 / 10) / 10) / 10) / 10) / 10 * 10).toInt64))))), (h0, .inr (5, [.ref h2, .ref h3, .ref h4, .ref h5, .int 0])), (h2, .inr (8, [.ref h12, .int 0]))]) (va_runV (As := [.int 2]) (rest := []) ⟨hx, hb, hml, hown, hg⟩ (k_X8_get_31 l D y aS H.size h5 h10 wp4000420) (cwV 1 hg ggV_RX5_36_X8_get rfl rfl rfl (by decide +kernel) ⟨Nat.le_of_ble_eq_true rfl, Nat.le_of_ble_eq_true rfl⟩) (g_preV (q := (RX8, TX8, 2)) hK hP hD [4, 5] rfl (by decide) (ci := 8) (q0 := 4) rfl rfl) rfl rfl hl.1 rfl (lv_room (Nat.le_of_ble_eq_true rfl)) dX5_tellSecret_78 ⟨Nat.le_of_ble_eq_true rfl, Nat.le_of_ble_eq_true rfl⟩) hP hD hS hA [4, 5] [0, 1, 2, 3] rfl rfl (by decide) (by decide) ?_
  clear hP hD hS H locs
  refine fun r4000430 u H locs hq hP hD hS => ?_
  subst hq
  replace hP : va_P D vwCl [(h4, .inr (8, [.ref h7, .int wp4000418])), (h7, .inl (y 1, 18, .inr (.inl (vp_updL (vp_updL (vp_updL (vp_updL (vp_updL wf4000419 ((4 : Int32).toNatClampNeg) ((p1 - p1 / 10 * 10).toInt64)) ((3 : Int32).toNatClampNeg) (((p1 / 10) - (p1 / 10) / 10 * 10).toInt64)) ((2 : Int32).toNatClampNeg) ((((p1 / 10) / 10) - ((p1 / 10) / 10) / 10 * 10).toInt64)) ((1 : Int32).toNatClampNeg) (((((p1 / 10) / 10) / 10) - (((p1 / 10) / 10) / 10) / 10 * 10).toInt64)) ((0 : Int32).toNatClampNeg) ((((((p1 / 10) / 10) / 10) / 10) - ((((p1 / 10) / 10) / 10) / 10) / 10 * 10).toInt64))))), (h0, .inr (5, [.ref h2, .ref h3, .ref h4, .ref h5, .int 0])), (h2, .inr (8, [.ref h12, .int 0])), (h5, .inr (8, [.ref h10, .int wp4000420])), (h10, .inl (y 1, 3, .inr (.inl (vp_updL (fun _ => 0) ((0 : Int32).toNatClampNeg) 5))))] H := hP
  replace hD : va_D A [(h4, .inr (8, [.ref h7, .int wp4000418])), (h7, .inl (y 1, 18, .inr (.inl (vp_updL (vp_updL (vp_updL (vp_updL (vp_updL wf4000419 ((4 : Int32).toNatClampNeg) ((p1 - p1 / 10 * 10).toInt64)) ((3 : Int32).toNatClampNeg) (((p1 / 10) - (p1 / 10) / 10 * 10).toInt64)) ((2 : Int32).toNatClampNeg) ((((p1 / 10) / 10) - ((p1 / 10) / 10) / 10 * 10).toInt64)) ((1 : Int32).toNatClampNeg) (((((p1 / 10) / 10) / 10) - (((p1 / 10) / 10) / 10) / 10 * 10).toInt64)) ((0 : Int32).toNatClampNeg) ((((((p1 / 10) / 10) / 10) / 10) - ((((p1 / 10) / 10) / 10) / 10) / 10 * 10).toInt64))))), (h0, .inr (5, [.ref h2, .ref h3, .ref h4, .ref h5, .int 0])), (h2, .inr (8, [.ref h12, .int 0])), (h5, .inr (8, [.ref h10, .int wp4000420])), (h10, .inl (y 1, 3, .inr (.inl (vp_updL (fun _ => 0) ((0 : Int32).toNatClampNeg) 5))))] := hD
  refine lv_lconst (v := 0) hx hb dX5_tellSecret_81 (by decide) ?_
  refine W.lcmp hx hb dX5_tellSecret_82 ?_
  refine g_fi (v := 0) (by decide +kernel) ?_
  refine lv_if_le (tgt := 89) hx hb dX5_tellSecret_83 (by decide) (fun _ => ?_) (fun c9 => absurd c9 (by decide +kernel))
  refine lv_iinc (v := 3) (lv' := [(6, .int 3), (5, .int 1), (4, .int (((((p1 / 10) / 10) / 10) / 10) / 10)), (0, .ref h0), (1, .int 0), (2, .int p1), (3, .int 5)]) hx hb dX5_tellSecret_89 hl (k := 0) rfl (by decide +kernel) (by decide) rfl ?_
  clear hl
  clear ls
  intro ls hl
  refine lv_goto (tgt := 66) hx hb dX5_tellSecret_92 (by decide) ?_
  refine lv_iload hx hb dX5_tellSecret_66 (lv_at hl 0 rfl) ?_
  refine lv_iconst (v := 3) hx hb dX5_tellSecret_68 (by decide) ?_
  refine lv_icmp_ge (tgt := 95) hx hb dX5_tellSecret_69 (by decide) (fun _ => ?_) (fun c9 => absurd c9 (by decide +kernel))
  refine lv_iload hx hb dX5_tellSecret_95 (lv_at hl 1 rfl) ?_
  exact g_iret hx hb hr hlocks () (hP.sub [2, 0, 1, 4, 5, 3] rfl) (hD.sub [2, 0, 1, 4, 5, 3] (by decide +kernel) rfl) hS rfl rfl (Nat.le_of_ble_eq_true rfl) (Nat.le_of_ble_eq_true rfl) dX5_tellSecret_97
set_option maxRecDepth 100000 in
set_option maxHeartbeats 4000000 in
theorem k_X8_set_40 (l : Launch) (D : va_G) (y : Nat → ClassId) (aS : Nat → Nat) (sz : Nat) (h0 : Nat) (p1 : Int64) (h2 : Nat) (wp4000433 : Int32) (wf4000434 : Nat → Int64) : Met l yX8_set (Cond.code yX8_set cX8_set 4 none :: wsL_law) ({ frames := 0, cells := 0, slots := 0, locals := 0 } : Room) (va_Pc [.ref h0, .int 10, .long p1] (gI D y aS [(h0, .inr (8, [.ref h2, .int wp4000433])), (h2, .inl (y 1, 18, .inr (.inl wf4000434)))] sz)) (va_Qv (fun (u : Unit) => True) (fun u => gO D (va_A [(h0, .inr (8, [.ref h2, .int wp4000433])), (h2, .inl (y 1, 18, .inr (.inl wf4000434)))] sz) [(h0, .inr (8, [.ref h2, .int wp4000433])), (h2, .inl (y 1, 18, .inr (.inl (vp_updL wf4000434 ((10 : Int32).toNatClampNeg) p1))))]) (va_A [(h0, .inr (8, [.ref h2, .int wp4000433])), (h2, .inl (y 1, 18, .inr (.inl wf4000434)))] sz)) 0 0 (va_A [(h0, .inr (8, [.ref h2, .int wp4000433])), (h2, .inl (y 1, 18, .inr (.inl wf4000434)))] sz) := by
  refine g_of (by decide) (Nat.le_of_ble_eq_true rfl) ?_
  intro p e s m below meth c ls A hx hb hr hml hown hg hlocks hin hsz hK hP hD hS hA hAe hl
  rw [← hAe]
  replace hown : s.vm.findClass RX8 = some m.cls := hown
  replace hl : lv_has ls 4 [(0, .ref h0), (1, .int 10), (2, .long p1)] := hl
  refine lv_iload_n hx hb dX8_set_0 rfl (lv_at hl 1 rfl) ?_
  refine lv_if_lt (tgt := 20) hx hb dX8_set_1 (by decide) (fun c9 => absurd c9 (by decide +kernel)) (fun _ => ?_)
  refine lv_iload_n hx hb dX8_set_4 rfl (lv_at hl 1 rfl) ?_
  refine lv_aload_n hx hb dX8_set_5 rfl (lv_at hl 0 rfl) ?_
  refine gm_get (D := D) (ci := 8) (v := .ref h2) (C := RX8) (T := TX8) (N := 2) hx hb hg inlX8 hown hK.1 hP 0 rfl rfl 0 (by decide) tX8_0 (hg _ gw_98) rfl dX8_set_6 ?_
  refine va_alen hx hb hK.1 hP 1 1 rfl rfl (v := 18) rfl dX8_set_9 ?_
  refine lv_icmp_ge (tgt := 20) hx hb dX8_set_10 (by decide) (fun c9 => absurd c9 (by decide +kernel)) (fun _ => ?_)
  refine lv_aload_n hx hb dX8_set_13 rfl (lv_at hl 0 rfl) ?_
  refine gm_get (D := D) (ci := 8) (v := .ref h2) (C := RX8) (T := TX8) (N := 2) hx hb hg inlX8 hown hK.1 hP 0 rfl rfl 0 (by decide) tX8_0 (hg _ gw_98) rfl dX8_set_14 ?_
  refine lv_iload_n hx hb dX8_set_17 rfl (lv_at hl 1 rfl) ?_
  refine lv_lload_n hx hb dX8_set_18 rfl (lv_at hl 2 rfl) ?_
  refine va_last hx hb hK.1 hP hD hS 1 1 rfl rfl (by unfold vp_in; decide +kernel) dX8_set_19 ?_
  clear hP hD hS
  refine fun H locs (hP : va_P D vwCl [(h0, .inr (8, [.ref h2, .int wp4000433])), (h2, .inl (y 1, 18, .inr (.inl (vp_updL wf4000434 ((10 : Int32).toNatClampNeg) p1))))] H) (hD : va_D A [(h0, .inr (8, [.ref h2, .int wp4000433])), (h2, .inl (y 1, 18, .inr (.inl (vp_updL wf4000434 ((10 : Int32).toNatClampNeg) p1))))]) hS => ?_
  exact g_vret hx hb hr hlocks () hP hD hS trivial (Nat.le_of_ble_eq_true rfl) (Nat.le_of_ble_eq_true rfl) dX8_set_20
set_option maxRecDepth 100000 in
set_option maxHeartbeats 4000000 in
theorem k_X8_get_32 (l : Launch) (D : va_G) (y : Nat → ClassId) (aS : Nat → Nat) (sz : Nat) (h0 : Nat) (h1 : Nat) (wp4000442 : Int32) : Met l yX8_get (Cond.code yX8_get cX8_get 2 (some .long) :: wsL_law) ({ frames := 0, cells := 0, slots := 0, locals := 0 } : Room) (va_Pc [.ref h0, .int 0] (gI D y aS [(h0, .inr (8, [.ref h1, .int wp4000442])), (h1, .inl (y 1, 3, .inr (.inl (vp_updL (fun _ => 0) ((1 : Int32).toNatClampNeg) 5))))] sz)) (va_Ql (fun (r : Int64) (u : Unit) => 0 = r) (fun u => gO D (va_A [(h0, .inr (8, [.ref h1, .int wp4000442])), (h1, .inl (y 1, 3, .inr (.inl (vp_updL (fun _ => 0) ((1 : Int32).toNatClampNeg) 5))))] sz) [(h0, .inr (8, [.ref h1, .int wp4000442])), (h1, .inl (y 1, 3, .inr (.inl (vp_updL (fun _ => 0) ((1 : Int32).toNatClampNeg) 5))))]) (va_A [(h0, .inr (8, [.ref h1, .int wp4000442])), (h1, .inl (y 1, 3, .inr (.inl (vp_updL (fun _ => 0) ((1 : Int32).toNatClampNeg) 5))))] sz)) 0 0 (va_A [(h0, .inr (8, [.ref h1, .int wp4000442])), (h1, .inl (y 1, 3, .inr (.inl (vp_updL (fun _ => 0) ((1 : Int32).toNatClampNeg) 5))))] sz) := by
  refine g_of (by decide) (Nat.le_of_ble_eq_true rfl) ?_
  intro p e s m below meth c ls A hx hb hr hml hown hg hlocks hin hsz hK hP hD hS hA hAe hl
  rw [← hAe]
  replace hown : s.vm.findClass RX8 = some m.cls := hown
  replace hl : lv_has ls 2 [(0, .ref h0), (1, .int 0)] := hl
  refine lv_iload_n hx hb dX8_get_0 rfl (lv_at hl 1 rfl) ?_
  refine lv_if_lt (tgt := 22) hx hb dX8_get_1 (by decide) (fun c9 => absurd c9 (by decide +kernel)) (fun _ => ?_)
  refine lv_iload_n hx hb dX8_get_4 rfl (lv_at hl 1 rfl) ?_
  refine lv_aload_n hx hb dX8_get_5 rfl (lv_at hl 0 rfl) ?_
  refine gm_get (D := D) (ci := 8) (v := .ref h1) (C := RX8) (T := TX8) (N := 2) hx hb hg inlX8 hown hK.1 hP 0 rfl rfl 0 (by decide) tX8_0 (hg _ gw_98) rfl dX8_get_6 ?_
  refine va_alen hx hb hK.1 hP 1 1 rfl rfl (v := 3) rfl dX8_get_9 ?_
  refine lv_icmp_ge (tgt := 22) hx hb dX8_get_10 (by decide) (fun c9 => absurd c9 (by decide +kernel)) (fun _ => ?_)
  refine lv_aload_n hx hb dX8_get_13 rfl (lv_at hl 0 rfl) ?_
  refine gm_get (D := D) (ci := 8) (v := .ref h1) (C := RX8) (T := TX8) (N := 2) hx hb hg inlX8 hown hK.1 hP 0 rfl rfl 0 (by decide) tX8_0 (hg _ gw_98) rfl dX8_get_14 ?_
  refine lv_iload_n hx hb dX8_get_17 rfl (lv_at hl 1 rfl) ?_
  refine va_lald hx hb hK.1 hP 1 1 rfl rfl (by unfold vp_in; decide +kernel) dX8_get_18 ?_
  refine g_fj (v := 0) (by rfl) ?_
  refine lv_goto (tgt := 23) hx hb dX8_get_19 (by decide) ?_
  exact g_lret hx hb hr hlocks () hP hD hS rfl (Nat.le_of_ble_eq_true rfl) (Nat.le_of_ble_eq_true rfl) dX8_get_23
set_option maxRecDepth 100000 in
set_option maxHeartbeats 4000000 in
theorem k_X8_get_33 (l : Launch) (D : va_G) (y : Nat → ClassId) (aS : Nat → Nat) (sz : Nat) (h0 : Nat) (h1 : Nat) (wp4000444 : Int32) : Met l yX8_get (Cond.code yX8_get cX8_get 2 (some .long) :: wsL_law) ({ frames := 0, cells := 0, slots := 0, locals := 0 } : Room) (va_Pc [.ref h0, .int 1] (gI D y aS [(h0, .inr (8, [.ref h1, .int wp4000444])), (h1, .inl (y 1, 3, .inr (.inl (vp_updL (fun _ => 0) ((1 : Int32).toNatClampNeg) 5))))] sz)) (va_Ql (fun (r : Int64) (u : Unit) => 5 = r) (fun u => gO D (va_A [(h0, .inr (8, [.ref h1, .int wp4000444])), (h1, .inl (y 1, 3, .inr (.inl (vp_updL (fun _ => 0) ((1 : Int32).toNatClampNeg) 5))))] sz) [(h0, .inr (8, [.ref h1, .int wp4000444])), (h1, .inl (y 1, 3, .inr (.inl (vp_updL (fun _ => 0) ((1 : Int32).toNatClampNeg) 5))))]) (va_A [(h0, .inr (8, [.ref h1, .int wp4000444])), (h1, .inl (y 1, 3, .inr (.inl (vp_updL (fun _ => 0) ((1 : Int32).toNatClampNeg) 5))))] sz)) 0 0 (va_A [(h0, .inr (8, [.ref h1, .int wp4000444])), (h1, .inl (y 1, 3, .inr (.inl (vp_updL (fun _ => 0) ((1 : Int32).toNatClampNeg) 5))))] sz) := by
  refine g_of (by decide) (Nat.le_of_ble_eq_true rfl) ?_
  intro p e s m below meth c ls A hx hb hr hml hown hg hlocks hin hsz hK hP hD hS hA hAe hl
  rw [← hAe]
  replace hown : s.vm.findClass RX8 = some m.cls := hown
  replace hl : lv_has ls 2 [(0, .ref h0), (1, .int 1)] := hl
  refine lv_iload_n hx hb dX8_get_0 rfl (lv_at hl 1 rfl) ?_
  refine lv_if_lt (tgt := 22) hx hb dX8_get_1 (by decide) (fun c9 => absurd c9 (by decide +kernel)) (fun _ => ?_)
  refine lv_iload_n hx hb dX8_get_4 rfl (lv_at hl 1 rfl) ?_
  refine lv_aload_n hx hb dX8_get_5 rfl (lv_at hl 0 rfl) ?_
  refine gm_get (D := D) (ci := 8) (v := .ref h1) (C := RX8) (T := TX8) (N := 2) hx hb hg inlX8 hown hK.1 hP 0 rfl rfl 0 (by decide) tX8_0 (hg _ gw_98) rfl dX8_get_6 ?_
  refine va_alen hx hb hK.1 hP 1 1 rfl rfl (v := 3) rfl dX8_get_9 ?_
  refine lv_icmp_ge (tgt := 22) hx hb dX8_get_10 (by decide) (fun c9 => absurd c9 (by decide +kernel)) (fun _ => ?_)
  refine lv_aload_n hx hb dX8_get_13 rfl (lv_at hl 0 rfl) ?_
  refine gm_get (D := D) (ci := 8) (v := .ref h1) (C := RX8) (T := TX8) (N := 2) hx hb hg inlX8 hown hK.1 hP 0 rfl rfl 0 (by decide) tX8_0 (hg _ gw_98) rfl dX8_get_14 ?_
  refine lv_iload_n hx hb dX8_get_17 rfl (lv_at hl 1 rfl) ?_
  refine va_lald hx hb hK.1 hP 1 1 rfl rfl (by unfold vp_in; decide +kernel) dX8_get_18 ?_
  refine g_fj (v := 5) (by rfl) ?_
  refine lv_goto (tgt := 23) hx hb dX8_get_19 (by decide) ?_
  exact g_lret hx hb hr hlocks () hP hD hS rfl (Nat.le_of_ble_eq_true rfl) (Nat.le_of_ble_eq_true rfl) dX8_get_23
set_option maxRecDepth 100000 in
set_option maxHeartbeats 4000000 in
theorem k_X8_get_34 (l : Launch) (D : va_G) (y : Nat → ClassId) (aS : Nat → Nat) (sz : Nat) (h0 : Nat) (h1 : Nat) (wp4000446 : Int32) : Met l yX8_get (Cond.code yX8_get cX8_get 2 (some .long) :: wsL_law) ({ frames := 0, cells := 0, slots := 0, locals := 0 } : Room) (va_Pc [.ref h0, .int 2] (gI D y aS [(h0, .inr (8, [.ref h1, .int wp4000446])), (h1, .inl (y 1, 3, .inr (.inl (vp_updL (fun _ => 0) ((1 : Int32).toNatClampNeg) 5))))] sz)) (va_Ql (fun (r : Int64) (u : Unit) => 0 = r) (fun u => gO D (va_A [(h0, .inr (8, [.ref h1, .int wp4000446])), (h1, .inl (y 1, 3, .inr (.inl (vp_updL (fun _ => 0) ((1 : Int32).toNatClampNeg) 5))))] sz) [(h0, .inr (8, [.ref h1, .int wp4000446])), (h1, .inl (y 1, 3, .inr (.inl (vp_updL (fun _ => 0) ((1 : Int32).toNatClampNeg) 5))))]) (va_A [(h0, .inr (8, [.ref h1, .int wp4000446])), (h1, .inl (y 1, 3, .inr (.inl (vp_updL (fun _ => 0) ((1 : Int32).toNatClampNeg) 5))))] sz)) 0 0 (va_A [(h0, .inr (8, [.ref h1, .int wp4000446])), (h1, .inl (y 1, 3, .inr (.inl (vp_updL (fun _ => 0) ((1 : Int32).toNatClampNeg) 5))))] sz) := by
  refine g_of (by decide) (Nat.le_of_ble_eq_true rfl) ?_
  intro p e s m below meth c ls A hx hb hr hml hown hg hlocks hin hsz hK hP hD hS hA hAe hl
  rw [← hAe]
  replace hown : s.vm.findClass RX8 = some m.cls := hown
  replace hl : lv_has ls 2 [(0, .ref h0), (1, .int 2)] := hl
  refine lv_iload_n hx hb dX8_get_0 rfl (lv_at hl 1 rfl) ?_
  refine lv_if_lt (tgt := 22) hx hb dX8_get_1 (by decide) (fun c9 => absurd c9 (by decide +kernel)) (fun _ => ?_)
  refine lv_iload_n hx hb dX8_get_4 rfl (lv_at hl 1 rfl) ?_
  refine lv_aload_n hx hb dX8_get_5 rfl (lv_at hl 0 rfl) ?_
  refine gm_get (D := D) (ci := 8) (v := .ref h1) (C := RX8) (T := TX8) (N := 2) hx hb hg inlX8 hown hK.1 hP 0 rfl rfl 0 (by decide) tX8_0 (hg _ gw_98) rfl dX8_get_6 ?_
  refine va_alen hx hb hK.1 hP 1 1 rfl rfl (v := 3) rfl dX8_get_9 ?_
  refine lv_icmp_ge (tgt := 22) hx hb dX8_get_10 (by decide) (fun c9 => absurd c9 (by decide +kernel)) (fun _ => ?_)
  refine lv_aload_n hx hb dX8_get_13 rfl (lv_at hl 0 rfl) ?_
  refine gm_get (D := D) (ci := 8) (v := .ref h1) (C := RX8) (T := TX8) (N := 2) hx hb hg inlX8 hown hK.1 hP 0 rfl rfl 0 (by decide) tX8_0 (hg _ gw_98) rfl dX8_get_14 ?_
  refine lv_iload_n hx hb dX8_get_17 rfl (lv_at hl 1 rfl) ?_
  refine va_lald hx hb hK.1 hP 1 1 rfl rfl (by unfold vp_in; decide +kernel) dX8_get_18 ?_
  refine g_fj (v := 0) (by rfl) ?_
  refine lv_goto (tgt := 23) hx hb dX8_get_19 (by decide) ?_
  exact g_lret hx hb hr hlocks () hP hD hS rfl (Nat.le_of_ble_eq_true rfl) (Nat.le_of_ble_eq_true rfl) dX8_get_23
set_option maxRecDepth 100000 in
set_option maxHeartbeats 4000000 in
theorem k_X5_tellSecret_10 (l : Launch) (D : va_G) (y : Nat → ClassId) (aS : Nat → Nat) (sz : Nat) (h0 : Nat) (p1 : Int32) (h2 : Nat) (h3 : Nat) (h4 : Nat) (h5 : Nat) (wp4000448 : Int32) (h7 : Nat) (wp4000449 : Int32) (wf4000450 : Nat → Int64) (h10 : Nat) (wp4000451 : Int32) (h12 : Nat) : Met l yX5_tellSecret (Cond.code yX5_tellSecret cX5_tellSecret 7 (some .int) :: wsL_law) ({ frames := 1, cells := 0, slots := 0, locals := 23 } : Room) (va_Pc [.ref h0, .int 1, .int p1, .int 5] (gI D y aS [(h0, .inr (5, [.ref h2, .ref h3, .ref h4, .ref h5, .int wp4000448])), (h4, .inr (8, [.ref h7, .int wp4000449])), (h7, .inl (y 1, 18, .inr (.inl wf4000450))), (h5, .inr (8, [.ref h10, .int wp4000451])), (h10, .inl (y 1, 3, .inr (.inl (fun _ => 0)))), (h2, .inr (8, [.ref h12, .int 0]))] sz)) (va_Qi (fun (r : Int32) (u : Unit) => 1 = r) (fun u => gO D (va_A [(h0, .inr (5, [.ref h2, .ref h3, .ref h4, .ref h5, .int wp4000448])), (h4, .inr (8, [.ref h7, .int wp4000449])), (h7, .inl (y 1, 18, .inr (.inl wf4000450))), (h5, .inr (8, [.ref h10, .int wp4000451])), (h10, .inl (y 1, 3, .inr (.inl (fun _ => 0)))), (h2, .inr (8, [.ref h12, .int 0]))] sz) [(h0, .inr (5, [.ref h2, .ref h3, .ref h4, .ref h5, .int 0])), (h4, .inr (8, [.ref h7, .int wp4000449])), (h7, .inl (y 1, 18, .inr (.inl (vp_updL (vp_updL (vp_updL (vp_updL (vp_updL wf4000450 ((10 : Int32).toNatClampNeg) ((p1 - p1 / 10 * 10).toInt64)) ((9 : Int32).toNatClampNeg) (((p1 / 10) - (p1 / 10) / 10 * 10).toInt64)) ((8 : Int32).toNatClampNeg) ((((p1 / 10) / 10) - ((p1 / 10) / 10) / 10 * 10).toInt64)) ((7 : Int32).toNatClampNeg) (((((p1 / 10) / 10) / 10) - (((p1 / 10) / 10) / 10) / 10 * 10).toInt64)) ((6 : Int32).toNatClampNeg) ((((((p1 / 10) / 10) / 10) / 10) - ((((p1 / 10) / 10) / 10) / 10) / 10 * 10).toInt64))))), (h5, .inr (8, [.ref h10, .int wp4000451])), (h10, .inl (y 1, 3, .inr (.inl (vp_updL (fun _ => 0) ((1 : Int32).toNatClampNeg) 5)))), (h2, .inr (8, [.ref h12, .int 0]))]) (va_A [(h0, .inr (5, [.ref h2, .ref h3, .ref h4, .ref h5, .int wp4000448])), (h4, .inr (8, [.ref h7, .int wp4000449])), (h7, .inl (y 1, 18, .inr (.inl wf4000450))), (h5, .inr (8, [.ref h10, .int wp4000451])), (h10, .inl (y 1, 3, .inr (.inl (fun _ => 0)))), (h2, .inr (8, [.ref h12, .int 0]))] sz)) 0 0 (va_A [(h0, .inr (5, [.ref h2, .ref h3, .ref h4, .ref h5, .int wp4000448])), (h4, .inr (8, [.ref h7, .int wp4000449])), (h7, .inl (y 1, 18, .inr (.inl wf4000450))), (h5, .inr (8, [.ref h10, .int wp4000451])), (h10, .inl (y 1, 3, .inr (.inl (fun _ => 0)))), (h2, .inr (8, [.ref h12, .int 0]))] sz) := by
  refine g_of (by decide) (Nat.le_of_ble_eq_true rfl) ?_
  intro p e s m below meth c ls A hx hb hr hml hown hg hlocks hin hsz hK hP hD hS hA hAe hl
  rw [← hAe]
  replace hown : s.vm.findClass RX5 = some m.cls := hown
  replace hl : lv_has ls 7 [(0, .ref h0), (1, .int 1), (2, .int p1), (3, .int 5)] := hl
  refine lv_iload_n hx hb dX5_tellSecret_0 rfl (lv_at hl 2 rfl) ?_
  refine lv_istore (lv' := [(4, .int p1), (0, .ref h0), (1, .int 1), (2, .int p1), (3, .int 5)]) hx hb dX5_tellSecret_1 hl (by decide) rfl ?_
  clear hl
  clear ls
  intro ls hl
  refine lv_iload_n hx hb dX5_tellSecret_3 rfl (lv_at hl 4 rfl) ?_
  refine lv_iconst (v := 1) hx hb dX5_tellSecret_4 (by decide) ?_
  refine lv_isub hx hb dX5_tellSecret_5 ?_
  refine g_fi (v := 4) (by decide +kernel) ?_
  refine lv_istore (lv' := [(5, .int 4), (4, .int p1), (0, .ref h0), (1, .int 1), (2, .int p1), (3, .int 5)]) hx hb dX5_tellSecret_6 hl (by decide) rfl ?_
  clear hl
  clear ls
  intro ls hl
  refine lv_iload hx hb dX5_tellSecret_8 (lv_at hl 0 rfl) ?_
  refine lv_if_lt (tgt := 46) hx hb dX5_tellSecret_10 (by decide) (fun c9 => absurd c9 (by decide +kernel)) (fun _ => ?_)
  refine lv_aload_n hx hb dX5_tellSecret_13 rfl (lv_at hl 2 rfl) ?_
  refine gm_get (D := D) (ci := 5) (v := .ref h4) (C := RX5) (T := TX5) (N := 5) hx hb hg inlX5 hown hK.1 hP 0 rfl rfl 2 (by decide) tX5_2 (hg _ gw_140) rfl dX5_tellSecret_14 ?_
  refine lv_iload_n hx hb dX5_tellSecret_17 rfl (lv_at hl 3 rfl) ?_
  refine lv_bipush (v := 6) hx hb dX5_tellSecret_18 (by decide +kernel) ?_
  refine lv_imul hx hb dX5_tellSecret_20 ?_
  refine g_fi (v := 6) (by decide +kernel) ?_
  refine lv_iload hx hb dX5_tellSecret_21 (lv_at hl 0 rfl) ?_
  refine lv_iadd hx hb dX5_tellSecret_23 ?_
  refine g_fi (v := 10) (by decide +kernel) ?_
  refine lv_iload hx hb dX5_tellSecret_24 (lv_at hl 1 rfl) ?_
  refine lv_bipush (v := 10) hx hb dX5_tellSecret_26 (by decide +kernel) ?_
  refine lv_irem hx hb dX5_tellSecret_28 (by decide +kernel) ?_
  refine lv_i2l (v := ((p1 - p1 / 10 * 10).toInt64)) hx hb dX5_tellSecret_29 rfl ?_
  refine g_av (wr := [(h0, .inr (5, [.ref h2, .ref h3, .ref h4, .ref h5, .int wp4000448])), (h5, .inr (8, [.ref h10, .int wp4000451])), (h10, .inl (y 1, 3, .inr (.inl (fun _ => 0)))), (h2, .inr (8, [.ref h12, .int 0]))]) (va_runV (As := [.int 10, .long ((p1 - p1 / 10 * 10).toInt64)]) (rest := []) ⟨hx, hb, hml, hown, hg⟩ (k_X8_set_40 l D y aS s.heap.size h4 ((p1 - p1 / 10 * 10).toInt64) h7 wp4000449 wf4000450) (cwV 2 hg ggV_RX5_29_X8_set rfl rfl rfl (by decide +kernel) ⟨Nat.le_of_ble_eq_true rfl, Nat.le_of_ble_eq_true rfl⟩) (g_preV (q := (RX8, TX8, 2)) hK hP hD [1, 2] rfl (by decide) (ci := 8) (q0 := 1) rfl rfl) rfl rfl hl.1 rfl (lv_room (Nat.le_of_ble_eq_true rfl)) dX5_tellSecret_30 ⟨Nat.le_of_ble_eq_true rfl, Nat.le_of_ble_eq_true rfl⟩) hP hD hS hA [1, 2] [0, 3, 4, 5] rfl rfl (by decide) (by decide) ?_
  clear hP hD hS
  refine fun u H locs hq hP hD hS => ?_
  replace hP : va_P D vwCl [(h0, .inr (5, [.ref h2, .ref h3, .ref h4, .ref h5, .int wp4000448])), (h5, .inr (8, [.ref h10, .int wp4000451])), (h10, .inl (y 1, 3, .inr (.inl (fun _ => 0)))), (h2, .inr (8, [.ref h12, .int 0])), (h4, .inr (8, [.ref h7, .int wp4000449])), (h7, .inl (y 1, 18, .inr (.inl (vp_updL wf4000450 ((10 : Int32).toNatClampNeg) ((p1 - p1 / 10 * 10).toInt64)))))] H := hP
  replace hD : va_D A [(h0, .inr (5, [.ref h2, .ref h3, .ref h4, .ref h5, .int wp4000448])), (h5, .inr (8, [.ref h10, .int wp4000451])), (h10, .inl (y 1, 3, .inr (.inl (fun _ => 0)))), (h2, .inr (8, [.ref h12, .int 0])), (h4, .inr (8, [.ref h7, .int wp4000449])), (h7, .inl (y 1, 18, .inr (.inl (vp_updL wf4000450 ((10 : Int32).toNatClampNeg) ((p1 - p1 / 10 * 10).toInt64)))))] := hD
  refine lv_iload hx hb dX5_tellSecret_33 (lv_at hl 1 rfl) ?_
  refine lv_bipush (v := 10) hx hb dX5_tellSecret_35 (by decide +kernel) ?_
  refine lv_idiv hx hb dX5_tellSecret_37 (by decide +kernel) ?_
  refine lv_istore (lv' := [(4, .int (p1 / 10)), (5, .int 4), (0, .ref h0), (1, .int 1), (2, .int p1), (3, .int 5)]) hx hb dX5_tellSecret_38 hl (by decide) rfl ?_
  clear hl
  clear ls
  intro ls hl
  refine lv_iinc (v := 3) (lv' := [(5, .int 3), (4, .int (p1 / 10)), (0, .ref h0), (1, .int 1), (2, .int p1), (3, .int 5)]) hx hb dX5_tellSecret_40 hl (k := 1) rfl (by decide +kernel) (by decide) rfl ?_
  clear hl
  clear ls
  intro ls hl
  refine lv_goto (tgt := 8) hx hb dX5_tellSecret_43 (by decide) ?_
  refine lv_iload hx hb dX5_tellSecret_8 (lv_at hl 0 rfl) ?_
  refine lv_if_lt (tgt := 46) hx hb dX5_tellSecret_10 (by decide) (fun c9 => absurd c9 (by decide +kernel)) (fun _ => ?_)
  refine lv_aload_n hx hb dX5_tellSecret_13 rfl (lv_at hl 2 rfl) ?_
  refine gm_get (D := D) (ci := 5) (v := .ref h4) (C := RX5) (T := TX5) (N := 5) hx hb hg inlX5 hown hK.1 hP 0 rfl rfl 2 (by decide) tX5_2 (hg _ gw_140) rfl dX5_tellSecret_14 ?_
  refine lv_iload_n hx hb dX5_tellSecret_17 rfl (lv_at hl 3 rfl) ?_
  refine lv_bipush (v := 6) hx hb dX5_tellSecret_18 (by decide +kernel) ?_
  refine lv_imul hx hb dX5_tellSecret_20 ?_
  refine g_fi (v := 6) (by decide +kernel) ?_
  refine lv_iload hx hb dX5_tellSecret_21 (lv_at hl 0 rfl) ?_
  refine lv_iadd hx hb dX5_tellSecret_23 ?_
  refine g_fi (v := 9) (by decide +kernel) ?_
  refine lv_iload hx hb dX5_tellSecret_24 (lv_at hl 1 rfl) ?_
  refine lv_bipush (v := 10) hx hb dX5_tellSecret_26 (by decide +kernel) ?_
  refine lv_irem hx hb dX5_tellSecret_28 (by decide +kernel) ?_
  refine lv_i2l (v := (((p1 / 10) - (p1 / 10) / 10 * 10).toInt64)) hx hb dX5_tellSecret_29 rfl ?_
  refine g_av (wr := [(h0, .inr (5, [.ref h2, .ref h3, .ref h4, .ref h5, .int wp4000448])), (h5, .inr (8, [.ref h10, .int wp4000451])), (h10, .inl (y 1, 3, .inr (.inl (fun _ => 0)))), (h2, .inr (8, [.ref h12, .int 0]))]) (va_runV (As := [.int 9, .long (((p1 / 10) - (p1 / 10) / 10 * 10).toInt64)]) (rest := []) ⟨hx, hb, hml, hown, hg⟩ (k_X8_set_37 l D y aS H.size h4 (((p1 / 10) - (p1 / 10) / 10 * 10).toInt64) h7 wp4000449 (vp_updL wf4000450 ((10 : Int32).toNatClampNeg) ((p1 - p1 / 10 * 10).toInt64))) (cwV 2 hg ggV_RX5_29_X8_set rfl rfl rfl (by decide +kernel) ⟨Nat.le_of_ble_eq_true rfl, Nat.le_of_ble_eq_true rfl⟩) (g_preV (q := (RX8, TX8, 2)) hK hP hD [4, 5] rfl (by decide) (ci := 8) (q0 := 4) rfl rfl) rfl rfl hl.1 rfl (lv_room (Nat.le_of_ble_eq_true rfl)) dX5_tellSecret_30 ⟨Nat.le_of_ble_eq_true rfl, Nat.le_of_ble_eq_true rfl⟩) hP hD hS hA [4, 5] [0, 1, 2, 3] rfl rfl (by decide) (by decide) ?_
  clear hP hD hS H locs
  refine fun u H locs hq hP hD hS => ?_
  replace hP : va_P D vwCl [(h0, .inr (5, [.ref h2, .ref h3, .ref h4, .ref h5, .int wp4000448])), (h5, .inr (8, [.ref h10, .int wp4000451])), (h10, .inl (y 1, 3, .inr (.inl (fun _ => 0)))), (h2, .inr (8, [.ref h12, .int 0])), (h4, .inr (8, [.ref h7, .int wp4000449])), (h7, .inl (y 1, 18, .inr (.inl (vp_updL (vp_updL wf4000450 ((10 : Int32).toNatClampNeg) ((p1 - p1 / 10 * 10).toInt64)) ((9 : Int32).toNatClampNeg) (((p1 / 10) - (p1 / 10) / 10 * 10).toInt64)))))] H := hP
  replace hD : va_D A [(h0, .inr (5, [.ref h2, .ref h3, .ref h4, .ref h5, .int wp4000448])), (h5, .inr (8, [.ref h10, .int wp4000451])), (h10, .inl (y 1, 3, .inr (.inl (fun _ => 0)))), (h2, .inr (8, [.ref h12, .int 0])), (h4, .inr (8, [.ref h7, .int wp4000449])), (h7, .inl (y 1, 18, .inr (.inl (vp_updL (vp_updL wf4000450 ((10 : Int32).toNatClampNeg) ((p1 - p1 / 10 * 10).toInt64)) ((9 : Int32).toNatClampNeg) (((p1 / 10) - (p1 / 10) / 10 * 10).toInt64)))))] := hD
  refine lv_iload hx hb dX5_tellSecret_33 (lv_at hl 1 rfl) ?_
  refine lv_bipush (v := 10) hx hb dX5_tellSecret_35 (by decide +kernel) ?_
  refine lv_idiv hx hb dX5_tellSecret_37 (by decide +kernel) ?_
  refine lv_istore (lv' := [(4, .int ((p1 / 10) / 10)), (5, .int 3), (0, .ref h0), (1, .int 1), (2, .int p1), (3, .int 5)]) hx hb dX5_tellSecret_38 hl (by decide) rfl ?_
  clear hl
  clear ls
  intro ls hl
  refine lv_iinc (v := 2) (lv' := [(5, .int 2), (4, .int ((p1 / 10) / 10)), (0, .ref h0), (1, .int 1), (2, .int p1), (3, .int 5)]) hx hb dX5_tellSecret_40 hl (k := 1) rfl (by decide +kernel) (by decide) rfl ?_
  clear hl
  clear ls
  intro ls hl
  refine lv_goto (tgt := 8) hx hb dX5_tellSecret_43 (by decide) ?_
  refine lv_iload hx hb dX5_tellSecret_8 (lv_at hl 0 rfl) ?_
  refine lv_if_lt (tgt := 46) hx hb dX5_tellSecret_10 (by decide) (fun c9 => absurd c9 (by decide +kernel)) (fun _ => ?_)
  refine lv_aload_n hx hb dX5_tellSecret_13 rfl (lv_at hl 2 rfl) ?_
  refine gm_get (D := D) (ci := 5) (v := .ref h4) (C := RX5) (T := TX5) (N := 5) hx hb hg inlX5 hown hK.1 hP 0 rfl rfl 2 (by decide) tX5_2 (hg _ gw_140) rfl dX5_tellSecret_14 ?_
  refine lv_iload_n hx hb dX5_tellSecret_17 rfl (lv_at hl 3 rfl) ?_
  refine lv_bipush (v := 6) hx hb dX5_tellSecret_18 (by decide +kernel) ?_
  refine lv_imul hx hb dX5_tellSecret_20 ?_
  refine g_fi (v := 6) (by decide +kernel) ?_
  refine lv_iload hx hb dX5_tellSecret_21 (lv_at hl 0 rfl) ?_
  refine lv_iadd hx hb dX5_tellSecret_23 ?_
  refine g_fi (v := 8) (by decide +kernel) ?_
  refine lv_iload hx hb dX5_tellSecret_24 (lv_at hl 1 rfl) ?_
  refine lv_bipush (v := 10) hx hb dX5_tellSecret_26 (by decide +kernel) ?_
  refine lv_irem hx hb dX5_tellSecret_28 (by decide +kernel) ?_
  refine lv_i2l (v := ((((p1 / 10) / 10) - ((p1 / 10) / 10) / 10 * 10).toInt64)) hx hb dX5_tellSecret_29 rfl ?_
  refine g_av (wr := [(h0, .inr (5, [.ref h2, .ref h3, .ref h4, .ref h5, .int wp4000448])), (h5, .inr (8, [.ref h10, .int wp4000451])), (h10, .inl (y 1, 3, .inr (.inl (fun _ => 0)))), (h2, .inr (8, [.ref h12, .int 0]))]) (va_runV (As := [.int 8, .long ((((p1 / 10) / 10) - ((p1 / 10) / 10) / 10 * 10).toInt64)]) (rest := []) ⟨hx, hb, hml, hown, hg⟩ (k_X8_set_34 l D y aS H.size h4 ((((p1 / 10) / 10) - ((p1 / 10) / 10) / 10 * 10).toInt64) h7 wp4000449 (vp_updL (vp_updL wf4000450 ((10 : Int32).toNatClampNeg) ((p1 - p1 / 10 * 10).toInt64)) ((9 : Int32).toNatClampNeg) (((p1 / 10) - (p1 / 10) / 10 * 10).toInt64))) (cwV 2 hg ggV_RX5_29_X8_set rfl rfl rfl (by decide +kernel) ⟨Nat.le_of_ble_eq_true rfl, Nat.le_of_ble_eq_true rfl⟩) (g_preV (q := (RX8, TX8, 2)) hK hP hD [4, 5] rfl (by decide) (ci := 8) (q0 := 4) rfl rfl) rfl rfl hl.1 rfl (lv_room (Nat.le_of_ble_eq_true rfl)) dX5_tellSecret_30 ⟨Nat.le_of_ble_eq_true rfl, Nat.le_of_ble_eq_true rfl⟩) hP hD hS hA [4, 5] [0, 1, 2, 3] rfl rfl (by decide) (by decide) ?_
  clear hP hD hS H locs
  refine fun u H locs hq hP hD hS => ?_
  replace hP : va_P D vwCl [(h0, .inr (5, [.ref h2, .ref h3, .ref h4, .ref h5, .int wp4000448])), (h5, .inr (8, [.ref h10, .int wp4000451])), (h10, .inl (y 1, 3, .inr (.inl (fun _ => 0)))), (h2, .inr (8, [.ref h12, .int 0])), (h4, .inr (8, [.ref h7, .int wp4000449])), (h7, .inl (y 1, 18, .inr (.inl (vp_updL (vp_updL (vp_updL wf4000450 ((10 : Int32).toNatClampNeg) ((p1 - p1 / 10 * 10).toInt64)) ((9 : Int32).toNatClampNeg) (((p1 / 10) - (p1 / 10) / 10 * 10).toInt64)) ((8 : Int32).toNatClampNeg) ((((p1 / 10) / 10) - ((p1 / 10) / 10) / 10 * 10).toInt64)))))] H := hP
  replace hD : va_D A [(h0, .inr (5, [.ref h2, .ref h3, .ref h4, .ref h5, .int wp4000448])), (h5, .inr (8, [.ref h10, .int wp4000451])), (h10, .inl (y 1, 3, .inr (.inl (fun _ => 0)))), (h2, .inr (8, [.ref h12, .int 0])), (h4, .inr (8, [.ref h7, .int wp4000449])), (h7, .inl (y 1, 18, .inr (.inl (vp_updL (vp_updL (vp_updL wf4000450 ((10 : Int32).toNatClampNeg) ((p1 - p1 / 10 * 10).toInt64)) ((9 : Int32).toNatClampNeg) (((p1 / 10) - (p1 / 10) / 10 * 10).toInt64)) ((8 : Int32).toNatClampNeg) ((((p1 / 10) / 10) - ((p1 / 10) / 10) / 10 * 10).toInt64)))))] := hD
  refine lv_iload hx hb dX5_tellSecret_33 (lv_at hl 1 rfl) ?_
  refine lv_bipush (v := 10) hx hb dX5_tellSecret_35 (by decide +kernel) ?_
  refine lv_idiv hx hb dX5_tellSecret_37 (by decide +kernel) ?_
  refine lv_istore (lv' := [(4, .int (((p1 / 10) / 10) / 10)), (5, .int 2), (0, .ref h0), (1, .int 1), (2, .int p1), (3, .int 5)]) hx hb dX5_tellSecret_38 hl (by decide) rfl ?_
  clear hl
  clear ls
  intro ls hl
  refine lv_iinc (v := 1) (lv' := [(5, .int 1), (4, .int (((p1 / 10) / 10) / 10)), (0, .ref h0), (1, .int 1), (2, .int p1), (3, .int 5)]) hx hb dX5_tellSecret_40 hl (k := 1) rfl (by decide +kernel) (by decide) rfl ?_
  clear hl
  clear ls
  intro ls hl
  refine lv_goto (tgt := 8) hx hb dX5_tellSecret_43 (by decide) ?_
  refine lv_iload hx hb dX5_tellSecret_8 (lv_at hl 0 rfl) ?_
  refine lv_if_lt (tgt := 46) hx hb dX5_tellSecret_10 (by decide) (fun c9 => absurd c9 (by decide +kernel)) (fun _ => ?_)
  refine lv_aload_n hx hb dX5_tellSecret_13 rfl (lv_at hl 2 rfl) ?_
  refine gm_get (D := D) (ci := 5) (v := .ref h4) (C := RX5) (T := TX5) (N := 5) hx hb hg inlX5 hown hK.1 hP 0 rfl rfl 2 (by decide) tX5_2 (hg _ gw_140) rfl dX5_tellSecret_14 ?_
  refine lv_iload_n hx hb dX5_tellSecret_17 rfl (lv_at hl 3 rfl) ?_
  refine lv_bipush (v := 6) hx hb dX5_tellSecret_18 (by decide +kernel) ?_
  refine lv_imul hx hb dX5_tellSecret_20 ?_
  refine g_fi (v := 6) (by decide +kernel) ?_
  refine lv_iload hx hb dX5_tellSecret_21 (lv_at hl 0 rfl) ?_
  refine lv_iadd hx hb dX5_tellSecret_23 ?_
  refine g_fi (v := 7) (by decide +kernel) ?_
  refine lv_iload hx hb dX5_tellSecret_24 (lv_at hl 1 rfl) ?_
  refine lv_bipush (v := 10) hx hb dX5_tellSecret_26 (by decide +kernel) ?_
  refine lv_irem hx hb dX5_tellSecret_28 (by decide +kernel) ?_
  refine lv_i2l (v := (((((p1 / 10) / 10) / 10) - (((p1 / 10) / 10) / 10) / 10 * 10).toInt64)) hx hb dX5_tellSecret_29 rfl ?_
  refine g_av (wr := [(h0, .inr (5, [.ref h2, .ref h3, .ref h4, .ref h5, .int wp4000448])), (h5, .inr (8, [.ref h10, .int wp4000451])), (h10, .inl (y 1, 3, .inr (.inl (fun _ => 0)))), (h2, .inr (8, [.ref h12, .int 0]))]) (va_runV (As := [.int 7, .long (((((p1 / 10) / 10) / 10) - (((p1 / 10) / 10) / 10) / 10 * 10).toInt64)]) (rest := []) ⟨hx, hb, hml, hown, hg⟩ (k_X8_set_29 l D y aS H.size h4 (((((p1 / 10) / 10) / 10) - (((p1 / 10) / 10) / 10) / 10 * 10).toInt64) h7 wp4000449 (vp_updL (vp_updL (vp_updL wf4000450 ((10 : Int32).toNatClampNeg) ((p1 - p1 / 10 * 10).toInt64)) ((9 : Int32).toNatClampNeg) (((p1 / 10) - (p1 / 10) / 10 * 10).toInt64)) ((8 : Int32).toNatClampNeg) ((((p1 / 10) / 10) - ((p1 / 10) / 10) / 10 * 10).toInt64))) (cwV 2 hg ggV_RX5_29_X8_set rfl rfl rfl (by decide +kernel) ⟨Nat.le_of_ble_eq_true rfl, Nat.le_of_ble_eq_true rfl⟩) (g_preV (q := (RX8, TX8, 2)) hK hP hD [4, 5] rfl (by decide) (ci := 8) (q0 := 4) rfl rfl) rfl rfl hl.1 rfl (lv_room (Nat.le_of_ble_eq_true rfl)) dX5_tellSecret_30 ⟨Nat.le_of_ble_eq_true rfl, Nat.le_of_ble_eq_true rfl⟩) hP hD hS hA [4, 5] [0, 1, 2, 3] rfl rfl (by decide) (by decide) ?_
  clear hP hD hS H locs
  refine fun u H locs hq hP hD hS => ?_
  replace hP : va_P D vwCl [(h0, .inr (5, [.ref h2, .ref h3, .ref h4, .ref h5, .int wp4000448])), (h5, .inr (8, [.ref h10, .int wp4000451])), (h10, .inl (y 1, 3, .inr (.inl (fun _ => 0)))), (h2, .inr (8, [.ref h12, .int 0])), (h4, .inr (8, [.ref h7, .int wp4000449])), (h7, .inl (y 1, 18, .inr (.inl (vp_updL (vp_updL (vp_updL (vp_updL wf4000450 ((10 : Int32).toNatClampNeg) ((p1 - p1 / 10 * 10).toInt64)) ((9 : Int32).toNatClampNeg) (((p1 / 10) - (p1 / 10) / 10 * 10).toInt64)) ((8 : Int32).toNatClampNeg) ((((p1 / 10) / 10) - ((p1 / 10) / 10) / 10 * 10).toInt64)) ((7 : Int32).toNatClampNeg) (((((p1 / 10) / 10) / 10) - (((p1 / 10) / 10) / 10) / 10 * 10).toInt64)))))] H := hP
  replace hD : va_D A [(h0, .inr (5, [.ref h2, .ref h3, .ref h4, .ref h5, .int wp4000448])), (h5, .inr (8, [.ref h10, .int wp4000451])), (h10, .inl (y 1, 3, .inr (.inl (fun _ => 0)))), (h2, .inr (8, [.ref h12, .int 0])), (h4, .inr (8, [.ref h7, .int wp4000449])), (h7, .inl (y 1, 18, .inr (.inl (vp_updL (vp_updL (vp_updL (vp_updL wf4000450 ((10 : Int32).toNatClampNeg) ((p1 - p1 / 10 * 10).toInt64)) ((9 : Int32).toNatClampNeg) (((p1 / 10) - (p1 / 10) / 10 * 10).toInt64)) ((8 : Int32).toNatClampNeg) ((((p1 / 10) / 10) - ((p1 / 10) / 10) / 10 * 10).toInt64)) ((7 : Int32).toNatClampNeg) (((((p1 / 10) / 10) / 10) - (((p1 / 10) / 10) / 10) / 10 * 10).toInt64)))))] := hD
  refine lv_iload hx hb dX5_tellSecret_33 (lv_at hl 1 rfl) ?_
  refine lv_bipush (v := 10) hx hb dX5_tellSecret_35 (by decide +kernel) ?_
  refine lv_idiv hx hb dX5_tellSecret_37 (by decide +kernel) ?_
  refine lv_istore (lv' := [(4, .int ((((p1 / 10) / 10) / 10) / 10)), (5, .int 1), (0, .ref h0), (1, .int 1), (2, .int p1), (3, .int 5)]) hx hb dX5_tellSecret_38 hl (by decide) rfl ?_
  clear hl
  clear ls
  intro ls hl
  refine lv_iinc (v := 0) (lv' := [(5, .int 0), (4, .int ((((p1 / 10) / 10) / 10) / 10)), (0, .ref h0), (1, .int 1), (2, .int p1), (3, .int 5)]) hx hb dX5_tellSecret_40 hl (k := 1) rfl (by decide +kernel) (by decide) rfl ?_
  clear hl
  clear ls
  intro ls hl
  refine lv_goto (tgt := 8) hx hb dX5_tellSecret_43 (by decide) ?_
  refine lv_iload hx hb dX5_tellSecret_8 (lv_at hl 0 rfl) ?_
  refine lv_if_lt (tgt := 46) hx hb dX5_tellSecret_10 (by decide) (fun c9 => absurd c9 (by decide +kernel)) (fun _ => ?_)
  refine lv_aload_n hx hb dX5_tellSecret_13 rfl (lv_at hl 2 rfl) ?_
  refine gm_get (D := D) (ci := 5) (v := .ref h4) (C := RX5) (T := TX5) (N := 5) hx hb hg inlX5 hown hK.1 hP 0 rfl rfl 2 (by decide) tX5_2 (hg _ gw_140) rfl dX5_tellSecret_14 ?_
  refine lv_iload_n hx hb dX5_tellSecret_17 rfl (lv_at hl 3 rfl) ?_
  refine lv_bipush (v := 6) hx hb dX5_tellSecret_18 (by decide +kernel) ?_
  refine lv_imul hx hb dX5_tellSecret_20 ?_
  refine g_fi (v := 6) (by decide +kernel) ?_
  refine lv_iload hx hb dX5_tellSecret_21 (lv_at hl 0 rfl) ?_
  refine lv_iadd hx hb dX5_tellSecret_23 ?_
  refine g_fi (v := 6) (by decide +kernel) ?_
  refine lv_iload hx hb dX5_tellSecret_24 (lv_at hl 1 rfl) ?_
  refine lv_bipush (v := 10) hx hb dX5_tellSecret_26 (by decide +kernel) ?_
  refine lv_irem hx hb dX5_tellSecret_28 (by decide +kernel) ?_
  refine lv_i2l (v := ((((((p1 / 10) / 10) / 10) / 10) - ((((p1 / 10) / 10) / 10) / 10) / 10 * 10).toInt64)) hx hb dX5_tellSecret_29 rfl ?_
  refine g_av (wr := [(h0, .inr (5, [.ref h2, .ref h3, .ref h4, .ref h5, .int wp4000448])), (h5, .inr (8, [.ref h10, .int wp4000451])), (h10, .inl (y 1, 3, .inr (.inl (fun _ => 0)))), (h2, .inr (8, [.ref h12, .int 0]))]) (va_runV (As := [.int 6, .long ((((((p1 / 10) / 10) / 10) / 10) - ((((p1 / 10) / 10) / 10) / 10) / 10 * 10).toInt64)]) (rest := []) ⟨hx, hb, hml, hown, hg⟩ (k_X8_set_30 l D y aS H.size h4 ((((((p1 / 10) / 10) / 10) / 10) - ((((p1 / 10) / 10) / 10) / 10) / 10 * 10).toInt64) h7 wp4000449 (vp_updL (vp_updL (vp_updL (vp_updL wf4000450 ((10 : Int32).toNatClampNeg) ((p1 - p1 / 10 * 10).toInt64)) ((9 : Int32).toNatClampNeg) (((p1 / 10) - (p1 / 10) / 10 * 10).toInt64)) ((8 : Int32).toNatClampNeg) ((((p1 / 10) / 10) - ((p1 / 10) / 10) / 10 * 10).toInt64)) ((7 : Int32).toNatClampNeg) (((((p1 / 10) / 10) / 10) - (((p1 / 10) / 10) / 10) / 10 * 10).toInt64))) (cwV 2 hg ggV_RX5_29_X8_set rfl rfl rfl (by decide +kernel) ⟨Nat.le_of_ble_eq_true rfl, Nat.le_of_ble_eq_true rfl⟩) (g_preV (q := (RX8, TX8, 2)) hK hP hD [4, 5] rfl (by decide) (ci := 8) (q0 := 4) rfl rfl) rfl rfl hl.1 rfl (lv_room (Nat.le_of_ble_eq_true rfl)) dX5_tellSecret_30 ⟨Nat.le_of_ble_eq_true rfl, Nat.le_of_ble_eq_true rfl⟩) hP hD hS hA [4, 5] [0, 1, 2, 3] rfl rfl (by decide) (by decide) ?_
  clear hP hD hS H locs
  refine fun u H locs hq hP hD hS => ?_
  replace hP : va_P D vwCl [(h0, .inr (5, [.ref h2, .ref h3, .ref h4, .ref h5, .int wp4000448])), (h5, .inr (8, [.ref h10, .int wp4000451])), (h10, .inl (y 1, 3, .inr (.inl (fun _ => 0)))), (h2, .inr (8, [.ref h12, .int 0])), (h4, .inr (8, [.ref h7, .int wp4000449])), (h7, .inl (y 1, 18, .inr (.inl (vp_updL (vp_updL (vp_updL (vp_updL (vp_updL wf4000450 ((10 : Int32).toNatClampNeg) ((p1 - p1 / 10 * 10).toInt64)) ((9 : Int32).toNatClampNeg) (((p1 / 10) - (p1 / 10) / 10 * 10).toInt64)) ((8 : Int32).toNatClampNeg) ((((p1 / 10) / 10) - ((p1 / 10) / 10) / 10 * 10).toInt64)) ((7 : Int32).toNatClampNeg) (((((p1 / 10) / 10) / 10) - (((p1 / 10) / 10) / 10) / 10 * 10).toInt64)) ((6 : Int32).toNatClampNeg) ((((((p1 / 10) / 10) / 10) / 10) - ((((p1 / 10) / 10) / 10) / 10) / 10 * 10).toInt64)))))] H := hP
  replace hD : va_D A [(h0, .inr (5, [.ref h2, .ref h3, .ref h4, .ref h5, .int wp4000448])), (h5, .inr (8, [.ref h10, .int wp4000451])), (h10, .inl (y 1, 3, .inr (.inl (fun _ => 0)))), (h2, .inr (8, [.ref h12, .int 0])), (h4, .inr (8, [.ref h7, .int wp4000449])), (h7, .inl (y 1, 18, .inr (.inl (vp_updL (vp_updL (vp_updL (vp_updL (vp_updL wf4000450 ((10 : Int32).toNatClampNeg) ((p1 - p1 / 10 * 10).toInt64)) ((9 : Int32).toNatClampNeg) (((p1 / 10) - (p1 / 10) / 10 * 10).toInt64)) ((8 : Int32).toNatClampNeg) ((((p1 / 10) / 10) - ((p1 / 10) / 10) / 10 * 10).toInt64)) ((7 : Int32).toNatClampNeg) (((((p1 / 10) / 10) / 10) - (((p1 / 10) / 10) / 10) / 10 * 10).toInt64)) ((6 : Int32).toNatClampNeg) ((((((p1 / 10) / 10) / 10) / 10) - ((((p1 / 10) / 10) / 10) / 10) / 10 * 10).toInt64)))))] := hD
  refine lv_iload hx hb dX5_tellSecret_33 (lv_at hl 1 rfl) ?_
  refine lv_bipush (v := 10) hx hb dX5_tellSecret_35 (by decide +kernel) ?_
  refine lv_idiv hx hb dX5_tellSecret_37 (by decide +kernel) ?_
  refine lv_istore (lv' := [(4, .int (((((p1 / 10) / 10) / 10) / 10) / 10)), (5, .int 0), (0, .ref h0), (1, .int 1), (2, .int p1), (3, .int 5)]) hx hb dX5_tellSecret_38 hl (by decide) rfl ?_
  clear hl
  clear ls
  intro ls hl
  refine lv_iinc (v := (-1)) (lv' := [(5, .int (-1)), (4, .int (((((p1 / 10) / 10) / 10) / 10) / 10)), (0, .ref h0), (1, .int 1), (2, .int p1), (3, .int 5)]) hx hb dX5_tellSecret_40 hl (k := 1) rfl (by decide +kernel) (by decide) rfl ?_
  clear hl
  clear ls
  intro ls hl
  refine lv_goto (tgt := 8) hx hb dX5_tellSecret_43 (by decide) ?_
  refine lv_iload hx hb dX5_tellSecret_8 (lv_at hl 0 rfl) ?_
  refine lv_if_lt (tgt := 46) hx hb dX5_tellSecret_10 (by decide) (fun _ => ?_) (fun c9 => absurd c9 (by decide +kernel))
  refine lv_aload_n hx hb dX5_tellSecret_46 rfl (lv_at hl 2 rfl) ?_
  refine gm_get (D := D) (ci := 5) (v := .ref h5) (C := RX5) (T := TX5) (N := 5) hx hb hg inlX5 hown hK.1 hP 0 rfl rfl 3 (by decide) tX5_3 (hg _ gw_141) rfl dX5_tellSecret_47 ?_
  refine lv_iload_n hx hb dX5_tellSecret_50 rfl (lv_at hl 3 rfl) ?_
  refine lv_iload_n hx hb dX5_tellSecret_51 rfl (lv_at hl 5 rfl) ?_
  refine lv_i2l (v := 5) hx hb dX5_tellSecret_52 (by decide +kernel) ?_
  refine g_av (wr := [(h0, .inr (5, [.ref h2, .ref h3, .ref h4, .ref h5, .int wp4000448])), (h2, .inr (8, [.ref h12, .int 0])), (h4, .inr (8, [.ref h7, .int wp4000449])), (h7, .inl (y 1, 18, .inr (.inl (vp_updL (vp_updL (vp_updL (vp_updL (vp_updL wf4000450 ((10 : Int32).toNatClampNeg) ((p1 - p1 / 10 * 10).toInt64)) ((9 : Int32).toNatClampNeg) (((p1 / 10) - (p1 / 10) / 10 * 10).toInt64)) ((8 : Int32).toNatClampNeg) ((((p1 / 10) / 10) - ((p1 / 10) / 10) / 10 * 10).toInt64)) ((7 : Int32).toNatClampNeg) (((((p1 / 10) / 10) / 10) - (((p1 / 10) / 10) / 10) / 10 * 10).toInt64)) ((6 : Int32).toNatClampNeg) ((((((p1 / 10) / 10) / 10) / 10) - ((((p1 / 10) / 10) / 10) / 10) / 10 * 10).toInt64)))))]) (va_runV (As := [.int 1, .long 5]) (rest := []) ⟨hx, hb, hml, hown, hg⟩ (k_X8_set_25 l D y aS H.size h5 5 h10 wp4000451 (fun _ => 0)) (cwV 2 hg ggV_RX5_29_X8_set rfl rfl rfl (by decide +kernel) ⟨Nat.le_of_ble_eq_true rfl, Nat.le_of_ble_eq_true rfl⟩) (g_preV (q := (RX8, TX8, 2)) hK hP hD [1, 2] rfl (by decide) (ci := 8) (q0 := 1) rfl rfl) rfl rfl hl.1 rfl (lv_room (Nat.le_of_ble_eq_true rfl)) dX5_tellSecret_53 ⟨Nat.le_of_ble_eq_true rfl, Nat.le_of_ble_eq_true rfl⟩) hP hD hS hA [1, 2] [0, 3, 4, 5] rfl rfl (by decide) (by decide) ?_
  clear hP hD hS H locs
  refine fun u H locs hq hP hD hS => ?_
  replace hP : va_P D vwCl [(h0, .inr (5, [.ref h2, .ref h3, .ref h4, .ref h5, .int wp4000448])), (h2, .inr (8, [.ref h12, .int 0])), (h4, .inr (8, [.ref h7, .int wp4000449])), (h7, .inl (y 1, 18, .inr (.inl (vp_updL (vp_updL (vp_updL (vp_updL (vp_updL wf4000450 ((10 : Int32).toNatClampNeg) ((p1 - p1 / 10 * 10).toInt64)) ((9 : Int32).toNatClampNeg) (((p1 / 10) - (p1 / 10) / 10 * 10).toInt64)) ((8 : Int32).toNatClampNeg) ((((p1 / 10) / 10) - ((p1 / 10) / 10) / 10 * 10).toInt64)) ((7 : Int32).toNatClampNeg) (((((p1 / 10) / 10) / 10) - (((p1 / 10) / 10) / 10) / 10 * 10).toInt64)) ((6 : Int32).toNatClampNeg) ((((((p1 / 10) / 10) / 10) / 10) - ((((p1 / 10) / 10) / 10) / 10) / 10 * 10).toInt64))))), (h5, .inr (8, [.ref h10, .int wp4000451])), (h10, .inl (y 1, 3, .inr (.inl (vp_updL (fun _ => 0) ((1 : Int32).toNatClampNeg) 5))))] H := hP
  replace hD : va_D A [(h0, .inr (5, [.ref h2, .ref h3, .ref h4, .ref h5, .int wp4000448])), (h2, .inr (8, [.ref h12, .int 0])), (h4, .inr (8, [.ref h7, .int wp4000449])), (h7, .inl (y 1, 18, .inr (.inl (vp_updL (vp_updL (vp_updL (vp_updL (vp_updL wf4000450 ((10 : Int32).toNatClampNeg) ((p1 - p1 / 10 * 10).toInt64)) ((9 : Int32).toNatClampNeg) (((p1 / 10) - (p1 / 10) / 10 * 10).toInt64)) ((8 : Int32).toNatClampNeg) ((((p1 / 10) / 10) - ((p1 / 10) / 10) / 10 * 10).toInt64)) ((7 : Int32).toNatClampNeg) (((((p1 / 10) / 10) / 10) - (((p1 / 10) / 10) / 10) / 10 * 10).toInt64)) ((6 : Int32).toNatClampNeg) ((((((p1 / 10) / 10) / 10) / 10) - ((((p1 / 10) / 10) / 10) / 10) / 10 * 10).toInt64))))), (h5, .inr (8, [.ref h10, .int wp4000451])), (h10, .inl (y 1, 3, .inr (.inl (vp_updL (fun _ => 0) ((1 : Int32).toNatClampNeg) 5))))] := hD
  refine lv_aload_n hx hb dX5_tellSecret_56 rfl (lv_at hl 2 rfl) ?_
  refine g_av (wr := [(h4, .inr (8, [.ref h7, .int wp4000449])), (h7, .inl (y 1, 18, .inr (.inl (vp_updL (vp_updL (vp_updL (vp_updL (vp_updL wf4000450 ((10 : Int32).toNatClampNeg) ((p1 - p1 / 10 * 10).toInt64)) ((9 : Int32).toNatClampNeg) (((p1 / 10) - (p1 / 10) / 10 * 10).toInt64)) ((8 : Int32).toNatClampNeg) ((((p1 / 10) / 10) - ((p1 / 10) / 10) / 10 * 10).toInt64)) ((7 : Int32).toNatClampNeg) (((((p1 / 10) / 10) / 10) - (((p1 / 10) / 10) / 10) / 10 * 10).toInt64)) ((6 : Int32).toNatClampNeg) ((((((p1 / 10) / 10) / 10) / 10) - ((((p1 / 10) / 10) / 10) / 10) / 10 * 10).toInt64))))), (h5, .inr (8, [.ref h10, .int wp4000451])), (h10, .inl (y 1, 3, .inr (.inl (vp_updL (fun _ => 0) ((1 : Int32).toNatClampNeg) 5))))]) (va_runV (As := []) (rest := []) ⟨hx, hb, hml, hown, hg⟩ (k_X5_findOut_0 l D y aS H.size h0 h2 h3 h4 h5 wp4000448 h12) (cwV 0 hg ggV_RX5_33_X5_findOut rfl rfl rfl (by decide +kernel) ⟨Nat.le_of_ble_eq_true rfl, Nat.le_of_ble_eq_true rfl⟩) (g_preV (q := (RX5, TX5, 5)) hK hP hD [0, 1] rfl (by decide) (ci := 5) (q0 := 0) rfl rfl) rfl rfl hl.1 rfl (lv_room (Nat.le_of_ble_eq_true rfl)) dX5_tellSecret_57 ⟨Nat.le_of_ble_eq_true rfl, Nat.le_of_ble_eq_true rfl⟩) hP hD hS hA [0, 1] [2, 3, 4, 5] rfl rfl (by decide) (by decide) ?_
  clear hP hD hS H locs
  refine fun u H locs hq hP hD hS => ?_
  replace hP : va_P D vwCl [(h4, .inr (8, [.ref h7, .int wp4000449])), (h7, .inl (y 1, 18, .inr (.inl (vp_updL (vp_updL (vp_updL (vp_updL (vp_updL wf4000450 ((10 : Int32).toNatClampNeg) ((p1 - p1 / 10 * 10).toInt64)) ((9 : Int32).toNatClampNeg) (((p1 / 10) - (p1 / 10) / 10 * 10).toInt64)) ((8 : Int32).toNatClampNeg) ((((p1 / 10) / 10) - ((p1 / 10) / 10) / 10 * 10).toInt64)) ((7 : Int32).toNatClampNeg) (((((p1 / 10) / 10) / 10) - (((p1 / 10) / 10) / 10) / 10 * 10).toInt64)) ((6 : Int32).toNatClampNeg) ((((((p1 / 10) / 10) / 10) / 10) - ((((p1 / 10) / 10) / 10) / 10) / 10 * 10).toInt64))))), (h5, .inr (8, [.ref h10, .int wp4000451])), (h10, .inl (y 1, 3, .inr (.inl (vp_updL (fun _ => 0) ((1 : Int32).toNatClampNeg) 5)))), (h0, .inr (5, [.ref h2, .ref h3, .ref h4, .ref h5, .int 0])), (h2, .inr (8, [.ref h12, .int 0]))] H := hP
  replace hD : va_D A [(h4, .inr (8, [.ref h7, .int wp4000449])), (h7, .inl (y 1, 18, .inr (.inl (vp_updL (vp_updL (vp_updL (vp_updL (vp_updL wf4000450 ((10 : Int32).toNatClampNeg) ((p1 - p1 / 10 * 10).toInt64)) ((9 : Int32).toNatClampNeg) (((p1 / 10) - (p1 / 10) / 10 * 10).toInt64)) ((8 : Int32).toNatClampNeg) ((((p1 / 10) / 10) - ((p1 / 10) / 10) / 10 * 10).toInt64)) ((7 : Int32).toNatClampNeg) (((((p1 / 10) / 10) / 10) - (((p1 / 10) / 10) / 10) / 10 * 10).toInt64)) ((6 : Int32).toNatClampNeg) ((((((p1 / 10) / 10) / 10) / 10) - ((((p1 / 10) / 10) / 10) / 10) / 10 * 10).toInt64))))), (h5, .inr (8, [.ref h10, .int wp4000451])), (h10, .inl (y 1, 3, .inr (.inl (vp_updL (fun _ => 0) ((1 : Int32).toNatClampNeg) 5)))), (h0, .inr (5, [.ref h2, .ref h3, .ref h4, .ref h5, .int 0])), (h2, .inr (8, [.ref h12, .int 0]))] := hD
  refine lv_iconst (v := 0) hx hb dX5_tellSecret_60 (by decide) ?_
  refine lv_istore (lv' := [(5, .int 0), (4, .int (((((p1 / 10) / 10) / 10) / 10) / 10)), (0, .ref h0), (1, .int 1), (2, .int p1), (3, .int 5)]) hx hb dX5_tellSecret_61 hl (by decide) rfl ?_
  clear hl
  clear ls
  intro ls hl
  refine lv_iconst (v := 0) hx hb dX5_tellSecret_63 (by decide) ?_
  refine lv_istore (lv' := [(6, .int 0), (5, .int 0), (4, .int (((((p1 / 10) / 10) / 10) / 10) / 10)), (0, .ref h0), (1, .int 1), (2, .int p1), (3, .int 5)]) hx hb dX5_tellSecret_64 hl (by decide) rfl ?_
  clear hl
  clear ls
  intro ls hl
  refine lv_iload hx hb dX5_tellSecret_66 (lv_at hl 0 rfl) ?_
  refine lv_iconst (v := 3) hx hb dX5_tellSecret_68 (by decide) ?_
  refine lv_icmp_ge (tgt := 95) hx hb dX5_tellSecret_69 (by decide) (fun c9 => absurd c9 (by decide +kernel)) (fun _ => ?_)
  refine lv_aload_n hx hb dX5_tellSecret_72 rfl (lv_at hl 3 rfl) ?_
  refine gm_get (D := D) (ci := 5) (v := .ref h5) (C := RX5) (T := TX5) (N := 5) hx hb hg inlX5 hown hK.1 hP 4 rfl rfl 3 (by decide) tX5_3 (hg _ gw_141) rfl dX5_tellSecret_73 ?_
  refine lv_iload hx hb dX5_tellSecret_76 (lv_at hl 0 rfl) ?_
  refine g_al (wr := [(h4, .inr (8, [.ref h7, .int wp4000449])), (h7, .inl (y 1, 18, .inr (.inl (vp_updL (vp_updL (vp_updL (vp_updL (vp_updL wf4000450 ((10 : Int32).toNatClampNeg) ((p1 - p1 / 10 * 10).toInt64)) ((9 : Int32).toNatClampNeg) (((p1 / 10) - (p1 / 10) / 10 * 10).toInt64)) ((8 : Int32).toNatClampNeg) ((((p1 / 10) / 10) - ((p1 / 10) / 10) / 10 * 10).toInt64)) ((7 : Int32).toNatClampNeg) (((((p1 / 10) / 10) / 10) - (((p1 / 10) / 10) / 10) / 10 * 10).toInt64)) ((6 : Int32).toNatClampNeg) ((((((p1 / 10) / 10) / 10) / 10) - ((((p1 / 10) / 10) / 10) / 10) / 10 * 10).toInt64))))), (h0, .inr (5, [.ref h2, .ref h3, .ref h4, .ref h5, .int 0])), (h2, .inr (8, [.ref h12, .int 0]))]) (va_runV (As := [.int 0]) (rest := []) ⟨hx, hb, hml, hown, hg⟩ (k_X8_get_32 l D y aS H.size h5 h10 wp4000451) (cwV 1 hg ggV_RX5_36_X8_get rfl rfl rfl (by decide +kernel) ⟨Nat.le_of_ble_eq_true rfl, Nat.le_of_ble_eq_true rfl⟩) (g_preV (q := (RX8, TX8, 2)) hK hP hD [2, 3] rfl (by decide) (ci := 8) (q0 := 2) rfl rfl) rfl rfl hl.1 rfl (lv_room (Nat.le_of_ble_eq_true rfl)) dX5_tellSecret_78 ⟨Nat.le_of_ble_eq_true rfl, Nat.le_of_ble_eq_true rfl⟩) hP hD hS hA [2, 3] [0, 1, 4, 5] rfl rfl (by decide) (by decide) ?_
  clear hP hD hS H locs
  refine fun r4000459 u H locs hq hP hD hS => ?_
  subst hq
  replace hP : va_P D vwCl [(h4, .inr (8, [.ref h7, .int wp4000449])), (h7, .inl (y 1, 18, .inr (.inl (vp_updL (vp_updL (vp_updL (vp_updL (vp_updL wf4000450 ((10 : Int32).toNatClampNeg) ((p1 - p1 / 10 * 10).toInt64)) ((9 : Int32).toNatClampNeg) (((p1 / 10) - (p1 / 10) / 10 * 10).toInt64)) ((8 : Int32).toNatClampNeg) ((((p1 / 10) / 10) - ((p1 / 10) / 10) / 10 * 10).toInt64)) ((7 : Int32).toNatClampNeg) (((((p1 / 10) / 10) / 10) - (((p1 / 10) / 10) / 10) / 10 * 10).toInt64)) ((6 : Int32).toNatClampNeg) ((((((p1 / 10) / 10) / 10) / 10) - ((((p1 / 10) / 10) / 10) / 10) / 10 * 10).toInt64))))), (h0, .inr (5, [.ref h2, .ref h3, .ref h4, .ref h5, .int 0])), (h2, .inr (8, [.ref h12, .int 0])), (h5, .inr (8, [.ref h10, .int wp4000451])), (h10, .inl (y 1, 3, .inr (.inl (vp_updL (fun _ => 0) ((1 : Int32).toNatClampNeg) 5))))] H := hP
  replace hD : va_D A [(h4, .inr (8, [.ref h7, .int wp4000449])), (h7, .inl (y 1, 18, .inr (.inl (vp_updL (vp_updL (vp_updL (vp_updL (vp_updL wf4000450 ((10 : Int32).toNatClampNeg) ((p1 - p1 / 10 * 10).toInt64)) ((9 : Int32).toNatClampNeg) (((p1 / 10) - (p1 / 10) / 10 * 10).toInt64)) ((8 : Int32).toNatClampNeg) ((((p1 / 10) / 10) - ((p1 / 10) / 10) / 10 * 10).toInt64)) ((7 : Int32).toNatClampNeg) (((((p1 / 10) / 10) / 10) - (((p1 / 10) / 10) / 10) / 10 * 10).toInt64)) ((6 : Int32).toNatClampNeg) ((((((p1 / 10) / 10) / 10) / 10) - ((((p1 / 10) / 10) / 10) / 10) / 10 * 10).toInt64))))), (h0, .inr (5, [.ref h2, .ref h3, .ref h4, .ref h5, .int 0])), (h2, .inr (8, [.ref h12, .int 0])), (h5, .inr (8, [.ref h10, .int wp4000451])), (h10, .inl (y 1, 3, .inr (.inl (vp_updL (fun _ => 0) ((1 : Int32).toNatClampNeg) 5))))] := hD
  refine lv_lconst (v := 0) hx hb dX5_tellSecret_81 (by decide) ?_
  refine W.lcmp hx hb dX5_tellSecret_82 ?_
  refine g_fi (v := 0) (by decide +kernel) ?_
  refine lv_if_le (tgt := 89) hx hb dX5_tellSecret_83 (by decide) (fun _ => ?_) (fun c9 => absurd c9 (by decide +kernel))
  refine lv_iinc (v := 1) (lv' := [(6, .int 1), (5, .int 0), (4, .int (((((p1 / 10) / 10) / 10) / 10) / 10)), (0, .ref h0), (1, .int 1), (2, .int p1), (3, .int 5)]) hx hb dX5_tellSecret_89 hl (k := 0) rfl (by decide +kernel) (by decide) rfl ?_
  clear hl
  clear ls
  intro ls hl
  refine lv_goto (tgt := 66) hx hb dX5_tellSecret_92 (by decide) ?_
  refine lv_iload hx hb dX5_tellSecret_66 (lv_at hl 0 rfl) ?_
  refine lv_iconst (v := 3) hx hb dX5_tellSecret_68 (by decide) ?_
  refine lv_icmp_ge (tgt := 95) hx hb dX5_tellSecret_69 (by decide) (fun c9 => absurd c9 (by decide +kernel)) (fun _ => ?_)
  refine lv_aload_n hx hb dX5_tellSecret_72 rfl (lv_at hl 3 rfl) ?_
  refine gm_get (D := D) (ci := 5) (v := .ref h5) (C := RX5) (T := TX5) (N := 5) hx hb hg inlX5 hown hK.1 hP 2 rfl rfl 3 (by decide) tX5_3 (hg _ gw_141) rfl dX5_tellSecret_73 ?_
  refine lv_iload hx hb dX5_tellSecret_76 (lv_at hl 0 rfl) ?_
  refine g_al (wr := [(h4, .inr (8, [.ref h7, .int wp4000449])), (h7, .inl (y 1, 18, .inr (.inl (vp_updL (vp_updL (vp_updL (vp_updL (vp_updL wf4000450 ((10 : Int32).toNatClampNeg) ((p1 - p1 / 10 * 10).toInt64)) ((9 : Int32).toNatClampNeg) (((p1 / 10) - (p1 / 10) / 10 * 10).toInt64)) ((8 : Int32).toNatClampNeg) ((((p1 / 10) / 10) - ((p1 / 10) / 10) / 10 * 10).toInt64)) ((7 : Int32).toNatClampNeg) (((((p1 / 10) / 10) / 10) - (((p1 / 10) / 10) / 10) / 10 * 10).toInt64)) ((6 : Int32).toNatClampNeg) ((((((p1 / 10) / 10) / 10) / 10) - ((((p1 / 10) / 10) / 10) / 10) / 10 * 10).toInt64))))), (h0, .inr (5, [.ref h2, .ref h3, .ref h4, .ref h5, .int 0])), (h2, .inr (8, [.ref h12, .int 0]))]) (va_runV (As := [.int 1]) (rest := []) ⟨hx, hb, hml, hown, hg⟩ (k_X8_get_33 l D y aS H.size h5 h10 wp4000451) (cwV 1 hg ggV_RX5_36_X8_get rfl rfl rfl (by decide +kernel) ⟨Nat.le_of_ble_eq_true rfl, Nat.le_of_ble_eq_true rfl⟩) (g_preV (q := (RX8, TX8, 2)) hK hP hD [4, 5] rfl (by decide) (ci := 8) (q0 := 4) rfl rfl) rfl rfl hl.1 rfl (lv_room (Nat.le_of_ble_eq_true rfl)) dX5_tellSecret_78 ⟨Nat.le_of_ble_eq_true rfl, Nat.le_of_ble_eq_true rfl⟩) hP hD hS hA [4, 5] [0, 1, 2, 3] rfl rfl (by decide) (by decide) ?_
  clear hP hD hS H locs
  refine fun r4000460 u H locs hq hP hD hS => ?_
  subst hq
  replace hP : va_P D vwCl [(h4, .inr (8, [.ref h7, .int wp4000449])), (h7, .inl (y 1, 18, .inr (.inl (vp_updL (vp_updL (vp_updL (vp_updL (vp_updL wf4000450 ((10 : Int32).toNatClampNeg) ((p1 - p1 / 10 * 10).toInt64)) ((9 : Int32).toNatClampNeg) (((p1 / 10) - (p1 / 10) / 10 * 10).toInt64)) ((8 : Int32).toNatClampNeg) ((((p1 / 10) / 10) - ((p1 / 10) / 10) / 10 * 10).toInt64)) ((7 : Int32).toNatClampNeg) (((((p1 / 10) / 10) / 10) - (((p1 / 10) / 10) / 10) / 10 * 10).toInt64)) ((6 : Int32).toNatClampNeg) ((((((p1 / 10) / 10) / 10) / 10) - ((((p1 / 10) / 10) / 10) / 10) / 10 * 10).toInt64))))), (h0, .inr (5, [.ref h2, .ref h3, .ref h4, .ref h5, .int 0])), (h2, .inr (8, [.ref h12, .int 0])), (h5, .inr (8, [.ref h10, .int wp4000451])), (h10, .inl (y 1, 3, .inr (.inl (vp_updL (fun _ => 0) ((1 : Int32).toNatClampNeg) 5))))] H := hP
  replace hD : va_D A [(h4, .inr (8, [.ref h7, .int wp4000449])), (h7, .inl (y 1, 18, .inr (.inl (vp_updL (vp_updL (vp_updL (vp_updL (vp_updL wf4000450 ((10 : Int32).toNatClampNeg) ((p1 - p1 / 10 * 10).toInt64)) ((9 : Int32).toNatClampNeg) (((p1 / 10) - (p1 / 10) / 10 * 10).toInt64)) ((8 : Int32).toNatClampNeg) ((((p1 / 10) / 10) - ((p1 / 10) / 10) / 10 * 10).toInt64)) ((7 : Int32).toNatClampNeg) (((((p1 / 10) / 10) / 10) - (((p1 / 10) / 10) / 10) / 10 * 10).toInt64)) ((6 : Int32).toNatClampNeg) ((((((p1 / 10) / 10) / 10) / 10) - ((((p1 / 10) / 10) / 10) / 10) / 10 * 10).toInt64))))), (h0, .inr (5, [.ref h2, .ref h3, .ref h4, .ref h5, .int 0])), (h2, .inr (8, [.ref h12, .int 0])), (h5, .inr (8, [.ref h10, .int wp4000451])), (h10, .inl (y 1, 3, .inr (.inl (vp_updL (fun _ => 0) ((1 : Int32).toNatClampNeg) 5))))] := hD
  refine lv_lconst (v := 0) hx hb dX5_tellSecret_81 (by decide) ?_
  refine W.lcmp hx hb dX5_tellSecret_82 ?_
  refine g_fi (v := 1) (by decide +kernel) ?_
  refine lv_if_le (tgt := 89) hx hb dX5_tellSecret_83 (by decide) (fun c9 => absurd c9 (by decide +kernel)) (fun _ => ?_)
  refine lv_iinc (v := 1) (lv' := [(5, .int 1), (6, .int 1), (4, .int (((((p1 / 10) / 10) / 10) / 10) / 10)), (0, .ref h0), (1, .int 1), (2, .int p1), (3, .int 5)]) hx hb dX5_tellSecret_86 hl (k := 1) rfl (by decide +kernel) (by decide) rfl ?_
  clear hl
  clear ls
  intro ls hl
  refine lv_iinc (v := 2) (lv' := [(6, .int 2), (5, .int 1), (4, .int (((((p1 / 10) / 10) / 10) / 10) / 10)), (0, .ref h0), (1, .int 1), (2, .int p1), (3, .int 5)]) hx hb dX5_tellSecret_89 hl (k := 1) rfl (by decide +kernel) (by decide) rfl ?_
  clear hl
  clear ls
  intro ls hl
  refine lv_goto (tgt := 66) hx hb dX5_tellSecret_92 (by decide) ?_
  refine lv_iload hx hb dX5_tellSecret_66 (lv_at hl 0 rfl) ?_
  refine lv_iconst (v := 3) hx hb dX5_tellSecret_68 (by decide) ?_
  refine lv_icmp_ge (tgt := 95) hx hb dX5_tellSecret_69 (by decide) (fun c9 => absurd c9 (by decide +kernel)) (fun _ => ?_)
  refine lv_aload_n hx hb dX5_tellSecret_72 rfl (lv_at hl 3 rfl) ?_
  refine gm_get (D := D) (ci := 5) (v := .ref h5) (C := RX5) (T := TX5) (N := 5) hx hb hg inlX5 hown hK.1 hP 2 rfl rfl 3 (by decide) tX5_3 (hg _ gw_141) rfl dX5_tellSecret_73 ?_
  refine lv_iload hx hb dX5_tellSecret_76 (lv_at hl 0 rfl) ?_
  refine g_al (wr := [(h4, .inr (8, [.ref h7, .int wp4000449])), (h7, .inl (y 1, 18, .inr (.inl (vp_updL (vp_updL (vp_updL (vp_updL (vp_updL wf4000450 ((10 : Int32).toNatClampNeg) ((p1 - p1 / 10 * 10).toInt64)) ((9 : Int32).toNatClampNeg) (((p1 / 10) - (p1 / 10) / 10 * 10).toInt64)) ((8 : Int32).toNatClampNeg) ((((p1 / 10) / 10) - ((p1 / 10) / 10) / 10 * 10).toInt64)) ((7 : Int32).toNatClampNeg) (((((p1 / 10) / 10) / 10) - (((p1 / 10) / 10) / 10) / 10 * 10).toInt64)) ((6 : Int32).toNatClampNeg) ((((((p1 / 10) / 10) / 10) / 10) - ((((p1 / 10) / 10) / 10) / 10) / 10 * 10).toInt64))))), (h0, .inr (5, [.ref h2, .ref h3, .ref h4, .ref h5, .int 0])), (h2, .inr (8, [.ref h12, .int 0]))]) (va_runV (As := [.int 2]) (rest := []) ⟨hx, hb, hml, hown, hg⟩ (k_X8_get_34 l D y aS H.size h5 h10 wp4000451) (cwV 1 hg ggV_RX5_36_X8_get rfl rfl rfl (by decide +kernel) ⟨Nat.le_of_ble_eq_true rfl, Nat.le_of_ble_eq_true rfl⟩) (g_preV (q := (RX8, TX8, 2)) hK hP hD [4, 5] rfl (by decide) (ci := 8) (q0 := 4) rfl rfl) rfl rfl hl.1 rfl (lv_room (Nat.le_of_ble_eq_true rfl)) dX5_tellSecret_78 ⟨Nat.le_of_ble_eq_true rfl, Nat.le_of_ble_eq_true rfl⟩) hP hD hS hA [4, 5] [0, 1, 2, 3] rfl rfl (by decide) (by decide) ?_
  clear hP hD hS H locs
  refine fun r4000461 u H locs hq hP hD hS => ?_
  subst hq
  replace hP : va_P D vwCl [(h4, .inr (8, [.ref h7, .int wp4000449])), (h7, .inl (y 1, 18, .inr (.inl (vp_updL (vp_updL (vp_updL (vp_updL (vp_updL wf4000450 ((10 : Int32).toNatClampNeg) ((p1 - p1 / 10 * 10).toInt64)) ((9 : Int32).toNatClampNeg) (((p1 / 10) - (p1 / 10) / 10 * 10).toInt64)) ((8 : Int32).toNatClampNeg) ((((p1 / 10) / 10) - ((p1 / 10) / 10) / 10 * 10).toInt64)) ((7 : Int32).toNatClampNeg) (((((p1 / 10) / 10) / 10) - (((p1 / 10) / 10) / 10) / 10 * 10).toInt64)) ((6 : Int32).toNatClampNeg) ((((((p1 / 10) / 10) / 10) / 10) - ((((p1 / 10) / 10) / 10) / 10) / 10 * 10).toInt64))))), (h0, .inr (5, [.ref h2, .ref h3, .ref h4, .ref h5, .int 0])), (h2, .inr (8, [.ref h12, .int 0])), (h5, .inr (8, [.ref h10, .int wp4000451])), (h10, .inl (y 1, 3, .inr (.inl (vp_updL (fun _ => 0) ((1 : Int32).toNatClampNeg) 5))))] H := hP
  replace hD : va_D A [(h4, .inr (8, [.ref h7, .int wp4000449])), (h7, .inl (y 1, 18, .inr (.inl (vp_updL (vp_updL (vp_updL (vp_updL (vp_updL wf4000450 ((10 : Int32).toNatClampNeg) ((p1 - p1 / 10 * 10).toInt64)) ((9 : Int32).toNatClampNeg) (((p1 / 10) - (p1 / 10) / 10 * 10).toInt64)) ((8 : Int32).toNatClampNeg) ((((p1 / 10) / 10) - ((p1 / 10) / 10) / 10 * 10).toInt64)) ((7 : Int32).toNatClampNeg) (((((p1 / 10) / 10) / 10) - (((p1 / 10) / 10) / 10) / 10 * 10).toInt64)) ((6 : Int32).toNatClampNeg) ((((((p1 / 10) / 10) / 10) / 10) - ((((p1 / 10) / 10) / 10) / 10) / 10 * 10).toInt64))))), (h0, .inr (5, [.ref h2, .ref h3, .ref h4, .ref h5, .int 0])), (h2, .inr (8, [.ref h12, .int 0])), (h5, .inr (8, [.ref h10, .int wp4000451])), (h10, .inl (y 1, 3, .inr (.inl (vp_updL (fun _ => 0) ((1 : Int32).toNatClampNeg) 5))))] := hD
  refine lv_lconst (v := 0) hx hb dX5_tellSecret_81 (by decide) ?_
  refine W.lcmp hx hb dX5_tellSecret_82 ?_
  refine g_fi (v := 0) (by decide +kernel) ?_
  refine lv_if_le (tgt := 89) hx hb dX5_tellSecret_83 (by decide) (fun _ => ?_) (fun c9 => absurd c9 (by decide +kernel))
  refine lv_iinc (v := 3) (lv' := [(6, .int 3), (5, .int 1), (4, .int (((((p1 / 10) / 10) / 10) / 10) / 10)), (0, .ref h0), (1, .int 1), (2, .int p1), (3, .int 5)]) hx hb dX5_tellSecret_89 hl (k := 0) rfl (by decide +kernel) (by decide) rfl ?_
  clear hl
  clear ls
  intro ls hl
  refine lv_goto (tgt := 66) hx hb dX5_tellSecret_92 (by decide) ?_
  refine lv_iload hx hb dX5_tellSecret_66 (lv_at hl 0 rfl) ?_
  refine lv_iconst (v := 3) hx hb dX5_tellSecret_68 (by decide) ?_
  refine lv_icmp_ge (tgt := 95) hx hb dX5_tellSecret_69 (by decide) (fun _ => ?_) (fun c9 => absurd c9 (by decide +kernel))
  refine lv_iload hx hb dX5_tellSecret_95 (lv_at hl 1 rfl) ?_
  exact g_iret hx hb hr hlocks () (hP.sub [2, 0, 1, 4, 5, 3] rfl) (hD.sub [2, 0, 1, 4, 5, 3] (by decide +kernel) rfl) hS rfl rfl (Nat.le_of_ble_eq_true rfl) (Nat.le_of_ble_eq_true rfl) dX5_tellSecret_97
set_option maxRecDepth 100000 in
set_option maxHeartbeats 4000000 in
theorem k_X8_set_41 (l : Launch) (D : va_G) (y : Nat → ClassId) (aS : Nat → Nat) (sz : Nat) (h0 : Nat) (p1 : Int64) (h2 : Nat) (wp4000464 : Int32) (wf4000465 : Nat → Int64) : Met l yX8_set (Cond.code yX8_set cX8_set 4 none :: wsL_law) ({ frames := 0, cells := 0, slots := 0, locals := 0 } : Room) (va_Pc [.ref h0, .int 16, .long p1] (gI D y aS [(h0, .inr (8, [.ref h2, .int wp4000464])), (h2, .inl (y 1, 18, .inr (.inl wf4000465)))] sz)) (va_Qv (fun (u : Unit) => True) (fun u => gO D (va_A [(h0, .inr (8, [.ref h2, .int wp4000464])), (h2, .inl (y 1, 18, .inr (.inl wf4000465)))] sz) [(h0, .inr (8, [.ref h2, .int wp4000464])), (h2, .inl (y 1, 18, .inr (.inl (vp_updL wf4000465 ((16 : Int32).toNatClampNeg) p1))))]) (va_A [(h0, .inr (8, [.ref h2, .int wp4000464])), (h2, .inl (y 1, 18, .inr (.inl wf4000465)))] sz)) 0 0 (va_A [(h0, .inr (8, [.ref h2, .int wp4000464])), (h2, .inl (y 1, 18, .inr (.inl wf4000465)))] sz) := by
  refine g_of (by decide) (Nat.le_of_ble_eq_true rfl) ?_
  intro p e s m below meth c ls A hx hb hr hml hown hg hlocks hin hsz hK hP hD hS hA hAe hl
  rw [← hAe]
  replace hown : s.vm.findClass RX8 = some m.cls := hown
  replace hl : lv_has ls 4 [(0, .ref h0), (1, .int 16), (2, .long p1)] := hl
  refine lv_iload_n hx hb dX8_set_0 rfl (lv_at hl 1 rfl) ?_
  refine lv_if_lt (tgt := 20) hx hb dX8_set_1 (by decide) (fun c9 => absurd c9 (by decide +kernel)) (fun _ => ?_)
  refine lv_iload_n hx hb dX8_set_4 rfl (lv_at hl 1 rfl) ?_
  refine lv_aload_n hx hb dX8_set_5 rfl (lv_at hl 0 rfl) ?_
  refine gm_get (D := D) (ci := 8) (v := .ref h2) (C := RX8) (T := TX8) (N := 2) hx hb hg inlX8 hown hK.1 hP 0 rfl rfl 0 (by decide) tX8_0 (hg _ gw_98) rfl dX8_set_6 ?_
  refine va_alen hx hb hK.1 hP 1 1 rfl rfl (v := 18) rfl dX8_set_9 ?_
  refine lv_icmp_ge (tgt := 20) hx hb dX8_set_10 (by decide) (fun c9 => absurd c9 (by decide +kernel)) (fun _ => ?_)
  refine lv_aload_n hx hb dX8_set_13 rfl (lv_at hl 0 rfl) ?_
  refine gm_get (D := D) (ci := 8) (v := .ref h2) (C := RX8) (T := TX8) (N := 2) hx hb hg inlX8 hown hK.1 hP 0 rfl rfl 0 (by decide) tX8_0 (hg _ gw_98) rfl dX8_set_14 ?_
  refine lv_iload_n hx hb dX8_set_17 rfl (lv_at hl 1 rfl) ?_
  refine lv_lload_n hx hb dX8_set_18 rfl (lv_at hl 2 rfl) ?_
  refine va_last hx hb hK.1 hP hD hS 1 1 rfl rfl (by unfold vp_in; decide +kernel) dX8_set_19 ?_
  clear hP hD hS
  refine fun H locs (hP : va_P D vwCl [(h0, .inr (8, [.ref h2, .int wp4000464])), (h2, .inl (y 1, 18, .inr (.inl (vp_updL wf4000465 ((16 : Int32).toNatClampNeg) p1))))] H) (hD : va_D A [(h0, .inr (8, [.ref h2, .int wp4000464])), (h2, .inl (y 1, 18, .inr (.inl (vp_updL wf4000465 ((16 : Int32).toNatClampNeg) p1))))]) hS => ?_
  exact g_vret hx hb hr hlocks () hP hD hS trivial (Nat.le_of_ble_eq_true rfl) (Nat.le_of_ble_eq_true rfl) dX8_set_20
set_option maxRecDepth 100000 in
set_option maxHeartbeats 4000000 in
theorem k_X8_get_35 (l : Launch) (D : va_G) (y : Nat → ClassId) (aS : Nat → Nat) (sz : Nat) (h0 : Nat) (h1 : Nat) (wp4000473 : Int32) : Met l yX8_get (Cond.code yX8_get cX8_get 2 (some .long) :: wsL_law) ({ frames := 0, cells := 0, slots := 0, locals := 0 } : Room) (va_Pc [.ref h0, .int 0] (gI D y aS [(h0, .inr (8, [.ref h1, .int wp4000473])), (h1, .inl (y 1, 3, .inr (.inl (vp_updL (fun _ => 0) ((2 : Int32).toNatClampNeg) 5))))] sz)) (va_Ql (fun (r : Int64) (u : Unit) => 0 = r) (fun u => gO D (va_A [(h0, .inr (8, [.ref h1, .int wp4000473])), (h1, .inl (y 1, 3, .inr (.inl (vp_updL (fun _ => 0) ((2 : Int32).toNatClampNeg) 5))))] sz) [(h0, .inr (8, [.ref h1, .int wp4000473])), (h1, .inl (y 1, 3, .inr (.inl (vp_updL (fun _ => 0) ((2 : Int32).toNatClampNeg) 5))))]) (va_A [(h0, .inr (8, [.ref h1, .int wp4000473])), (h1, .inl (y 1, 3, .inr (.inl (vp_updL (fun _ => 0) ((2 : Int32).toNatClampNeg) 5))))] sz)) 0 0 (va_A [(h0, .inr (8, [.ref h1, .int wp4000473])), (h1, .inl (y 1, 3, .inr (.inl (vp_updL (fun _ => 0) ((2 : Int32).toNatClampNeg) 5))))] sz) := by
  refine g_of (by decide) (Nat.le_of_ble_eq_true rfl) ?_
  intro p e s m below meth c ls A hx hb hr hml hown hg hlocks hin hsz hK hP hD hS hA hAe hl
  rw [← hAe]
  replace hown : s.vm.findClass RX8 = some m.cls := hown
  replace hl : lv_has ls 2 [(0, .ref h0), (1, .int 0)] := hl
  refine lv_iload_n hx hb dX8_get_0 rfl (lv_at hl 1 rfl) ?_
  refine lv_if_lt (tgt := 22) hx hb dX8_get_1 (by decide) (fun c9 => absurd c9 (by decide +kernel)) (fun _ => ?_)
  refine lv_iload_n hx hb dX8_get_4 rfl (lv_at hl 1 rfl) ?_
  refine lv_aload_n hx hb dX8_get_5 rfl (lv_at hl 0 rfl) ?_
  refine gm_get (D := D) (ci := 8) (v := .ref h1) (C := RX8) (T := TX8) (N := 2) hx hb hg inlX8 hown hK.1 hP 0 rfl rfl 0 (by decide) tX8_0 (hg _ gw_98) rfl dX8_get_6 ?_
  refine va_alen hx hb hK.1 hP 1 1 rfl rfl (v := 3) rfl dX8_get_9 ?_
  refine lv_icmp_ge (tgt := 22) hx hb dX8_get_10 (by decide) (fun c9 => absurd c9 (by decide +kernel)) (fun _ => ?_)
  refine lv_aload_n hx hb dX8_get_13 rfl (lv_at hl 0 rfl) ?_
  refine gm_get (D := D) (ci := 8) (v := .ref h1) (C := RX8) (T := TX8) (N := 2) hx hb hg inlX8 hown hK.1 hP 0 rfl rfl 0 (by decide) tX8_0 (hg _ gw_98) rfl dX8_get_14 ?_
  refine lv_iload_n hx hb dX8_get_17 rfl (lv_at hl 1 rfl) ?_
  refine va_lald hx hb hK.1 hP 1 1 rfl rfl (by unfold vp_in; decide +kernel) dX8_get_18 ?_
  refine g_fj (v := 0) (by rfl) ?_
  refine lv_goto (tgt := 23) hx hb dX8_get_19 (by decide) ?_
  exact g_lret hx hb hr hlocks () hP hD hS rfl (Nat.le_of_ble_eq_true rfl) (Nat.le_of_ble_eq_true rfl) dX8_get_23
set_option maxRecDepth 100000 in
set_option maxHeartbeats 4000000 in
theorem k_X8_get_36 (l : Launch) (D : va_G) (y : Nat → ClassId) (aS : Nat → Nat) (sz : Nat) (h0 : Nat) (h1 : Nat) (wp4000475 : Int32) : Met l yX8_get (Cond.code yX8_get cX8_get 2 (some .long) :: wsL_law) ({ frames := 0, cells := 0, slots := 0, locals := 0 } : Room) (va_Pc [.ref h0, .int 1] (gI D y aS [(h0, .inr (8, [.ref h1, .int wp4000475])), (h1, .inl (y 1, 3, .inr (.inl (vp_updL (fun _ => 0) ((2 : Int32).toNatClampNeg) 5))))] sz)) (va_Ql (fun (r : Int64) (u : Unit) => 0 = r) (fun u => gO D (va_A [(h0, .inr (8, [.ref h1, .int wp4000475])), (h1, .inl (y 1, 3, .inr (.inl (vp_updL (fun _ => 0) ((2 : Int32).toNatClampNeg) 5))))] sz) [(h0, .inr (8, [.ref h1, .int wp4000475])), (h1, .inl (y 1, 3, .inr (.inl (vp_updL (fun _ => 0) ((2 : Int32).toNatClampNeg) 5))))]) (va_A [(h0, .inr (8, [.ref h1, .int wp4000475])), (h1, .inl (y 1, 3, .inr (.inl (vp_updL (fun _ => 0) ((2 : Int32).toNatClampNeg) 5))))] sz)) 0 0 (va_A [(h0, .inr (8, [.ref h1, .int wp4000475])), (h1, .inl (y 1, 3, .inr (.inl (vp_updL (fun _ => 0) ((2 : Int32).toNatClampNeg) 5))))] sz) := by
  refine g_of (by decide) (Nat.le_of_ble_eq_true rfl) ?_
  intro p e s m below meth c ls A hx hb hr hml hown hg hlocks hin hsz hK hP hD hS hA hAe hl
  rw [← hAe]
  replace hown : s.vm.findClass RX8 = some m.cls := hown
  replace hl : lv_has ls 2 [(0, .ref h0), (1, .int 1)] := hl
  refine lv_iload_n hx hb dX8_get_0 rfl (lv_at hl 1 rfl) ?_
  refine lv_if_lt (tgt := 22) hx hb dX8_get_1 (by decide) (fun c9 => absurd c9 (by decide +kernel)) (fun _ => ?_)
  refine lv_iload_n hx hb dX8_get_4 rfl (lv_at hl 1 rfl) ?_
  refine lv_aload_n hx hb dX8_get_5 rfl (lv_at hl 0 rfl) ?_
  refine gm_get (D := D) (ci := 8) (v := .ref h1) (C := RX8) (T := TX8) (N := 2) hx hb hg inlX8 hown hK.1 hP 0 rfl rfl 0 (by decide) tX8_0 (hg _ gw_98) rfl dX8_get_6 ?_
  refine va_alen hx hb hK.1 hP 1 1 rfl rfl (v := 3) rfl dX8_get_9 ?_
  refine lv_icmp_ge (tgt := 22) hx hb dX8_get_10 (by decide) (fun c9 => absurd c9 (by decide +kernel)) (fun _ => ?_)
  refine lv_aload_n hx hb dX8_get_13 rfl (lv_at hl 0 rfl) ?_
  refine gm_get (D := D) (ci := 8) (v := .ref h1) (C := RX8) (T := TX8) (N := 2) hx hb hg inlX8 hown hK.1 hP 0 rfl rfl 0 (by decide) tX8_0 (hg _ gw_98) rfl dX8_get_14 ?_
  refine lv_iload_n hx hb dX8_get_17 rfl (lv_at hl 1 rfl) ?_
  refine va_lald hx hb hK.1 hP 1 1 rfl rfl (by unfold vp_in; decide +kernel) dX8_get_18 ?_
  refine g_fj (v := 0) (by rfl) ?_
  refine lv_goto (tgt := 23) hx hb dX8_get_19 (by decide) ?_
  exact g_lret hx hb hr hlocks () hP hD hS rfl (Nat.le_of_ble_eq_true rfl) (Nat.le_of_ble_eq_true rfl) dX8_get_23
set_option maxRecDepth 100000 in
set_option maxHeartbeats 4000000 in
theorem k_X8_get_37 (l : Launch) (D : va_G) (y : Nat → ClassId) (aS : Nat → Nat) (sz : Nat) (h0 : Nat) (h1 : Nat) (wp4000477 : Int32) : Met l yX8_get (Cond.code yX8_get cX8_get 2 (some .long) :: wsL_law) ({ frames := 0, cells := 0, slots := 0, locals := 0 } : Room) (va_Pc [.ref h0, .int 2] (gI D y aS [(h0, .inr (8, [.ref h1, .int wp4000477])), (h1, .inl (y 1, 3, .inr (.inl (vp_updL (fun _ => 0) ((2 : Int32).toNatClampNeg) 5))))] sz)) (va_Ql (fun (r : Int64) (u : Unit) => 5 = r) (fun u => gO D (va_A [(h0, .inr (8, [.ref h1, .int wp4000477])), (h1, .inl (y 1, 3, .inr (.inl (vp_updL (fun _ => 0) ((2 : Int32).toNatClampNeg) 5))))] sz) [(h0, .inr (8, [.ref h1, .int wp4000477])), (h1, .inl (y 1, 3, .inr (.inl (vp_updL (fun _ => 0) ((2 : Int32).toNatClampNeg) 5))))]) (va_A [(h0, .inr (8, [.ref h1, .int wp4000477])), (h1, .inl (y 1, 3, .inr (.inl (vp_updL (fun _ => 0) ((2 : Int32).toNatClampNeg) 5))))] sz)) 0 0 (va_A [(h0, .inr (8, [.ref h1, .int wp4000477])), (h1, .inl (y 1, 3, .inr (.inl (vp_updL (fun _ => 0) ((2 : Int32).toNatClampNeg) 5))))] sz) := by
  refine g_of (by decide) (Nat.le_of_ble_eq_true rfl) ?_
  intro p e s m below meth c ls A hx hb hr hml hown hg hlocks hin hsz hK hP hD hS hA hAe hl
  rw [← hAe]
  replace hown : s.vm.findClass RX8 = some m.cls := hown
  replace hl : lv_has ls 2 [(0, .ref h0), (1, .int 2)] := hl
  refine lv_iload_n hx hb dX8_get_0 rfl (lv_at hl 1 rfl) ?_
  refine lv_if_lt (tgt := 22) hx hb dX8_get_1 (by decide) (fun c9 => absurd c9 (by decide +kernel)) (fun _ => ?_)
  refine lv_iload_n hx hb dX8_get_4 rfl (lv_at hl 1 rfl) ?_
  refine lv_aload_n hx hb dX8_get_5 rfl (lv_at hl 0 rfl) ?_
  refine gm_get (D := D) (ci := 8) (v := .ref h1) (C := RX8) (T := TX8) (N := 2) hx hb hg inlX8 hown hK.1 hP 0 rfl rfl 0 (by decide) tX8_0 (hg _ gw_98) rfl dX8_get_6 ?_
  refine va_alen hx hb hK.1 hP 1 1 rfl rfl (v := 3) rfl dX8_get_9 ?_
  refine lv_icmp_ge (tgt := 22) hx hb dX8_get_10 (by decide) (fun c9 => absurd c9 (by decide +kernel)) (fun _ => ?_)
  refine lv_aload_n hx hb dX8_get_13 rfl (lv_at hl 0 rfl) ?_
  refine gm_get (D := D) (ci := 8) (v := .ref h1) (C := RX8) (T := TX8) (N := 2) hx hb hg inlX8 hown hK.1 hP 0 rfl rfl 0 (by decide) tX8_0 (hg _ gw_98) rfl dX8_get_14 ?_
  refine lv_iload_n hx hb dX8_get_17 rfl (lv_at hl 1 rfl) ?_
  refine va_lald hx hb hK.1 hP 1 1 rfl rfl (by unfold vp_in; decide +kernel) dX8_get_18 ?_
  refine g_fj (v := 5) (by rfl) ?_
  refine lv_goto (tgt := 23) hx hb dX8_get_19 (by decide) ?_
  exact g_lret hx hb hr hlocks () hP hD hS rfl (Nat.le_of_ble_eq_true rfl) (Nat.le_of_ble_eq_true rfl) dX8_get_23
set_option maxRecDepth 100000 in
set_option maxHeartbeats 4000000 in
theorem k_X5_tellSecret_11 (l : Launch) (D : va_G) (y : Nat → ClassId) (aS : Nat → Nat) (sz : Nat) (h0 : Nat) (p1 : Int32) (h2 : Nat) (h3 : Nat) (h4 : Nat) (h5 : Nat) (wp4000479 : Int32) (h7 : Nat) (wp4000480 : Int32) (wf4000481 : Nat → Int64) (h10 : Nat) (wp4000482 : Int32) (h12 : Nat) : Met l yX5_tellSecret (Cond.code yX5_tellSecret cX5_tellSecret 7 (some .int) :: wsL_law) ({ frames := 1, cells := 0, slots := 0, locals := 23 } : Room) (va_Pc [.ref h0, .int 2, .int p1, .int 5] (gI D y aS [(h0, .inr (5, [.ref h2, .ref h3, .ref h4, .ref h5, .int wp4000479])), (h4, .inr (8, [.ref h7, .int wp4000480])), (h7, .inl (y 1, 18, .inr (.inl wf4000481))), (h5, .inr (8, [.ref h10, .int wp4000482])), (h10, .inl (y 1, 3, .inr (.inl (fun _ => 0)))), (h2, .inr (8, [.ref h12, .int 0]))] sz)) (va_Qi (fun (r : Int32) (u : Unit) => 1 = r) (fun u => gO D (va_A [(h0, .inr (5, [.ref h2, .ref h3, .ref h4, .ref h5, .int wp4000479])), (h4, .inr (8, [.ref h7, .int wp4000480])), (h7, .inl (y 1, 18, .inr (.inl wf4000481))), (h5, .inr (8, [.ref h10, .int wp4000482])), (h10, .inl (y 1, 3, .inr (.inl (fun _ => 0)))), (h2, .inr (8, [.ref h12, .int 0]))] sz) [(h0, .inr (5, [.ref h2, .ref h3, .ref h4, .ref h5, .int 0])), (h4, .inr (8, [.ref h7, .int wp4000480])), (h7, .inl (y 1, 18, .inr (.inl (vp_updL (vp_updL (vp_updL (vp_updL (vp_updL wf4000481 ((16 : Int32).toNatClampNeg) ((p1 - p1 / 10 * 10).toInt64)) ((15 : Int32).toNatClampNeg) (((p1 / 10) - (p1 / 10) / 10 * 10).toInt64)) ((14 : Int32).toNatClampNeg) ((((p1 / 10) / 10) - ((p1 / 10) / 10) / 10 * 10).toInt64)) ((13 : Int32).toNatClampNeg) (((((p1 / 10) / 10) / 10) - (((p1 / 10) / 10) / 10) / 10 * 10).toInt64)) ((12 : Int32).toNatClampNeg) ((((((p1 / 10) / 10) / 10) / 10) - ((((p1 / 10) / 10) / 10) / 10) / 10 * 10).toInt64))))), (h5, .inr (8, [.ref h10, .int wp4000482])), (h10, .inl (y 1, 3, .inr (.inl (vp_updL (fun _ => 0) ((2 : Int32).toNatClampNeg) 5)))), (h2, .inr (8, [.ref h12, .int 0]))]) (va_A [(h0, .inr (5, [.ref h2, .ref h3, .ref h4, .ref h5, .int wp4000479])), (h4, .inr (8, [.ref h7, .int wp4000480])), (h7, .inl (y 1, 18, .inr (.inl wf4000481))), (h5, .inr (8, [.ref h10, .int wp4000482])), (h10, .inl (y 1, 3, .inr (.inl (fun _ => 0)))), (h2, .inr (8, [.ref h12, .int 0]))] sz)) 0 0 (va_A [(h0, .inr (5, [.ref h2, .ref h3, .ref h4, .ref h5, .int wp4000479])), (h4, .inr (8, [.ref h7, .int wp4000480])), (h7, .inl (y 1, 18, .inr (.inl wf4000481))), (h5, .inr (8, [.ref h10, .int wp4000482])), (h10, .inl (y 1, 3, .inr (.inl (fun _ => 0)))), (h2, .inr (8, [.ref h12, .int 0]))] sz) := by
  refine g_of (by decide) (Nat.le_of_ble_eq_true rfl) ?_
  intro p e s m below meth c ls A hx hb hr hml hown hg hlocks hin hsz hK hP hD hS hA hAe hl
  rw [← hAe]
  replace hown : s.vm.findClass RX5 = some m.cls := hown
  replace hl : lv_has ls 7 [(0, .ref h0), (1, .int 2), (2, .int p1), (3, .int 5)] := hl
  refine lv_iload_n hx hb dX5_tellSecret_0 rfl (lv_at hl 2 rfl) ?_
  refine lv_istore (lv' := [(4, .int p1), (0, .ref h0), (1, .int 2), (2, .int p1), (3, .int 5)]) hx hb dX5_tellSecret_1 hl (by decide) rfl ?_
  clear hl
  clear ls
  intro ls hl
  refine lv_iload_n hx hb dX5_tellSecret_3 rfl (lv_at hl 4 rfl) ?_
  refine lv_iconst (v := 1) hx hb dX5_tellSecret_4 (by decide) ?_
  refine lv_isub hx hb dX5_tellSecret_5 ?_
  refine g_fi (v := 4) (by decide +kernel) ?_
  refine lv_istore (lv' := [(5, .int 4), (4, .int p1), (0, .ref h0), (1, .int 2), (2, .int p1), (3, .int 5)]) hx hb dX5_tellSecret_6 hl (by decide) rfl ?_
  clear hl
  clear ls
  intro ls hl
  refine lv_iload hx hb dX5_tellSecret_8 (lv_at hl 0 rfl) ?_
  refine lv_if_lt (tgt := 46) hx hb dX5_tellSecret_10 (by decide) (fun c9 => absurd c9 (by decide +kernel)) (fun _ => ?_)
  refine lv_aload_n hx hb dX5_tellSecret_13 rfl (lv_at hl 2 rfl) ?_
  refine gm_get (D := D) (ci := 5) (v := .ref h4) (C := RX5) (T := TX5) (N := 5) hx hb hg inlX5 hown hK.1 hP 0 rfl rfl 2 (by decide) tX5_2 (hg _ gw_140) rfl dX5_tellSecret_14 ?_
  refine lv_iload_n hx hb dX5_tellSecret_17 rfl (lv_at hl 3 rfl) ?_
  refine lv_bipush (v := 6) hx hb dX5_tellSecret_18 (by decide +kernel) ?_
  refine lv_imul hx hb dX5_tellSecret_20 ?_
  refine g_fi (v := 12) (by decide +kernel) ?_
  refine lv_iload hx hb dX5_tellSecret_21 (lv_at hl 0 rfl) ?_
  refine lv_iadd hx hb dX5_tellSecret_23 ?_
  refine g_fi (v := 16) (by decide +kernel) ?_
  refine lv_iload hx hb dX5_tellSecret_24 (lv_at hl 1 rfl) ?_
  refine lv_bipush (v := 10) hx hb dX5_tellSecret_26 (by decide +kernel) ?_
  refine lv_irem hx hb dX5_tellSecret_28 (by decide +kernel) ?_
  refine lv_i2l (v := ((p1 - p1 / 10 * 10).toInt64)) hx hb dX5_tellSecret_29 rfl ?_
  refine g_av (wr := [(h0, .inr (5, [.ref h2, .ref h3, .ref h4, .ref h5, .int wp4000479])), (h5, .inr (8, [.ref h10, .int wp4000482])), (h10, .inl (y 1, 3, .inr (.inl (fun _ => 0)))), (h2, .inr (8, [.ref h12, .int 0]))]) (va_runV (As := [.int 16, .long ((p1 - p1 / 10 * 10).toInt64)]) (rest := []) ⟨hx, hb, hml, hown, hg⟩ (k_X8_set_41 l D y aS s.heap.size h4 ((p1 - p1 / 10 * 10).toInt64) h7 wp4000480 wf4000481) (cwV 2 hg ggV_RX5_29_X8_set rfl rfl rfl (by decide +kernel) ⟨Nat.le_of_ble_eq_true rfl, Nat.le_of_ble_eq_true rfl⟩) (g_preV (q := (RX8, TX8, 2)) hK hP hD [1, 2] rfl (by decide) (ci := 8) (q0 := 1) rfl rfl) rfl rfl hl.1 rfl (lv_room (Nat.le_of_ble_eq_true rfl)) dX5_tellSecret_30 ⟨Nat.le_of_ble_eq_true rfl, Nat.le_of_ble_eq_true rfl⟩) hP hD hS hA [1, 2] [0, 3, 4, 5] rfl rfl (by decide) (by decide) ?_
  clear hP hD hS
  refine fun u H locs hq hP hD hS => ?_
  replace hP : va_P D vwCl [(h0, .inr (5, [.ref h2, .ref h3, .ref h4, .ref h5, .int wp4000479])), (h5, .inr (8, [.ref h10, .int wp4000482])), (h10, .inl (y 1, 3, .inr (.inl (fun _ => 0)))), (h2, .inr (8, [.ref h12, .int 0])), (h4, .inr (8, [.ref h7, .int wp4000480])), (h7, .inl (y 1, 18, .inr (.inl (vp_updL wf4000481 ((16 : Int32).toNatClampNeg) ((p1 - p1 / 10 * 10).toInt64)))))] H := hP
  replace hD : va_D A [(h0, .inr (5, [.ref h2, .ref h3, .ref h4, .ref h5, .int wp4000479])), (h5, .inr (8, [.ref h10, .int wp4000482])), (h10, .inl (y 1, 3, .inr (.inl (fun _ => 0)))), (h2, .inr (8, [.ref h12, .int 0])), (h4, .inr (8, [.ref h7, .int wp4000480])), (h7, .inl (y 1, 18, .inr (.inl (vp_updL wf4000481 ((16 : Int32).toNatClampNeg) ((p1 - p1 / 10 * 10).toInt64)))))] := hD
  refine lv_iload hx hb dX5_tellSecret_33 (lv_at hl 1 rfl) ?_
  refine lv_bipush (v := 10) hx hb dX5_tellSecret_35 (by decide +kernel) ?_
  refine lv_idiv hx hb dX5_tellSecret_37 (by decide +kernel) ?_
  refine lv_istore (lv' := [(4, .int (p1 / 10)), (5, .int 4), (0, .ref h0), (1, .int 2), (2, .int p1), (3, .int 5)]) hx hb dX5_tellSecret_38 hl (by decide) rfl ?_
  clear hl
  clear ls
  intro ls hl
  refine lv_iinc (v := 3) (lv' := [(5, .int 3), (4, .int (p1 / 10)), (0, .ref h0), (1, .int 2), (2, .int p1), (3, .int 5)]) hx hb dX5_tellSecret_40 hl (k := 1) rfl (by decide +kernel) (by decide) rfl ?_
  clear hl
  clear ls
  intro ls hl
  refine lv_goto (tgt := 8) hx hb dX5_tellSecret_43 (by decide) ?_
  refine lv_iload hx hb dX5_tellSecret_8 (lv_at hl 0 rfl) ?_
  refine lv_if_lt (tgt := 46) hx hb dX5_tellSecret_10 (by decide) (fun c9 => absurd c9 (by decide +kernel)) (fun _ => ?_)
  refine lv_aload_n hx hb dX5_tellSecret_13 rfl (lv_at hl 2 rfl) ?_
  refine gm_get (D := D) (ci := 5) (v := .ref h4) (C := RX5) (T := TX5) (N := 5) hx hb hg inlX5 hown hK.1 hP 0 rfl rfl 2 (by decide) tX5_2 (hg _ gw_140) rfl dX5_tellSecret_14 ?_
  refine lv_iload_n hx hb dX5_tellSecret_17 rfl (lv_at hl 3 rfl) ?_
  refine lv_bipush (v := 6) hx hb dX5_tellSecret_18 (by decide +kernel) ?_
  refine lv_imul hx hb dX5_tellSecret_20 ?_
  refine g_fi (v := 12) (by decide +kernel) ?_
  refine lv_iload hx hb dX5_tellSecret_21 (lv_at hl 0 rfl) ?_
  refine lv_iadd hx hb dX5_tellSecret_23 ?_
  refine g_fi (v := 15) (by decide +kernel) ?_
  refine lv_iload hx hb dX5_tellSecret_24 (lv_at hl 1 rfl) ?_
  refine lv_bipush (v := 10) hx hb dX5_tellSecret_26 (by decide +kernel) ?_
  refine lv_irem hx hb dX5_tellSecret_28 (by decide +kernel) ?_
  refine lv_i2l (v := (((p1 / 10) - (p1 / 10) / 10 * 10).toInt64)) hx hb dX5_tellSecret_29 rfl ?_
  refine g_av (wr := [(h0, .inr (5, [.ref h2, .ref h3, .ref h4, .ref h5, .int wp4000479])), (h5, .inr (8, [.ref h10, .int wp4000482])), (h10, .inl (y 1, 3, .inr (.inl (fun _ => 0)))), (h2, .inr (8, [.ref h12, .int 0]))]) (va_runV (As := [.int 15, .long (((p1 / 10) - (p1 / 10) / 10 * 10).toInt64)]) (rest := []) ⟨hx, hb, hml, hown, hg⟩ (k_X8_set_38 l D y aS H.size h4 (((p1 / 10) - (p1 / 10) / 10 * 10).toInt64) h7 wp4000480 (vp_updL wf4000481 ((16 : Int32).toNatClampNeg) ((p1 - p1 / 10 * 10).toInt64))) (cwV 2 hg ggV_RX5_29_X8_set rfl rfl rfl (by decide +kernel) ⟨Nat.le_of_ble_eq_true rfl, Nat.le_of_ble_eq_true rfl⟩) (g_preV (q := (RX8, TX8, 2)) hK hP hD [4, 5] rfl (by decide) (ci := 8) (q0 := 4) rfl rfl) rfl rfl hl.1 rfl (lv_room (Nat.le_of_ble_eq_true rfl)) dX5_tellSecret_30 ⟨Nat.le_of_ble_eq_true rfl, Nat.le_of_ble_eq_true rfl⟩) hP hD hS hA [4, 5] [0, 1, 2, 3] rfl rfl (by decide) (by decide) ?_
  clear hP hD hS H locs
  refine fun u H locs hq hP hD hS => ?_
  replace hP : va_P D vwCl [(h0, .inr (5, [.ref h2, .ref h3, .ref h4, .ref h5, .int wp4000479])), (h5, .inr (8, [.ref h10, .int wp4000482])), (h10, .inl (y 1, 3, .inr (.inl (fun _ => 0)))), (h2, .inr (8, [.ref h12, .int 0])), (h4, .inr (8, [.ref h7, .int wp4000480])), (h7, .inl (y 1, 18, .inr (.inl (vp_updL (vp_updL wf4000481 ((16 : Int32).toNatClampNeg) ((p1 - p1 / 10 * 10).toInt64)) ((15 : Int32).toNatClampNeg) (((p1 / 10) - (p1 / 10) / 10 * 10).toInt64)))))] H := hP
  replace hD : va_D A [(h0, .inr (5, [.ref h2, .ref h3, .ref h4, .ref h5, .int wp4000479])), (h5, .inr (8, [.ref h10, .int wp4000482])), (h10, .inl (y 1, 3, .inr (.inl (fun _ => 0)))), (h2, .inr (8, [.ref h12, .int 0])), (h4, .inr (8, [.ref h7, .int wp4000480])), (h7, .inl (y 1, 18, .inr (.inl (vp_updL (vp_updL wf4000481 ((16 : Int32).toNatClampNeg) ((p1 - p1 / 10 * 10).toInt64)) ((15 : Int32).toNatClampNeg) (((p1 / 10) - (p1 / 10) / 10 * 10).toInt64)))))] := hD
  refine lv_iload hx hb dX5_tellSecret_33 (lv_at hl 1 rfl) ?_
  refine lv_bipush (v := 10) hx hb dX5_tellSecret_35 (by decide +kernel) ?_
  refine lv_idiv hx hb dX5_tellSecret_37 (by decide +kernel) ?_
  refine lv_istore (lv' := [(4, .int ((p1 / 10) / 10)), (5, .int 3), (0, .ref h0), (1, .int 2), (2, .int p1), (3, .int 5)]) hx hb dX5_tellSecret_38 hl (by decide) rfl ?_
  clear hl
  clear ls
  intro ls hl
  refine lv_iinc (v := 2) (lv' := [(5, .int 2), (4, .int ((p1 / 10) / 10)), (0, .ref h0), (1, .int 2), (2, .int p1), (3, .int 5)]) hx hb dX5_tellSecret_40 hl (k := 1) rfl (by decide +kernel) (by decide) rfl ?_
  clear hl
  clear ls
  intro ls hl
  refine lv_goto (tgt := 8) hx hb dX5_tellSecret_43 (by decide) ?_
  refine lv_iload hx hb dX5_tellSecret_8 (lv_at hl 0 rfl) ?_
  refine lv_if_lt (tgt := 46) hx hb dX5_tellSecret_10 (by decide) (fun c9 => absurd c9 (by decide +kernel)) (fun _ => ?_)
  refine lv_aload_n hx hb dX5_tellSecret_13 rfl (lv_at hl 2 rfl) ?_
  refine gm_get (D := D) (ci := 5) (v := .ref h4) (C := RX5) (T := TX5) (N := 5) hx hb hg inlX5 hown hK.1 hP 0 rfl rfl 2 (by decide) tX5_2 (hg _ gw_140) rfl dX5_tellSecret_14 ?_
  refine lv_iload_n hx hb dX5_tellSecret_17 rfl (lv_at hl 3 rfl) ?_
  refine lv_bipush (v := 6) hx hb dX5_tellSecret_18 (by decide +kernel) ?_
  refine lv_imul hx hb dX5_tellSecret_20 ?_
  refine g_fi (v := 12) (by decide +kernel) ?_
  refine lv_iload hx hb dX5_tellSecret_21 (lv_at hl 0 rfl) ?_
  refine lv_iadd hx hb dX5_tellSecret_23 ?_
  refine g_fi (v := 14) (by decide +kernel) ?_
  refine lv_iload hx hb dX5_tellSecret_24 (lv_at hl 1 rfl) ?_
  refine lv_bipush (v := 10) hx hb dX5_tellSecret_26 (by decide +kernel) ?_
  refine lv_irem hx hb dX5_tellSecret_28 (by decide +kernel) ?_
  refine lv_i2l (v := ((((p1 / 10) / 10) - ((p1 / 10) / 10) / 10 * 10).toInt64)) hx hb dX5_tellSecret_29 rfl ?_
  refine g_av (wr := [(h0, .inr (5, [.ref h2, .ref h3, .ref h4, .ref h5, .int wp4000479])), (h5, .inr (8, [.ref h10, .int wp4000482])), (h10, .inl (y 1, 3, .inr (.inl (fun _ => 0)))), (h2, .inr (8, [.ref h12, .int 0]))]) (va_runV (As := [.int 14, .long ((((p1 / 10) / 10) - ((p1 / 10) / 10) / 10 * 10).toInt64)]) (rest := []) ⟨hx, hb, hml, hown, hg⟩ (k_X8_set_35 l D y aS H.size h4 ((((p1 / 10) / 10) - ((p1 / 10) / 10) / 10 * 10).toInt64) h7 wp4000480 (vp_updL (vp_updL wf4000481 ((16 : Int32).toNatClampNeg) ((p1 - p1 / 10 * 10).toInt64)) ((15 : Int32).toNatClampNeg) (((p1 / 10) - (p1 / 10) / 10 * 10).toInt64))) (cwV 2 hg ggV_RX5_29_X8_set rfl rfl rfl (by decide +kernel) ⟨Nat.le_of_ble_eq_true rfl, Nat.le_of_ble_eq_true rfl⟩) (g_preV (q := (RX8, TX8, 2)) hK hP hD [4, 5] rfl (by decide) (ci := 8) (q0 := 4) rfl rfl) rfl rfl hl.1 rfl (lv_room (Nat.le_of_ble_eq_true rfl)) dX5_tellSecret_30 ⟨Nat.le_of_ble_eq_true rfl, Nat.le_of_ble_eq_true rfl⟩) hP hD hS hA [4, 5] [0, 1, 2, 3] rfl rfl (by decide) (by decide) ?_
  clear hP hD hS H locs
  refine fun u H locs hq hP hD hS => ?_
  replace hP : va_P D vwCl [(h0, .inr (5, [.ref h2, .ref h3, .ref h4, .ref h5, .int wp4000479])), (h5, .inr (8, [.ref h10, .int wp4000482])), (h10, .inl (y 1, 3, .inr (.inl (fun _ => 0)))), (h2, .inr (8, [.ref h12, .int 0])), (h4, .inr (8, [.ref h7, .int wp4000480])), (h7, .inl (y 1, 18, .inr (.inl (vp_updL (vp_updL (vp_updL wf4000481 ((16 : Int32).toNatClampNeg) ((p1 - p1 / 10 * 10).toInt64)) ((15 : Int32).toNatClampNeg) (((p1 / 10) - (p1 / 10) / 10 * 10).toInt64)) ((14 : Int32).toNatClampNeg) ((((p1 / 10) / 10) - ((p1 / 10) / 10) / 10 * 10).toInt64)))))] H := hP
  replace hD : va_D A [(h0, .inr (5, [.ref h2, .ref h3, .ref h4, .ref h5, .int wp4000479])), (h5, .inr (8, [.ref h10, .int wp4000482])), (h10, .inl (y 1, 3, .inr (.inl (fun _ => 0)))), (h2, .inr (8, [.ref h12, .int 0])), (h4, .inr (8, [.ref h7, .int wp4000480])), (h7, .inl (y 1, 18, .inr (.inl (vp_updL (vp_updL (vp_updL wf4000481 ((16 : Int32).toNatClampNeg) ((p1 - p1 / 10 * 10).toInt64)) ((15 : Int32).toNatClampNeg) (((p1 / 10) - (p1 / 10) / 10 * 10).toInt64)) ((14 : Int32).toNatClampNeg) ((((p1 / 10) / 10) - ((p1 / 10) / 10) / 10 * 10).toInt64)))))] := hD
  refine lv_iload hx hb dX5_tellSecret_33 (lv_at hl 1 rfl) ?_
  refine lv_bipush (v := 10) hx hb dX5_tellSecret_35 (by decide +kernel) ?_
  refine lv_idiv hx hb dX5_tellSecret_37 (by decide +kernel) ?_
  refine lv_istore (lv' := [(4, .int (((p1 / 10) / 10) / 10)), (5, .int 2), (0, .ref h0), (1, .int 2), (2, .int p1), (3, .int 5)]) hx hb dX5_tellSecret_38 hl (by decide) rfl ?_
  clear hl
  clear ls
  intro ls hl
  refine lv_iinc (v := 1) (lv' := [(5, .int 1), (4, .int (((p1 / 10) / 10) / 10)), (0, .ref h0), (1, .int 2), (2, .int p1), (3, .int 5)]) hx hb dX5_tellSecret_40 hl (k := 1) rfl (by decide +kernel) (by decide) rfl ?_
  clear hl
  clear ls
  intro ls hl
  refine lv_goto (tgt := 8) hx hb dX5_tellSecret_43 (by decide) ?_
  refine lv_iload hx hb dX5_tellSecret_8 (lv_at hl 0 rfl) ?_
  refine lv_if_lt (tgt := 46) hx hb dX5_tellSecret_10 (by decide) (fun c9 => absurd c9 (by decide +kernel)) (fun _ => ?_)
  refine lv_aload_n hx hb dX5_tellSecret_13 rfl (lv_at hl 2 rfl) ?_
  refine gm_get (D := D) (ci := 5) (v := .ref h4) (C := RX5) (T := TX5) (N := 5) hx hb hg inlX5 hown hK.1 hP 0 rfl rfl 2 (by decide) tX5_2 (hg _ gw_140) rfl dX5_tellSecret_14 ?_
  refine lv_iload_n hx hb dX5_tellSecret_17 rfl (lv_at hl 3 rfl) ?_
  refine lv_bipush (v := 6) hx hb dX5_tellSecret_18 (by decide +kernel) ?_
  refine lv_imul hx hb dX5_tellSecret_20 ?_
  refine g_fi (v := 12) (by decide +kernel) ?_
  refine lv_iload hx hb dX5_tellSecret_21 (lv_at hl 0 rfl) ?_
  refine lv_iadd hx hb dX5_tellSecret_23 ?_
  refine g_fi (v := 13) (by decide +kernel) ?_
  refine lv_iload hx hb dX5_tellSecret_24 (lv_at hl 1 rfl) ?_
  refine lv_bipush (v := 10) hx hb dX5_tellSecret_26 (by decide +kernel) ?_
  refine lv_irem hx hb dX5_tellSecret_28 (by decide +kernel) ?_
  refine lv_i2l (v := (((((p1 / 10) / 10) / 10) - (((p1 / 10) / 10) / 10) / 10 * 10).toInt64)) hx hb dX5_tellSecret_29 rfl ?_
  refine g_av (wr := [(h0, .inr (5, [.ref h2, .ref h3, .ref h4, .ref h5, .int wp4000479])), (h5, .inr (8, [.ref h10, .int wp4000482])), (h10, .inl (y 1, 3, .inr (.inl (fun _ => 0)))), (h2, .inr (8, [.ref h12, .int 0]))]) (va_runV (As := [.int 13, .long (((((p1 / 10) / 10) / 10) - (((p1 / 10) / 10) / 10) / 10 * 10).toInt64)]) (rest := []) ⟨hx, hb, hml, hown, hg⟩ (k_X8_set_31 l D y aS H.size h4 (((((p1 / 10) / 10) / 10) - (((p1 / 10) / 10) / 10) / 10 * 10).toInt64) h7 wp4000480 (vp_updL (vp_updL (vp_updL wf4000481 ((16 : Int32).toNatClampNeg) ((p1 - p1 / 10 * 10).toInt64)) ((15 : Int32).toNatClampNeg) (((p1 / 10) - (p1 / 10) / 10 * 10).toInt64)) ((14 : Int32).toNatClampNeg) ((((p1 / 10) / 10) - ((p1 / 10) / 10) / 10 * 10).toInt64))) (cwV 2 hg ggV_RX5_29_X8_set rfl rfl rfl (by decide +kernel) ⟨Nat.le_of_ble_eq_true rfl, Nat.le_of_ble_eq_true rfl⟩) (g_preV (q := (RX8, TX8, 2)) hK hP hD [4, 5] rfl (by decide) (ci := 8) (q0 := 4) rfl rfl) rfl rfl hl.1 rfl (lv_room (Nat.le_of_ble_eq_true rfl)) dX5_tellSecret_30 ⟨Nat.le_of_ble_eq_true rfl, Nat.le_of_ble_eq_true rfl⟩) hP hD hS hA [4, 5] [0, 1, 2, 3] rfl rfl (by decide) (by decide) ?_
  clear hP hD hS H locs
  refine fun u H locs hq hP hD hS => ?_
  replace hP : va_P D vwCl [(h0, .inr (5, [.ref h2, .ref h3, .ref h4, .ref h5, .int wp4000479])), (h5, .inr (8, [.ref h10, .int wp4000482])), (h10, .inl (y 1, 3, .inr (.inl (fun _ => 0)))), (h2, .inr (8, [.ref h12, .int 0])), (h4, .inr (8, [.ref h7, .int wp4000480])), (h7, .inl (y 1, 18, .inr (.inl (vp_updL (vp_updL (vp_updL (vp_updL wf4000481 ((16 : Int32).toNatClampNeg) ((p1 - p1 / 10 * 10).toInt64)) ((15 : Int32).toNatClampNeg) (((p1 / 10) - (p1 / 10) / 10 * 10).toInt64)) ((14 : Int32).toNatClampNeg) ((((p1 / 10) / 10) - ((p1 / 10) / 10) / 10 * 10).toInt64)) ((13 : Int32).toNatClampNeg) (((((p1 / 10) / 10) / 10) - (((p1 / 10) / 10) / 10) / 10 * 10).toInt64)))))] H := hP
  replace hD : va_D A [(h0, .inr (5, [.ref h2, .ref h3, .ref h4, .ref h5, .int wp4000479])), (h5, .inr (8, [.ref h10, .int wp4000482])), (h10, .inl (y 1, 3, .inr (.inl (fun _ => 0)))), (h2, .inr (8, [.ref h12, .int 0])), (h4, .inr (8, [.ref h7, .int wp4000480])), (h7, .inl (y 1, 18, .inr (.inl (vp_updL (vp_updL (vp_updL (vp_updL wf4000481 ((16 : Int32).toNatClampNeg) ((p1 - p1 / 10 * 10).toInt64)) ((15 : Int32).toNatClampNeg) (((p1 / 10) - (p1 / 10) / 10 * 10).toInt64)) ((14 : Int32).toNatClampNeg) ((((p1 / 10) / 10) - ((p1 / 10) / 10) / 10 * 10).toInt64)) ((13 : Int32).toNatClampNeg) (((((p1 / 10) / 10) / 10) - (((p1 / 10) / 10) / 10) / 10 * 10).toInt64)))))] := hD
  refine lv_iload hx hb dX5_tellSecret_33 (lv_at hl 1 rfl) ?_
  refine lv_bipush (v := 10) hx hb dX5_tellSecret_35 (by decide +kernel) ?_
  refine lv_idiv hx hb dX5_tellSecret_37 (by decide +kernel) ?_
  refine lv_istore (lv' := [(4, .int ((((p1 / 10) / 10) / 10) / 10)), (5, .int 1), (0, .ref h0), (1, .int 2), (2, .int p1), (3, .int 5)]) hx hb dX5_tellSecret_38 hl (by decide) rfl ?_
  clear hl
  clear ls
  intro ls hl
  refine lv_iinc (v := 0) (lv' := [(5, .int 0), (4, .int ((((p1 / 10) / 10) / 10) / 10)), (0, .ref h0), (1, .int 2), (2, .int p1), (3, .int 5)]) hx hb dX5_tellSecret_40 hl (k := 1) rfl (by decide +kernel) (by decide) rfl ?_
  clear hl
  clear ls
  intro ls hl
  refine lv_goto (tgt := 8) hx hb dX5_tellSecret_43 (by decide) ?_
  refine lv_iload hx hb dX5_tellSecret_8 (lv_at hl 0 rfl) ?_
  refine lv_if_lt (tgt := 46) hx hb dX5_tellSecret_10 (by decide) (fun c9 => absurd c9 (by decide +kernel)) (fun _ => ?_)
  refine lv_aload_n hx hb dX5_tellSecret_13 rfl (lv_at hl 2 rfl) ?_
  refine gm_get (D := D) (ci := 5) (v := .ref h4) (C := RX5) (T := TX5) (N := 5) hx hb hg inlX5 hown hK.1 hP 0 rfl rfl 2 (by decide) tX5_2 (hg _ gw_140) rfl dX5_tellSecret_14 ?_
  refine lv_iload_n hx hb dX5_tellSecret_17 rfl (lv_at hl 3 rfl) ?_
  refine lv_bipush (v := 6) hx hb dX5_tellSecret_18 (by decide +kernel) ?_
  refine lv_imul hx hb dX5_tellSecret_20 ?_
  refine g_fi (v := 12) (by decide +kernel) ?_
  refine lv_iload hx hb dX5_tellSecret_21 (lv_at hl 0 rfl) ?_
  refine lv_iadd hx hb dX5_tellSecret_23 ?_
  refine g_fi (v := 12) (by decide +kernel) ?_
  refine lv_iload hx hb dX5_tellSecret_24 (lv_at hl 1 rfl) ?_
  refine lv_bipush (v := 10) hx hb dX5_tellSecret_26 (by decide +kernel) ?_
  refine lv_irem hx hb dX5_tellSecret_28 (by decide +kernel) ?_
  refine lv_i2l (v := ((((((p1 / 10) / 10) / 10) / 10) - ((((p1 / 10) / 10) / 10) / 10) / 10 * 10).toInt64)) hx hb dX5_tellSecret_29 rfl ?_
  refine g_av (wr := [(h0, .inr (5, [.ref h2, .ref h3, .ref h4, .ref h5, .int wp4000479])), (h5, .inr (8, [.ref h10, .int wp4000482])), (h10, .inl (y 1, 3, .inr (.inl (fun _ => 0)))), (h2, .inr (8, [.ref h12, .int 0]))]) (va_runV (As := [.int 12, .long ((((((p1 / 10) / 10) / 10) / 10) - ((((p1 / 10) / 10) / 10) / 10) / 10 * 10).toInt64)]) (rest := []) ⟨hx, hb, hml, hown, hg⟩ (k_X8_set_32 l D y aS H.size h4 ((((((p1 / 10) / 10) / 10) / 10) - ((((p1 / 10) / 10) / 10) / 10) / 10 * 10).toInt64) h7 wp4000480 (vp_updL (vp_updL (vp_updL (vp_updL wf4000481 ((16 : Int32).toNatClampNeg) ((p1 - p1 / 10 * 10).toInt64)) ((15 : Int32).toNatClampNeg) (((p1 / 10) - (p1 / 10) / 10 * 10).toInt64)) ((14 : Int32).toNatClampNeg) ((((p1 / 10) / 10) - ((p1 / 10) / 10) / 10 * 10).toInt64)) ((13 : Int32).toNatClampNeg) (((((p1 / 10) / 10) / 10) - (((p1 / 10) / 10) / 10) / 10 * 10).toInt64))) (cwV 2 hg ggV_RX5_29_X8_set rfl rfl rfl (by decide +kernel) ⟨Nat.le_of_ble_eq_true rfl, Nat.le_of_ble_eq_true rfl⟩) (g_preV (q := (RX8, TX8, 2)) hK hP hD [4, 5] rfl (by decide) (ci := 8) (q0 := 4) rfl rfl) rfl rfl hl.1 rfl (lv_room (Nat.le_of_ble_eq_true rfl)) dX5_tellSecret_30 ⟨Nat.le_of_ble_eq_true rfl, Nat.le_of_ble_eq_true rfl⟩) hP hD hS hA [4, 5] [0, 1, 2, 3] rfl rfl (by decide) (by decide) ?_
  clear hP hD hS H locs
  refine fun u H locs hq hP hD hS => ?_
  replace hP : va_P D vwCl [(h0, .inr (5, [.ref h2, .ref h3, .ref h4, .ref h5, .int wp4000479])), (h5, .inr (8, [.ref h10, .int wp4000482])), (h10, .inl (y 1, 3, .inr (.inl (fun _ => 0)))), (h2, .inr (8, [.ref h12, .int 0])), (h4, .inr (8, [.ref h7, .int wp4000480])), (h7, .inl (y 1, 18, .inr (.inl (vp_updL (vp_updL (vp_updL (vp_updL (vp_updL wf4000481 ((16 : Int32).toNatClampNeg) ((p1 - p1 / 10 * 10).toInt64)) ((15 : Int32).toNatClampNeg) (((p1 / 10) - (p1 / 10) / 10 * 10).toInt64)) ((14 : Int32).toNatClampNeg) ((((p1 / 10) / 10) - ((p1 / 10) / 10) / 10 * 10).toInt64)) ((13 : Int32).toNatClampNeg) (((((p1 / 10) / 10) / 10) - (((p1 / 10) / 10) / 10) / 10 * 10).toInt64)) ((12 : Int32).toNatClampNeg) ((((((p1 / 10) / 10) / 10) / 10) - ((((p1 / 10) / 10) / 10) / 10) / 10 * 10).toInt64)))))] H := hP
  replace hD : va_D A [(h0, .inr (5, [.ref h2, .ref h3, .ref h4, .ref h5, .int wp4000479])), (h5, .inr (8, [.ref h10, .int wp4000482])), (h10, .inl (y 1, 3, .inr (.inl (fun _ => 0)))), (h2, .inr (8, [.ref h12, .int 0])), (h4, .inr (8, [.ref h7, .int wp4000480])), (h7, .inl (y 1, 18, .inr (.inl (vp_updL (vp_updL (vp_updL (vp_updL (vp_updL wf4000481 ((16 : Int32).toNatClampNeg) ((p1 - p1 / 10 * 10).toInt64)) ((15 : Int32).toNatClampNeg) (((p1 / 10) - (p1 / 10) / 10 * 10).toInt64)) ((14 : Int32).toNatClampNeg) ((((p1 / 10) / 10) - ((p1 / 10) / 10) / 10 * 10).toInt64)) ((13 : Int32).toNatClampNeg) (((((p1 / 10) / 10) / 10) - (((p1 / 10) / 10) / 10) / 10 * 10).toInt64)) ((12 : Int32).toNatClampNeg) ((((((p1 / 10) / 10) / 10) / 10) - ((((p1 / 10) / 10) / 10) / 10) / 10 * 10).toInt64)))))] := hD
  refine lv_iload hx hb dX5_tellSecret_33 (lv_at hl 1 rfl) ?_
  refine lv_bipush (v := 10) hx hb dX5_tellSecret_35 (by decide +kernel) ?_
  refine lv_idiv hx hb dX5_tellSecret_37 (by decide +kernel) ?_
  refine lv_istore (lv' := [(4, .int (((((p1 / 10) / 10) / 10) / 10) / 10)), (5, .int 0), (0, .ref h0), (1, .int 2), (2, .int p1), (3, .int 5)]) hx hb dX5_tellSecret_38 hl (by decide) rfl ?_
  clear hl
  clear ls
  intro ls hl
  refine lv_iinc (v := (-1)) (lv' := [(5, .int (-1)), (4, .int (((((p1 / 10) / 10) / 10) / 10) / 10)), (0, .ref h0), (1, .int 2), (2, .int p1), (3, .int 5)]) hx hb dX5_tellSecret_40 hl (k := 1) rfl (by decide +kernel) (by decide) rfl ?_
  clear hl
  clear ls
  intro ls hl
  refine lv_goto (tgt := 8) hx hb dX5_tellSecret_43 (by decide) ?_
  refine lv_iload hx hb dX5_tellSecret_8 (lv_at hl 0 rfl) ?_
  refine lv_if_lt (tgt := 46) hx hb dX5_tellSecret_10 (by decide) (fun _ => ?_) (fun c9 => absurd c9 (by decide +kernel))
  refine lv_aload_n hx hb dX5_tellSecret_46 rfl (lv_at hl 2 rfl) ?_
  refine gm_get (D := D) (ci := 5) (v := .ref h5) (C := RX5) (T := TX5) (N := 5) hx hb hg inlX5 hown hK.1 hP 0 rfl rfl 3 (by decide) tX5_3 (hg _ gw_141) rfl dX5_tellSecret_47 ?_
  refine lv_iload_n hx hb dX5_tellSecret_50 rfl (lv_at hl 3 rfl) ?_
  refine lv_iload_n hx hb dX5_tellSecret_51 rfl (lv_at hl 5 rfl) ?_
  refine lv_i2l (v := 5) hx hb dX5_tellSecret_52 (by decide +kernel) ?_
  refine g_av (wr := [(h0, .inr (5, [.ref h2, .ref h3, .ref h4, .ref h5, .int wp4000479])), (h2, .inr (8, [.ref h12, .int 0])), (h4, .inr (8, [.ref h7, .int wp4000480])), (h7, .inl (y 1, 18, .inr (.inl (vp_updL (vp_updL (vp_updL (vp_updL (vp_updL wf4000481 ((16 : Int32).toNatClampNeg) ((p1 - p1 / 10 * 10).toInt64)) ((15 : Int32).toNatClampNeg) (((p1 / 10) - (p1 / 10) / 10 * 10).toInt64)) ((14 : Int32).toNatClampNeg) ((((p1 / 10) / 10) - ((p1 / 10) / 10) / 10 * 10).toInt64)) ((13 : Int32).toNatClampNeg) (((((p1 / 10) / 10) / 10) - (((p1 / 10) / 10) / 10) / 10 * 10).toInt64)) ((12 : Int32).toNatClampNeg) ((((((p1 / 10) / 10) / 10) / 10) - ((((p1 / 10) / 10) / 10) / 10) / 10 * 10).toInt64)))))]) (va_runV (As := [.int 2, .long 5]) (rest := []) ⟨hx, hb, hml, hown, hg⟩ (k_X8_set_26 l D y aS H.size h5 5 h10 wp4000482 (fun _ => 0)) (cwV 2 hg ggV_RX5_29_X8_set rfl rfl rfl (by decide +kernel) ⟨Nat.le_of_ble_eq_true rfl, Nat.le_of_ble_eq_true rfl⟩) (g_preV (q := (RX8, TX8, 2)) hK hP hD [1, 2] rfl (by decide) (ci := 8) (q0 := 1) rfl rfl) rfl rfl hl.1 rfl (lv_room (Nat.le_of_ble_eq_true rfl)) dX5_tellSecret_53 ⟨Nat.le_of_ble_eq_true rfl, Nat.le_of_ble_eq_true rfl⟩) hP hD hS hA [1, 2] [0, 3, 4, 5] rfl rfl (by decide) (by decide) ?_
  clear hP hD hS H locs
  refine fun u H locs hq hP hD hS => ?_
  replace hP : va_P D vwCl [(h0, .inr (5, [.ref h2, .ref h3, .ref h4, .ref h5, .int wp4000479])), (h2, .inr (8, [.ref h12, .int 0])), (h4, .inr (8, [.ref h7, .int wp4000480])), (h7, .inl (y 1, 18, .inr (.inl (vp_updL (vp_updL (vp_updL (vp_updL (vp_updL wf4000481 ((16 : Int32).toNatClampNeg) ((p1 - p1 / 10 * 10).toInt64)) ((15 : Int32).toNatClampNeg) (((p1 / 10) - (p1 / 10) / 10 * 10).toInt64)) ((14 : Int32).toNatClampNeg) ((((p1 / 10) / 10) - ((p1 / 10) / 10) / 10 * 10).toInt64)) ((13 : Int32).toNatClampNeg) (((((p1 / 10) / 10) / 10) - (((p1 / 10) / 10) / 10) / 10 * 10).toInt64)) ((12 : Int32).toNatClampNeg) ((((((p1 / 10) / 10) / 10) / 10) - ((((p1 / 10) / 10) / 10) / 10) / 10 * 10).toInt64))))), (h5, .inr (8, [.ref h10, .int wp4000482])), (h10, .inl (y 1, 3, .inr (.inl (vp_updL (fun _ => 0) ((2 : Int32).toNatClampNeg) 5))))] H := hP
  replace hD : va_D A [(h0, .inr (5, [.ref h2, .ref h3, .ref h4, .ref h5, .int wp4000479])), (h2, .inr (8, [.ref h12, .int 0])), (h4, .inr (8, [.ref h7, .int wp4000480])), (h7, .inl (y 1, 18, .inr (.inl (vp_updL (vp_updL (vp_updL (vp_updL (vp_updL wf4000481 ((16 : Int32).toNatClampNeg) ((p1 - p1 / 10 * 10).toInt64)) ((15 : Int32).toNatClampNeg) (((p1 / 10) - (p1 / 10) / 10 * 10).toInt64)) ((14 : Int32).toNatClampNeg) ((((p1 / 10) / 10) - ((p1 / 10) / 10) / 10 * 10).toInt64)) ((13 : Int32).toNatClampNeg) (((((p1 / 10) / 10) / 10) - (((p1 / 10) / 10) / 10) / 10 * 10).toInt64)) ((12 : Int32).toNatClampNeg) ((((((p1 / 10) / 10) / 10) / 10) - ((((p1 / 10) / 10) / 10) / 10) / 10 * 10).toInt64))))), (h5, .inr (8, [.ref h10, .int wp4000482])), (h10, .inl (y 1, 3, .inr (.inl (vp_updL (fun _ => 0) ((2 : Int32).toNatClampNeg) 5))))] := hD
  refine lv_aload_n hx hb dX5_tellSecret_56 rfl (lv_at hl 2 rfl) ?_
  refine g_av (wr := [(h4, .inr (8, [.ref h7, .int wp4000480])), (h7, .inl (y 1, 18, .inr (.inl (vp_updL (vp_updL (vp_updL (vp_updL (vp_updL wf4000481 ((16 : Int32).toNatClampNeg) ((p1 - p1 / 10 * 10).toInt64)) ((15 : Int32).toNatClampNeg) (((p1 / 10) - (p1 / 10) / 10 * 10).toInt64)) ((14 : Int32).toNatClampNeg) ((((p1 / 10) / 10) - ((p1 / 10) / 10) / 10 * 10).toInt64)) ((13 : Int32).toNatClampNeg) (((((p1 / 10) / 10) / 10) - (((p1 / 10) / 10) / 10) / 10 * 10).toInt64)) ((12 : Int32).toNatClampNeg) ((((((p1 / 10) / 10) / 10) / 10) - ((((p1 / 10) / 10) / 10) / 10) / 10 * 10).toInt64))))), (h5, .inr (8, [.ref h10, .int wp4000482])), (h10, .inl (y 1, 3, .inr (.inl (vp_updL (fun _ => 0) ((2 : Int32).toNatClampNeg) 5))))]) (va_runV (As := []) (rest := []) ⟨hx, hb, hml, hown, hg⟩ (k_X5_findOut_0 l D y aS H.size h0 h2 h3 h4 h5 wp4000479 h12) (cwV 0 hg ggV_RX5_33_X5_findOut rfl rfl rfl (by decide +kernel) ⟨Nat.le_of_ble_eq_true rfl, Nat.le_of_ble_eq_true rfl⟩) (g_preV (q := (RX5, TX5, 5)) hK hP hD [0, 1] rfl (by decide) (ci := 5) (q0 := 0) rfl rfl) rfl rfl hl.1 rfl (lv_room (Nat.le_of_ble_eq_true rfl)) dX5_tellSecret_57 ⟨Nat.le_of_ble_eq_true rfl, Nat.le_of_ble_eq_true rfl⟩) hP hD hS hA [0, 1] [2, 3, 4, 5] rfl rfl (by decide) (by decide) ?_
  clear hP hD hS H locs
  refine fun u H locs hq hP hD hS => ?_
  replace hP : va_P D vwCl [(h4, .inr (8, [.ref h7, .int wp4000480])), (h7, .inl (y 1, 18, .inr (.inl (vp_updL (vp_updL (vp_updL (vp_updL (vp_updL wf4000481 ((16 : Int32).toNatClampNeg) ((p1 - p1 / 10 * 10).toInt64)) ((15 : Int32).toNatClampNeg) (((p1 / 10) - (p1 / 10) / 10 * 10).toInt64)) ((14 : Int32).toNatClampNeg) ((((p1 / 10) / 10) - ((p1 / 10) / 10) / 10 * 10).toInt64)) ((13 : Int32).toNatClampNeg) (((((p1 / 10) / 10) / 10) - (((p1 / 10) / 10) / 10) / 10 * 10).toInt64)) ((12 : Int32).toNatClampNeg) ((((((p1 / 10) / 10) / 10) / 10) - ((((p1 / 10) / 10) / 10) / 10) / 10 * 10).toInt64))))), (h5, .inr (8, [.ref h10, .int wp4000482])), (h10, .inl (y 1, 3, .inr (.inl (vp_updL (fun _ => 0) ((2 : Int32).toNatClampNeg) 5)))), (h0, .inr (5, [.ref h2, .ref h3, .ref h4, .ref h5, .int 0])), (h2, .inr (8, [.ref h12, .int 0]))] H := hP
  replace hD : va_D A [(h4, .inr (8, [.ref h7, .int wp4000480])), (h7, .inl (y 1, 18, .inr (.inl (vp_updL (vp_updL (vp_updL (vp_updL (vp_updL wf4000481 ((16 : Int32).toNatClampNeg) ((p1 - p1 / 10 * 10).toInt64)) ((15 : Int32).toNatClampNeg) (((p1 / 10) - (p1 / 10) / 10 * 10).toInt64)) ((14 : Int32).toNatClampNeg) ((((p1 / 10) / 10) - ((p1 / 10) / 10) / 10 * 10).toInt64)) ((13 : Int32).toNatClampNeg) (((((p1 / 10) / 10) / 10) - (((p1 / 10) / 10) / 10) / 10 * 10).toInt64)) ((12 : Int32).toNatClampNeg) ((((((p1 / 10) / 10) / 10) / 10) - ((((p1 / 10) / 10) / 10) / 10) / 10 * 10).toInt64))))), (h5, .inr (8, [.ref h10, .int wp4000482])), (h10, .inl (y 1, 3, .inr (.inl (vp_updL (fun _ => 0) ((2 : Int32).toNatClampNeg) 5)))), (h0, .inr (5, [.ref h2, .ref h3, .ref h4, .ref h5, .int 0])), (h2, .inr (8, [.ref h12, .int 0]))] := hD
  refine lv_iconst (v := 0) hx hb dX5_tellSecret_60 (by decide) ?_
  refine lv_istore (lv' := [(5, .int 0), (4, .int (((((p1 / 10) / 10) / 10) / 10) / 10)), (0, .ref h0), (1, .int 2), (2, .int p1), (3, .int 5)]) hx hb dX5_tellSecret_61 hl (by decide) rfl ?_
  clear hl
  clear ls
  intro ls hl
  refine lv_iconst (v := 0) hx hb dX5_tellSecret_63 (by decide) ?_
  refine lv_istore (lv' := [(6, .int 0), (5, .int 0), (4, .int (((((p1 / 10) / 10) / 10) / 10) / 10)), (0, .ref h0), (1, .int 2), (2, .int p1), (3, .int 5)]) hx hb dX5_tellSecret_64 hl (by decide) rfl ?_
  clear hl
  clear ls
  intro ls hl
  refine lv_iload hx hb dX5_tellSecret_66 (lv_at hl 0 rfl) ?_
  refine lv_iconst (v := 3) hx hb dX5_tellSecret_68 (by decide) ?_
  refine lv_icmp_ge (tgt := 95) hx hb dX5_tellSecret_69 (by decide) (fun c9 => absurd c9 (by decide +kernel)) (fun _ => ?_)
  refine lv_aload_n hx hb dX5_tellSecret_72 rfl (lv_at hl 3 rfl) ?_
  refine gm_get (D := D) (ci := 5) (v := .ref h5) (C := RX5) (T := TX5) (N := 5) hx hb hg inlX5 hown hK.1 hP 4 rfl rfl 3 (by decide) tX5_3 (hg _ gw_141) rfl dX5_tellSecret_73 ?_
  refine lv_iload hx hb dX5_tellSecret_76 (lv_at hl 0 rfl) ?_
  refine g_al (wr := [(h4, .inr (8, [.ref h7, .int wp4000480])), (h7, .inl (y 1, 18, .inr (.inl (vp_updL (vp_updL (vp_updL (vp_updL (vp_updL wf4000481 ((16 : Int32).toNatClampNeg) ((p1 - p1 / 10 * 10).toInt64)) ((15 : Int32).toNatClampNeg) (((p1 / 10) - (p1 / 10) / 10 * 10).toInt64)) ((14 : Int32).toNatClampNeg) ((((p1 / 10) / 10) - ((p1 / 10) / 10) / 10 * 10).toInt64)) ((13 : Int32).toNatClampNeg) (((((p1 / 10) / 10) / 10) - (((p1 / 10) / 10) / 10) / 10 * 10).toInt64)) ((12 : Int32).toNatClampNeg) ((((((p1 / 10) / 10) / 10) / 10) - ((((p1 / 10) / 10) / 10) / 10) / 10 * 10).toInt64))))), (h0, .inr (5, [.ref h2, .ref h3, .ref h4, .ref h5, .int 0])), (h2, .inr (8, [.ref h12, .int 0]))]) (va_runV (As := [.int 0]) (rest := []) ⟨hx, hb, hml, hown, hg⟩ (k_X8_get_35 l D y aS H.size h5 h10 wp4000482) (cwV 1 hg ggV_RX5_36_X8_get rfl rfl rfl (by decide +kernel) ⟨Nat.le_of_ble_eq_true rfl, Nat.le_of_ble_eq_true rfl⟩) (g_preV (q := (RX8, TX8, 2)) hK hP hD [2, 3] rfl (by decide) (ci := 8) (q0 := 2) rfl rfl) rfl rfl hl.1 rfl (lv_room (Nat.le_of_ble_eq_true rfl)) dX5_tellSecret_78 ⟨Nat.le_of_ble_eq_true rfl, Nat.le_of_ble_eq_true rfl⟩) hP hD hS hA [2, 3] [0, 1, 4, 5] rfl rfl (by decide) (by decide) ?_
  clear hP hD hS H locs
  refine fun r4000490 u H locs hq hP hD hS => ?_
  subst hq
  replace hP : va_P D vwCl [(h4, .inr (8, [.ref h7, .int wp4000480])), (h7, .inl (y 1, 18, .inr (.inl (vp_updL (vp_updL (vp_updL (vp_updL (vp_updL wf4000481 ((16 : Int32).toNatClampNeg) ((p1 - p1 / 10 * 10).toInt64)) ((15 : Int32).toNatClampNeg) (((p1 / 10) - (p1 / 10) / 10 * 10).toInt64)) ((14 : Int32).toNatClampNeg) ((((p1 / 10) / 10) - ((p1 / 10) / 10) / 10 * 10).toInt64)) ((13 : Int32).toNatClampNeg) (((((p1 / 10) / 10) / 10) - (((p1 / 10) / 10) / 10) / 10 * 10).toInt64)) ((12 : Int32).toNatClampNeg) ((((((p1 / 10) / 10) / 10) / 10) - ((((p1 / 10) / 10) / 10) / 10) / 10 * 10).toInt64))))), (h0, .inr (5, [.ref h2, .ref h3, .ref h4, .ref h5, .int 0])), (h2, .inr (8, [.ref h12, .int 0])), (h5, .inr (8, [.ref h10, .int wp4000482])), (h10, .inl (y 1, 3, .inr (.inl (vp_updL (fun _ => 0) ((2 : Int32).toNatClampNeg) 5))))] H := hP
  replace hD : va_D A [(h4, .inr (8, [.ref h7, .int wp4000480])), (h7, .inl (y 1, 18, .inr (.inl (vp_updL (vp_updL (vp_updL (vp_updL (vp_updL wf4000481 ((16 : Int32).toNatClampNeg) ((p1 - p1 / 10 * 10).toInt64)) ((15 : Int32).toNatClampNeg) (((p1 / 10) - (p1 / 10) / 10 * 10).toInt64)) ((14 : Int32).toNatClampNeg) ((((p1 / 10) / 10) - ((p1 / 10) / 10) / 10 * 10).toInt64)) ((13 : Int32).toNatClampNeg) (((((p1 / 10) / 10) / 10) - (((p1 / 10) / 10) / 10) / 10 * 10).toInt64)) ((12 : Int32).toNatClampNeg) ((((((p1 / 10) / 10) / 10) / 10) - ((((p1 / 10) / 10) / 10) / 10) / 10 * 10).toInt64))))), (h0, .inr (5, [.ref h2, .ref h3, .ref h4, .ref h5, .int 0])), (h2, .inr (8, [.ref h12, .int 0])), (h5, .inr (8, [.ref h10, .int wp4000482])), (h10, .inl (y 1, 3, .inr (.inl (vp_updL (fun _ => 0) ((2 : Int32).toNatClampNeg) 5))))] := hD
  refine lv_lconst (v := 0) hx hb dX5_tellSecret_81 (by decide) ?_
  refine W.lcmp hx hb dX5_tellSecret_82 ?_
  refine g_fi (v := 0) (by decide +kernel) ?_
  refine lv_if_le (tgt := 89) hx hb dX5_tellSecret_83 (by decide) (fun _ => ?_) (fun c9 => absurd c9 (by decide +kernel))
  refine lv_iinc (v := 1) (lv' := [(6, .int 1), (5, .int 0), (4, .int (((((p1 / 10) / 10) / 10) / 10) / 10)), (0, .ref h0), (1, .int 2), (2, .int p1), (3, .int 5)]) hx hb dX5_tellSecret_89 hl (k := 0) rfl (by decide +kernel) (by decide) rfl ?_
  clear hl
  clear ls
  intro ls hl
  refine lv_goto (tgt := 66) hx hb dX5_tellSecret_92 (by decide) ?_
  refine lv_iload hx hb dX5_tellSecret_66 (lv_at hl 0 rfl) ?_
  refine lv_iconst (v := 3) hx hb dX5_tellSecret_68 (by decide) ?_
  refine lv_icmp_ge (tgt := 95) hx hb dX5_tellSecret_69 (by decide) (fun c9 => absurd c9 (by decide +kernel)) (fun _ => ?_)
  refine lv_aload_n hx hb dX5_tellSecret_72 rfl (lv_at hl 3 rfl) ?_
  refine gm_get (D := D) (ci := 5) (v := .ref h5) (C := RX5) (T := TX5) (N := 5) hx hb hg inlX5 hown hK.1 hP 2 rfl rfl 3 (by decide) tX5_3 (hg _ gw_141) rfl dX5_tellSecret_73 ?_
  refine lv_iload hx hb dX5_tellSecret_76 (lv_at hl 0 rfl) ?_
  refine g_al (wr := [(h4, .inr (8, [.ref h7, .int wp4000480])), (h7, .inl (y 1, 18, .inr (.inl (vp_updL (vp_updL (vp_updL (vp_updL (vp_updL wf4000481 ((16 : Int32).toNatClampNeg) ((p1 - p1 / 10 * 10).toInt64)) ((15 : Int32).toNatClampNeg) (((p1 / 10) - (p1 / 10) / 10 * 10).toInt64)) ((14 : Int32).toNatClampNeg) ((((p1 / 10) / 10) - ((p1 / 10) / 10) / 10 * 10).toInt64)) ((13 : Int32).toNatClampNeg) (((((p1 / 10) / 10) / 10) - (((p1 / 10) / 10) / 10) / 10 * 10).toInt64)) ((12 : Int32).toNatClampNeg) ((((((p1 / 10) / 10) / 10) / 10) - ((((p1 / 10) / 10) / 10) / 10) / 10 * 10).toInt64))))), (h0, .inr (5, [.ref h2, .ref h3, .ref h4, .ref h5, .int 0])), (h2, .inr (8, [.ref h12, .int 0]))]) (va_runV (As := [.int 1]) (rest := []) ⟨hx, hb, hml, hown, hg⟩ (k_X8_get_36 l D y aS H.size h5 h10 wp4000482) (cwV 1 hg ggV_RX5_36_X8_get rfl rfl rfl (by decide +kernel) ⟨Nat.le_of_ble_eq_true rfl, Nat.le_of_ble_eq_true rfl⟩) (g_preV (q := (RX8, TX8, 2)) hK hP hD [4, 5] rfl (by decide) (ci := 8) (q0 := 4) rfl rfl) rfl rfl hl.1 rfl (lv_room (Nat.le_of_ble_eq_true rfl)) dX5_tellSecret_78 ⟨Nat.le_of_ble_eq_true rfl, Nat.le_of_ble_eq_true rfl⟩) hP hD hS hA [4, 5] [0, 1, 2, 3] rfl rfl (by decide) (by decide) ?_
  clear hP hD hS H locs
  refine fun r4000491 u H locs hq hP hD hS => ?_
  subst hq
  replace hP : va_P D vwCl [(h4, .inr (8, [.ref h7, .int wp4000480])), (h7, .inl (y 1, 18, .inr (.inl (vp_updL (vp_updL (vp_updL (vp_updL (vp_updL wf4000481 ((16 : Int32).toNatClampNeg) ((p1 - p1 / 10 * 10).toInt64)) ((15 : Int32).toNatClampNeg) (((p1 / 10) - (p1 / 10) / 10 * 10).toInt64)) ((14 : Int32).toNatClampNeg) ((((p1 / 10) / 10) - ((p1 / 10) / 10) / 10 * 10).toInt64)) ((13 : Int32).toNatClampNeg) (((((p1 / 10) / 10) / 10) - (((p1 / 10) / 10) / 10) / 10 * 10).toInt64)) ((12 : Int32).toNatClampNeg) ((((((p1 / 10) / 10) / 10) / 10) - ((((p1 / 10) / 10) / 10) / 10) / 10 * 10).toInt64))))), (h0, .inr (5, [.ref h2, .ref h3, .ref h4, .ref h5, .int 0])), (h2, .inr (8, [.ref h12, .int 0])), (h5, .inr (8, [.ref h10, .int wp4000482])), (h10, .inl (y 1, 3, .inr (.inl (vp_updL (fun _ => 0) ((2 : Int32).toNatClampNeg) 5))))] H := hP
  replace hD : va_D A [(h4, .inr (8, [.ref h7, .int wp4000480])), (h7, .inl (y 1, 18, .inr (.inl (vp_updL (vp_updL (vp_updL (vp_updL (vp_updL wf4000481 ((16 : Int32).toNatClampNeg) ((p1 - p1 / 10 * 10).toInt64)) ((15 : Int32).toNatClampNeg) (((p1 / 10) - (p1 / 10) / 10 * 10).toInt64)) ((14 : Int32).toNatClampNeg) ((((p1 / 10) / 10) - ((p1 / 10) / 10) / 10 * 10).toInt64)) ((13 : Int32).toNatClampNeg) (((((p1 / 10) / 10) / 10) - (((p1 / 10) / 10) / 10) / 10 * 10).toInt64)) ((12 : Int32).toNatClampNeg) ((((((p1 / 10) / 10) / 10) / 10) - ((((p1 / 10) / 10) / 10) / 10) / 10 * 10).toInt64))))), (h0, .inr (5, [.ref h2, .ref h3, .ref h4, .ref h5, .int 0])), (h2, .inr (8, [.ref h12, .int 0])), (h5, .inr (8, [.ref h10, .int wp4000482])), (h10, .inl (y 1, 3, .inr (.inl (vp_updL (fun _ => 0) ((2 : Int32).toNatClampNeg) 5))))] := hD
  refine lv_lconst (v := 0) hx hb dX5_tellSecret_81 (by decide) ?_
  refine W.lcmp hx hb dX5_tellSecret_82 ?_
  refine g_fi (v := 0) (by decide +kernel) ?_
  refine lv_if_le (tgt := 89) hx hb dX5_tellSecret_83 (by decide) (fun _ => ?_) (fun c9 => absurd c9 (by decide +kernel))
  refine lv_iinc (v := 2) (lv' := [(6, .int 2), (5, .int 0), (4, .int (((((p1 / 10) / 10) / 10) / 10) / 10)), (0, .ref h0), (1, .int 2), (2, .int p1), (3, .int 5)]) hx hb dX5_tellSecret_89 hl (k := 0) rfl (by decide +kernel) (by decide) rfl ?_
  clear hl
  clear ls
  intro ls hl
  refine lv_goto (tgt := 66) hx hb dX5_tellSecret_92 (by decide) ?_
  refine lv_iload hx hb dX5_tellSecret_66 (lv_at hl 0 rfl) ?_
  refine lv_iconst (v := 3) hx hb dX5_tellSecret_68 (by decide) ?_
  refine lv_icmp_ge (tgt := 95) hx hb dX5_tellSecret_69 (by decide) (fun c9 => absurd c9 (by decide +kernel)) (fun _ => ?_)
  refine lv_aload_n hx hb dX5_tellSecret_72 rfl (lv_at hl 3 rfl) ?_
  refine gm_get (D := D) (ci := 5) (v := .ref h5) (C := RX5) (T := TX5) (N := 5) hx hb hg inlX5 hown hK.1 hP 2 rfl rfl 3 (by decide) tX5_3 (hg _ gw_141) rfl dX5_tellSecret_73 ?_
  refine lv_iload hx hb dX5_tellSecret_76 (lv_at hl 0 rfl) ?_
  refine g_al (wr := [(h4, .inr (8, [.ref h7, .int wp4000480])), (h7, .inl (y 1, 18, .inr (.inl (vp_updL (vp_updL (vp_updL (vp_updL (vp_updL wf4000481 ((16 : Int32).toNatClampNeg) ((p1 - p1 / 10 * 10).toInt64)) ((15 : Int32).toNatClampNeg) (((p1 / 10) - (p1 / 10) / 10 * 10).toInt64)) ((14 : Int32).toNatClampNeg) ((((p1 / 10) / 10) - ((p1 / 10) / 10) / 10 * 10).toInt64)) ((13 : Int32).toNatClampNeg) (((((p1 / 10) / 10) / 10) - (((p1 / 10) / 10) / 10) / 10 * 10).toInt64)) ((12 : Int32).toNatClampNeg) ((((((p1 / 10) / 10) / 10) / 10) - ((((p1 / 10) / 10) / 10) / 10) / 10 * 10).toInt64))))), (h0, .inr (5, [.ref h2, .ref h3, .ref h4, .ref h5, .int 0])), (h2, .inr (8, [.ref h12, .int 0]))]) (va_runV (As := [.int 2]) (rest := []) ⟨hx, hb, hml, hown, hg⟩ (k_X8_get_37 l D y aS H.size h5 h10 wp4000482) (cwV 1 hg ggV_RX5_36_X8_get rfl rfl rfl (by decide +kernel) ⟨Nat.le_of_ble_eq_true rfl, Nat.le_of_ble_eq_true rfl⟩) (g_preV (q := (RX8, TX8, 2)) hK hP hD [4, 5] rfl (by decide) (ci := 8) (q0 := 4) rfl rfl) rfl rfl hl.1 rfl (lv_room (Nat.le_of_ble_eq_true rfl)) dX5_tellSecret_78 ⟨Nat.le_of_ble_eq_true rfl, Nat.le_of_ble_eq_true rfl⟩) hP hD hS hA [4, 5] [0, 1, 2, 3] rfl rfl (by decide) (by decide) ?_
  clear hP hD hS H locs
  refine fun r4000492 u H locs hq hP hD hS => ?_
  subst hq
  replace hP : va_P D vwCl [(h4, .inr (8, [.ref h7, .int wp4000480])), (h7, .inl (y 1, 18, .inr (.inl (vp_updL (vp_updL (vp_updL (vp_updL (vp_updL wf4000481 ((16 : Int32).toNatClampNeg) ((p1 - p1 / 10 * 10).toInt64)) ((15 : Int32).toNatClampNeg) (((p1 / 10) - (p1 / 10) / 10 * 10).toInt64)) ((14 : Int32).toNatClampNeg) ((((p1 / 10) / 10) - ((p1 / 10) / 10) / 10 * 10).toInt64)) ((13 : Int32).toNatClampNeg) (((((p1 / 10) / 10) / 10) - (((p1 / 10) / 10) / 10) / 10 * 10).toInt64)) ((12 : Int32).toNatClampNeg) ((((((p1 / 10) / 10) / 10) / 10) - ((((p1 / 10) / 10) / 10) / 10) / 10 * 10).toInt64))))), (h0, .inr (5, [.ref h2, .ref h3, .ref h4, .ref h5, .int 0])), (h2, .inr (8, [.ref h12, .int 0])), (h5, .inr (8, [.ref h10, .int wp4000482])), (h10, .inl (y 1, 3, .inr (.inl (vp_updL (fun _ => 0) ((2 : Int32).toNatClampNeg) 5))))] H := hP
  replace hD : va_D A [(h4, .inr (8, [.ref h7, .int wp4000480])), (h7, .inl (y 1, 18, .inr (.inl (vp_updL (vp_updL (vp_updL (vp_updL (vp_updL wf4000481 ((16 : Int32).toNatClampNeg) ((p1 - p1 / 10 * 10).toInt64)) ((15 : Int32).toNatClampNeg) (((p1 / 10) - (p1 / 10) / 10 * 10).toInt64)) ((14 : Int32).toNatClampNeg) ((((p1 / 10) / 10) - ((p1 / 10) / 10) / 10 * 10).toInt64)) ((13 : Int32).toNatClampNeg) (((((p1 / 10) / 10) / 10) - (((p1 / 10) / 10) / 10) / 10 * 10).toInt64)) ((12 : Int32).toNatClampNeg) ((((((p1 / 10) / 10) / 10) / 10) - ((((p1 / 10) / 10) / 10) / 10) / 10 * 10).toInt64))))), (h0, .inr (5, [.ref h2, .ref h3, .ref h4, .ref h5, .int 0])), (h2, .inr (8, [.ref h12, .int 0])), (h5, .inr (8, [.ref h10, .int wp4000482])), (h10, .inl (y 1, 3, .inr (.inl (vp_updL (fun _ => 0) ((2 : Int32).toNatClampNeg) 5))))] := hD
  refine lv_lconst (v := 0) hx hb dX5_tellSecret_81 (by decide) ?_
  refine W.lcmp hx hb dX5_tellSecret_82 ?_
  refine g_fi (v := 1) (by decide +kernel) ?_
  refine lv_if_le (tgt := 89) hx hb dX5_tellSecret_83 (by decide) (fun c9 => absurd c9 (by decide +kernel)) (fun _ => ?_)
  refine lv_iinc (v := 1) (lv' := [(5, .int 1), (6, .int 2), (4, .int (((((p1 / 10) / 10) / 10) / 10) / 10)), (0, .ref h0), (1, .int 2), (2, .int p1), (3, .int 5)]) hx hb dX5_tellSecret_86 hl (k := 1) rfl (by decide +kernel) (by decide) rfl ?_
  clear hl
  clear ls
  intro ls hl
  refine lv_iinc (v := 3) (lv' := [(6, .int 3), (5, .int 1), (4, .int (((((p1 / 10) / 10) / 10) / 10) / 10)), (0, .ref h0), (1, .int 2), (2, .int p1), (3, .int 5)]) hx hb dX5_tellSecret_89 hl (k := 1) rfl (by decide +kernel) (by decide) rfl ?_
  clear hl
  clear ls
  intro ls hl
  refine lv_goto (tgt := 66) hx hb dX5_tellSecret_92 (by decide) ?_
  refine lv_iload hx hb dX5_tellSecret_66 (lv_at hl 0 rfl) ?_
  refine lv_iconst (v := 3) hx hb dX5_tellSecret_68 (by decide) ?_
  refine lv_icmp_ge (tgt := 95) hx hb dX5_tellSecret_69 (by decide) (fun _ => ?_) (fun c9 => absurd c9 (by decide +kernel))
  refine lv_iload hx hb dX5_tellSecret_95 (lv_at hl 1 rfl) ?_
  exact g_iret hx hb hr hlocks () (hP.sub [2, 0, 1, 4, 5, 3] rfl) (hD.sub [2, 0, 1, 4, 5, 3] (by decide +kernel) rfl) hS rfl rfl (Nat.le_of_ble_eq_true rfl) (Nat.le_of_ble_eq_true rfl) dX5_tellSecret_97
set_option maxRecDepth 100000 in
set_option maxHeartbeats 4000000 in
theorem k_X8_set_42 (l : Launch) (D : va_G) (y : Nat → ClassId) (aS : Nat → Nat) (sz : Nat) (h0 : Nat) (p1 : Int64) (h2 : Nat) (wp4000498 : Int32) (wf4000499 : Nat → Int64) : Met l yX8_set (Cond.code yX8_set cX8_set 4 none :: wsL_law) ({ frames := 0, cells := 0, slots := 0, locals := 0 } : Room) (va_Pc [.ref h0, .int 5, .long p1] (gI D y aS [(h0, .inr (8, [.ref h2, .int wp4000498])), (h2, .inl (y 1, 18, .inr (.inl wf4000499)))] sz)) (va_Qv (fun (u : Unit) => True) (fun u => gO D (va_A [(h0, .inr (8, [.ref h2, .int wp4000498])), (h2, .inl (y 1, 18, .inr (.inl wf4000499)))] sz) [(h0, .inr (8, [.ref h2, .int wp4000498])), (h2, .inl (y 1, 18, .inr (.inl (vp_updL wf4000499 ((5 : Int32).toNatClampNeg) p1))))]) (va_A [(h0, .inr (8, [.ref h2, .int wp4000498])), (h2, .inl (y 1, 18, .inr (.inl wf4000499)))] sz)) 0 0 (va_A [(h0, .inr (8, [.ref h2, .int wp4000498])), (h2, .inl (y 1, 18, .inr (.inl wf4000499)))] sz) := by
  refine g_of (by decide) (Nat.le_of_ble_eq_true rfl) ?_
  intro p e s m below meth c ls A hx hb hr hml hown hg hlocks hin hsz hK hP hD hS hA hAe hl
  rw [← hAe]
  replace hown : s.vm.findClass RX8 = some m.cls := hown
  replace hl : lv_has ls 4 [(0, .ref h0), (1, .int 5), (2, .long p1)] := hl
  refine lv_iload_n hx hb dX8_set_0 rfl (lv_at hl 1 rfl) ?_
  refine lv_if_lt (tgt := 20) hx hb dX8_set_1 (by decide) (fun c9 => absurd c9 (by decide +kernel)) (fun _ => ?_)
  refine lv_iload_n hx hb dX8_set_4 rfl (lv_at hl 1 rfl) ?_
  refine lv_aload_n hx hb dX8_set_5 rfl (lv_at hl 0 rfl) ?_
  refine gm_get (D := D) (ci := 8) (v := .ref h2) (C := RX8) (T := TX8) (N := 2) hx hb hg inlX8 hown hK.1 hP 0 rfl rfl 0 (by decide) tX8_0 (hg _ gw_98) rfl dX8_set_6 ?_
  refine va_alen hx hb hK.1 hP 1 1 rfl rfl (v := 18) rfl dX8_set_9 ?_
  refine lv_icmp_ge (tgt := 20) hx hb dX8_set_10 (by decide) (fun c9 => absurd c9 (by decide +kernel)) (fun _ => ?_)
  refine lv_aload_n hx hb dX8_set_13 rfl (lv_at hl 0 rfl) ?_
  refine gm_get (D := D) (ci := 8) (v := .ref h2) (C := RX8) (T := TX8) (N := 2) hx hb hg inlX8 hown hK.1 hP 0 rfl rfl 0 (by decide) tX8_0 (hg _ gw_98) rfl dX8_set_14 ?_
  refine lv_iload_n hx hb dX8_set_17 rfl (lv_at hl 1 rfl) ?_
  refine lv_lload_n hx hb dX8_set_18 rfl (lv_at hl 2 rfl) ?_
  refine va_last hx hb hK.1 hP hD hS 1 1 rfl rfl (by unfold vp_in; decide +kernel) dX8_set_19 ?_
  clear hP hD hS
  refine fun H locs (hP : va_P D vwCl [(h0, .inr (8, [.ref h2, .int wp4000498])), (h2, .inl (y 1, 18, .inr (.inl (vp_updL wf4000499 ((5 : Int32).toNatClampNeg) p1))))] H) (hD : va_D A [(h0, .inr (8, [.ref h2, .int wp4000498])), (h2, .inl (y 1, 18, .inr (.inl (vp_updL wf4000499 ((5 : Int32).toNatClampNeg) p1))))]) hS => ?_
  exact g_vret hx hb hr hlocks () hP hD hS trivial (Nat.le_of_ble_eq_true rfl) (Nat.le_of_ble_eq_true rfl) dX8_set_20
set_option maxRecDepth 100000 in
set_option maxHeartbeats 4000000 in
theorem k_X8_get_38 (l : Launch) (D : va_G) (y : Nat → ClassId) (aS : Nat → Nat) (sz : Nat) (h0 : Nat) (h1 : Nat) (wp4000508 : Int32) : Met l yX8_get (Cond.code yX8_get cX8_get 2 (some .long) :: wsL_law) ({ frames := 0, cells := 0, slots := 0, locals := 0 } : Room) (va_Pc [.ref h0, .int 0] (gI D y aS [(h0, .inr (8, [.ref h1, .int wp4000508])), (h1, .inl (y 1, 3, .inr (.inl (vp_updL (fun _ => 0) ((0 : Int32).toNatClampNeg) 6))))] sz)) (va_Ql (fun (r : Int64) (u : Unit) => 6 = r) (fun u => gO D (va_A [(h0, .inr (8, [.ref h1, .int wp4000508])), (h1, .inl (y 1, 3, .inr (.inl (vp_updL (fun _ => 0) ((0 : Int32).toNatClampNeg) 6))))] sz) [(h0, .inr (8, [.ref h1, .int wp4000508])), (h1, .inl (y 1, 3, .inr (.inl (vp_updL (fun _ => 0) ((0 : Int32).toNatClampNeg) 6))))]) (va_A [(h0, .inr (8, [.ref h1, .int wp4000508])), (h1, .inl (y 1, 3, .inr (.inl (vp_updL (fun _ => 0) ((0 : Int32).toNatClampNeg) 6))))] sz)) 0 0 (va_A [(h0, .inr (8, [.ref h1, .int wp4000508])), (h1, .inl (y 1, 3, .inr (.inl (vp_updL (fun _ => 0) ((0 : Int32).toNatClampNeg) 6))))] sz) := by
  refine g_of (by decide) (Nat.le_of_ble_eq_true rfl) ?_
  intro p e s m below meth c ls A hx hb hr hml hown hg hlocks hin hsz hK hP hD hS hA hAe hl
  rw [← hAe]
  replace hown : s.vm.findClass RX8 = some m.cls := hown
  replace hl : lv_has ls 2 [(0, .ref h0), (1, .int 0)] := hl
  refine lv_iload_n hx hb dX8_get_0 rfl (lv_at hl 1 rfl) ?_
  refine lv_if_lt (tgt := 22) hx hb dX8_get_1 (by decide) (fun c9 => absurd c9 (by decide +kernel)) (fun _ => ?_)
  refine lv_iload_n hx hb dX8_get_4 rfl (lv_at hl 1 rfl) ?_
  refine lv_aload_n hx hb dX8_get_5 rfl (lv_at hl 0 rfl) ?_
  refine gm_get (D := D) (ci := 8) (v := .ref h1) (C := RX8) (T := TX8) (N := 2) hx hb hg inlX8 hown hK.1 hP 0 rfl rfl 0 (by decide) tX8_0 (hg _ gw_98) rfl dX8_get_6 ?_
  refine va_alen hx hb hK.1 hP 1 1 rfl rfl (v := 3) rfl dX8_get_9 ?_
  refine lv_icmp_ge (tgt := 22) hx hb dX8_get_10 (by decide) (fun c9 => absurd c9 (by decide +kernel)) (fun _ => ?_)
  refine lv_aload_n hx hb dX8_get_13 rfl (lv_at hl 0 rfl) ?_
  refine gm_get (D := D) (ci := 8) (v := .ref h1) (C := RX8) (T := TX8) (N := 2) hx hb hg inlX8 hown hK.1 hP 0 rfl rfl 0 (by decide) tX8_0 (hg _ gw_98) rfl dX8_get_14 ?_
  refine lv_iload_n hx hb dX8_get_17 rfl (lv_at hl 1 rfl) ?_
  refine va_lald hx hb hK.1 hP 1 1 rfl rfl (by unfold vp_in; decide +kernel) dX8_get_18 ?_
  refine g_fj (v := 6) (by rfl) ?_
  refine lv_goto (tgt := 23) hx hb dX8_get_19 (by decide) ?_
  exact g_lret hx hb hr hlocks () hP hD hS rfl (Nat.le_of_ble_eq_true rfl) (Nat.le_of_ble_eq_true rfl) dX8_get_23
set_option maxRecDepth 100000 in
set_option maxHeartbeats 4000000 in
theorem k_X8_get_39 (l : Launch) (D : va_G) (y : Nat → ClassId) (aS : Nat → Nat) (sz : Nat) (h0 : Nat) (h1 : Nat) (wp4000510 : Int32) : Met l yX8_get (Cond.code yX8_get cX8_get 2 (some .long) :: wsL_law) ({ frames := 0, cells := 0, slots := 0, locals := 0 } : Room) (va_Pc [.ref h0, .int 1] (gI D y aS [(h0, .inr (8, [.ref h1, .int wp4000510])), (h1, .inl (y 1, 3, .inr (.inl (vp_updL (fun _ => 0) ((0 : Int32).toNatClampNeg) 6))))] sz)) (va_Ql (fun (r : Int64) (u : Unit) => 0 = r) (fun u => gO D (va_A [(h0, .inr (8, [.ref h1, .int wp4000510])), (h1, .inl (y 1, 3, .inr (.inl (vp_updL (fun _ => 0) ((0 : Int32).toNatClampNeg) 6))))] sz) [(h0, .inr (8, [.ref h1, .int wp4000510])), (h1, .inl (y 1, 3, .inr (.inl (vp_updL (fun _ => 0) ((0 : Int32).toNatClampNeg) 6))))]) (va_A [(h0, .inr (8, [.ref h1, .int wp4000510])), (h1, .inl (y 1, 3, .inr (.inl (vp_updL (fun _ => 0) ((0 : Int32).toNatClampNeg) 6))))] sz)) 0 0 (va_A [(h0, .inr (8, [.ref h1, .int wp4000510])), (h1, .inl (y 1, 3, .inr (.inl (vp_updL (fun _ => 0) ((0 : Int32).toNatClampNeg) 6))))] sz) := by
  refine g_of (by decide) (Nat.le_of_ble_eq_true rfl) ?_
  intro p e s m below meth c ls A hx hb hr hml hown hg hlocks hin hsz hK hP hD hS hA hAe hl
  rw [← hAe]
  replace hown : s.vm.findClass RX8 = some m.cls := hown
  replace hl : lv_has ls 2 [(0, .ref h0), (1, .int 1)] := hl
  refine lv_iload_n hx hb dX8_get_0 rfl (lv_at hl 1 rfl) ?_
  refine lv_if_lt (tgt := 22) hx hb dX8_get_1 (by decide) (fun c9 => absurd c9 (by decide +kernel)) (fun _ => ?_)
  refine lv_iload_n hx hb dX8_get_4 rfl (lv_at hl 1 rfl) ?_
  refine lv_aload_n hx hb dX8_get_5 rfl (lv_at hl 0 rfl) ?_
  refine gm_get (D := D) (ci := 8) (v := .ref h1) (C := RX8) (T := TX8) (N := 2) hx hb hg inlX8 hown hK.1 hP 0 rfl rfl 0 (by decide) tX8_0 (hg _ gw_98) rfl dX8_get_6 ?_
  refine va_alen hx hb hK.1 hP 1 1 rfl rfl (v := 3) rfl dX8_get_9 ?_
  refine lv_icmp_ge (tgt := 22) hx hb dX8_get_10 (by decide) (fun c9 => absurd c9 (by decide +kernel)) (fun _ => ?_)
  refine lv_aload_n hx hb dX8_get_13 rfl (lv_at hl 0 rfl) ?_
  refine gm_get (D := D) (ci := 8) (v := .ref h1) (C := RX8) (T := TX8) (N := 2) hx hb hg inlX8 hown hK.1 hP 0 rfl rfl 0 (by decide) tX8_0 (hg _ gw_98) rfl dX8_get_14 ?_
  refine lv_iload_n hx hb dX8_get_17 rfl (lv_at hl 1 rfl) ?_
  refine va_lald hx hb hK.1 hP 1 1 rfl rfl (by unfold vp_in; decide +kernel) dX8_get_18 ?_
  refine g_fj (v := 0) (by rfl) ?_
  refine lv_goto (tgt := 23) hx hb dX8_get_19 (by decide) ?_
  exact g_lret hx hb hr hlocks () hP hD hS rfl (Nat.le_of_ble_eq_true rfl) (Nat.le_of_ble_eq_true rfl) dX8_get_23
set_option maxRecDepth 100000 in
set_option maxHeartbeats 4000000 in
theorem k_X8_get_40 (l : Launch) (D : va_G) (y : Nat → ClassId) (aS : Nat → Nat) (sz : Nat) (h0 : Nat) (h1 : Nat) (wp4000512 : Int32) : Met l yX8_get (Cond.code yX8_get cX8_get 2 (some .long) :: wsL_law) ({ frames := 0, cells := 0, slots := 0, locals := 0 } : Room) (va_Pc [.ref h0, .int 2] (gI D y aS [(h0, .inr (8, [.ref h1, .int wp4000512])), (h1, .inl (y 1, 3, .inr (.inl (vp_updL (fun _ => 0) ((0 : Int32).toNatClampNeg) 6))))] sz)) (va_Ql (fun (r : Int64) (u : Unit) => 0 = r) (fun u => gO D (va_A [(h0, .inr (8, [.ref h1, .int wp4000512])), (h1, .inl (y 1, 3, .inr (.inl (vp_updL (fun _ => 0) ((0 : Int32).toNatClampNeg) 6))))] sz) [(h0, .inr (8, [.ref h1, .int wp4000512])), (h1, .inl (y 1, 3, .inr (.inl (vp_updL (fun _ => 0) ((0 : Int32).toNatClampNeg) 6))))]) (va_A [(h0, .inr (8, [.ref h1, .int wp4000512])), (h1, .inl (y 1, 3, .inr (.inl (vp_updL (fun _ => 0) ((0 : Int32).toNatClampNeg) 6))))] sz)) 0 0 (va_A [(h0, .inr (8, [.ref h1, .int wp4000512])), (h1, .inl (y 1, 3, .inr (.inl (vp_updL (fun _ => 0) ((0 : Int32).toNatClampNeg) 6))))] sz) := by
  refine g_of (by decide) (Nat.le_of_ble_eq_true rfl) ?_
  intro p e s m below meth c ls A hx hb hr hml hown hg hlocks hin hsz hK hP hD hS hA hAe hl
  rw [← hAe]
  replace hown : s.vm.findClass RX8 = some m.cls := hown
  replace hl : lv_has ls 2 [(0, .ref h0), (1, .int 2)] := hl
  refine lv_iload_n hx hb dX8_get_0 rfl (lv_at hl 1 rfl) ?_
  refine lv_if_lt (tgt := 22) hx hb dX8_get_1 (by decide) (fun c9 => absurd c9 (by decide +kernel)) (fun _ => ?_)
  refine lv_iload_n hx hb dX8_get_4 rfl (lv_at hl 1 rfl) ?_
  refine lv_aload_n hx hb dX8_get_5 rfl (lv_at hl 0 rfl) ?_
  refine gm_get (D := D) (ci := 8) (v := .ref h1) (C := RX8) (T := TX8) (N := 2) hx hb hg inlX8 hown hK.1 hP 0 rfl rfl 0 (by decide) tX8_0 (hg _ gw_98) rfl dX8_get_6 ?_
  refine va_alen hx hb hK.1 hP 1 1 rfl rfl (v := 3) rfl dX8_get_9 ?_
  refine lv_icmp_ge (tgt := 22) hx hb dX8_get_10 (by decide) (fun c9 => absurd c9 (by decide +kernel)) (fun _ => ?_)
  refine lv_aload_n hx hb dX8_get_13 rfl (lv_at hl 0 rfl) ?_
  refine gm_get (D := D) (ci := 8) (v := .ref h1) (C := RX8) (T := TX8) (N := 2) hx hb hg inlX8 hown hK.1 hP 0 rfl rfl 0 (by decide) tX8_0 (hg _ gw_98) rfl dX8_get_14 ?_
  refine lv_iload_n hx hb dX8_get_17 rfl (lv_at hl 1 rfl) ?_
  refine va_lald hx hb hK.1 hP 1 1 rfl rfl (by unfold vp_in; decide +kernel) dX8_get_18 ?_
  refine g_fj (v := 0) (by rfl) ?_
  refine lv_goto (tgt := 23) hx hb dX8_get_19 (by decide) ?_
  exact g_lret hx hb hr hlocks () hP hD hS rfl (Nat.le_of_ble_eq_true rfl) (Nat.le_of_ble_eq_true rfl) dX8_get_23
set_option maxRecDepth 100000 in
set_option maxHeartbeats 4000000 in
theorem k_X5_tellSecret_12 (l : Launch) (D : va_G) (y : Nat → ClassId) (aS : Nat → Nat) (sz : Nat) (h0 : Nat) (p1 : Int32) (h2 : Nat) (h3 : Nat) (h4 : Nat) (h5 : Nat) (wp4000514 : Int32) (h7 : Nat) (wp4000515 : Int32) (wf4000516 : Nat → Int64) (h10 : Nat) (wp4000517 : Int32) (h12 : Nat) : Met l yX5_tellSecret (Cond.code yX5_tellSecret cX5_tellSecret 7 (some .int) :: wsL_law) ({ frames := 1, cells := 0, slots := 0, locals := 23 } : Room) (va_Pc [.ref h0, .int 0, .int p1, .int 6] (gI D y aS [(h0, .inr (5, [.ref h2, .ref h3, .ref h4, .ref h5, .int wp4000514])), (h4, .inr (8, [.ref h7, .int wp4000515])), (h7, .inl (y 1, 18, .inr (.inl wf4000516))), (h5, .inr (8, [.ref h10, .int wp4000517])), (h10, .inl (y 1, 3, .inr (.inl (fun _ => 0)))), (h2, .inr (8, [.ref h12, .int 0]))] sz)) (va_Qi (fun (r : Int32) (u : Unit) => 1 = r) (fun u => gO D (va_A [(h0, .inr (5, [.ref h2, .ref h3, .ref h4, .ref h5, .int wp4000514])), (h4, .inr (8, [.ref h7, .int wp4000515])), (h7, .inl (y 1, 18, .inr (.inl wf4000516))), (h5, .inr (8, [.ref h10, .int wp4000517])), (h10, .inl (y 1, 3, .inr (.inl (fun _ => 0)))), (h2, .inr (8, [.ref h12, .int 0]))] sz) [(h0, .inr (5, [.ref h2, .ref h3, .ref h4, .ref h5, .int 0])), (h4, .inr (8, [.ref h7, .int wp4000515])), (h7, .inl (y 1, 18, .inr (.inl (vp_updL (vp_updL (vp_updL (vp_updL (vp_updL (vp_updL wf4000516 ((5 : Int32).toNatClampNeg) ((p1 - p1 / 10 * 10).toInt64)) ((4 : Int32).toNatClampNeg) (((p1 / 10) - (p1 / 10) / 10 * 10).toInt64)) ((3 : Int32).toNatClampNeg) ((((p1 / 10) / 10) - ((p1 / 10) / 10) / 10 * 10).toInt64)) ((2 : Int32).toNatClampNeg) (((((p1 / 10) / 10) / 10) - (((p1 / 10) / 10) / 10) / 10 * 10).toInt64)) ((1 : Int32).toNatClampNeg) ((((((p1 / 10) / 10) / 10) / 10) - ((((p1 / 10) / 10) / 10) / 10) / 10 * 10).toInt64)) ((0 : Int32).toNatClampNeg) (((((((p1 / 10) / 10) / 10) / 10) / 10) - (((((p1 / 10) / 10) / 10) / 10) / 10) / 10 * 10).toInt64))))), (h5, .inr (8, [.ref h10, .int wp4000517])), (h10, .inl (y 1, 3, .inr (.inl (vp_updL (fun _ => 0) ((0 : Int32).toNatClampNeg) 6)))), (h2, .inr (8, [.ref h12, .int 0]))]) (va_A [(h0, .inr (5, [.ref h2, .ref h3, .ref h4, .ref h5, .int wp4000514])), (h4, .inr (8, [.ref h7, .int wp4000515])), (h7, .inl (y 1, 18, .inr (.inl wf4000516))), (h5, .inr (8, [.ref h10, .int wp4000517])), (h10, .inl (y 1, 3, .inr (.inl (fun _ => 0)))), (h2, .inr (8, [.ref h12, .int 0]))] sz)) 0 0 (va_A [(h0, .inr (5, [.ref h2, .ref h3, .ref h4, .ref h5, .int wp4000514])), (h4, .inr (8, [.ref h7, .int wp4000515])), (h7, .inl (y 1, 18, .inr (.inl wf4000516))), (h5, .inr (8, [.ref h10, .int wp4000517])), (h10, .inl (y 1, 3, .inr (.inl (fun _ => 0)))), (h2, .inr (8, [.ref h12, .int 0]))] sz) := by
  refine g_of (by decide) (Nat.le_of_ble_eq_true rfl) ?_
  intro p e s m below meth c ls A hx hb hr hml hown hg hlocks hin hsz hK hP hD hS hA hAe hl
  rw [← hAe]
  replace hown : s.vm.findClass RX5 = some m.cls := hown
  replace hl : lv_has ls 7 [(0, .ref h0), (1, .int 0), (2, .int p1), (3, .int 6)] := hl
  refine lv_iload_n hx hb dX5_tellSecret_0 rfl (lv_at hl 2 rfl) ?_
  refine lv_istore (lv' := [(4, .int p1), (0, .ref h0), (1, .int 0), (2, .int p1), (3, .int 6)]) hx hb dX5_tellSecret_1 hl (by decide) rfl ?_
  clear hl
  clear ls
  intro ls hl
  refine lv_iload_n hx hb dX5_tellSecret_3 rfl (lv_at hl 4 rfl) ?_
  refine lv_iconst (v := 1) hx hb dX5_tellSecret_4 (by decide) ?_
  refine lv_isub hx hb dX5_tellSecret_5 ?_
  refine g_fi (v := 5) (by decide +kernel) ?_
  refine lv_istore (lv' := [(5, .int 5), (4, .int p1), (0, .ref h0), (1, .int 0), (2, .int p1), (3, .int 6)]) hx hb dX5_tellSecret_6 hl (by decide) rfl ?_
  clear hl
  clear ls
  intro ls hl
  refine lv_iload hx hb dX5_tellSecret_8 (lv_at hl 0 rfl) ?_
  refine lv_if_lt (tgt := 46) hx hb dX5_tellSecret_10 (by decide) (fun c9 => absurd c9 (by decide +kernel)) (fun _ => ?_)
  refine lv_aload_n hx hb dX5_tellSecret_13 rfl (lv_at hl 2 rfl) ?_
  refine gm_get (D := D) (ci := 5) (v := .ref h4) (C := RX5) (T := TX5) (N := 5) hx hb hg inlX5 hown hK.1 hP 0 rfl rfl 2 (by decide) tX5_2 (hg _ gw_140) rfl dX5_tellSecret_14 ?_
  refine lv_iload_n hx hb dX5_tellSecret_17 rfl (lv_at hl 3 rfl) ?_
  refine lv_bipush (v := 6) hx hb dX5_tellSecret_18 (by decide +kernel) ?_
  refine lv_imul hx hb dX5_tellSecret_20 ?_
  refine g_fi (v := 0) (by decide +kernel) ?_
  refine lv_iload hx hb dX5_tellSecret_21 (lv_at hl 0 rfl) ?_
  refine lv_iadd hx hb dX5_tellSecret_23 ?_
  refine g_fi (v := 5) (by decide +kernel) ?_
  refine lv_iload hx hb dX5_tellSecret_24 (lv_at hl 1 rfl) ?_
  refine lv_bipush (v := 10) hx hb dX5_tellSecret_26 (by decide +kernel) ?_
  refine lv_irem hx hb dX5_tellSecret_28 (by decide +kernel) ?_
  refine lv_i2l (v := ((p1 - p1 / 10 * 10).toInt64)) hx hb dX5_tellSecret_29 rfl ?_
  refine g_av (wr := [(h0, .inr (5, [.ref h2, .ref h3, .ref h4, .ref h5, .int wp4000514])), (h5, .inr (8, [.ref h10, .int wp4000517])), (h10, .inl (y 1, 3, .inr (.inl (fun _ => 0)))), (h2, .inr (8, [.ref h12, .int 0]))]) (va_runV (As := [.int 5, .long ((p1 - p1 / 10 * 10).toInt64)]) (rest := []) ⟨hx, hb, hml, hown, hg⟩ (k_X8_set_42 l D y aS s.heap.size h4 ((p1 - p1 / 10 * 10).toInt64) h7 wp4000515 wf4000516) (cwV 2 hg ggV_RX5_29_X8_set rfl rfl rfl (by decide +kernel) ⟨Nat.le_of_ble_eq_true rfl, Nat.le_of_ble_eq_true rfl⟩) (g_preV (q := (RX8, TX8, 2)) hK hP hD [1, 2] rfl (by decide) (ci := 8) (q0 := 1) rfl rfl) rfl rfl hl.1 rfl (lv_room (Nat.le_of_ble_eq_true rfl)) dX5_tellSecret_30 ⟨Nat.le_of_ble_eq_true rfl, Nat.le_of_ble_eq_true rfl⟩) hP hD hS hA [1, 2] [0, 3, 4, 5] rfl rfl (by decide) (by decide) ?_
  clear hP hD hS
  refine fun u H locs hq hP hD hS => ?_
  replace hP : va_P D vwCl [(h0, .inr (5, [.ref h2, .ref h3, .ref h4, .ref h5, .int wp4000514])), (h5, .inr (8, [.ref h10, .int wp4000517])), (h10, .inl (y 1, 3, .inr (.inl (fun _ => 0)))), (h2, .inr (8, [.ref h12, .int 0])), (h4, .inr (8, [.ref h7, .int wp4000515])), (h7, .inl (y 1, 18, .inr (.inl (vp_updL wf4000516 ((5 : Int32).toNatClampNeg) ((p1 - p1 / 10 * 10).toInt64)))))] H := hP
  replace hD : va_D A [(h0, .inr (5, [.ref h2, .ref h3, .ref h4, .ref h5, .int wp4000514])), (h5, .inr (8, [.ref h10, .int wp4000517])), (h10, .inl (y 1, 3, .inr (.inl (fun _ => 0)))), (h2, .inr (8, [.ref h12, .int 0])), (h4, .inr (8, [.ref h7, .int wp4000515])), (h7, .inl (y 1, 18, .inr (.inl (vp_updL wf4000516 ((5 : Int32).toNatClampNeg) ((p1 - p1 / 10 * 10).toInt64)))))] := hD
  refine lv_iload hx hb dX5_tellSecret_33 (lv_at hl 1 rfl) ?_
  refine lv_bipush (v := 10) hx hb dX5_tellSecret_35 (by decide +kernel) ?_
  refine lv_idiv hx hb dX5_tellSecret_37 (by decide +kernel) ?_
  refine lv_istore (lv' := [(4, .int (p1 / 10)), (5, .int 5), (0, .ref h0), (1, .int 0), (2, .int p1), (3, .int 6)]) hx hb dX5_tellSecret_38 hl (by decide) rfl ?_
  clear hl
  clear ls
  intro ls hl
  refine lv_iinc (v := 4) (lv' := [(5, .int 4), (4, .int (p1 / 10)), (0, .ref h0), (1, .int 0), (2, .int p1), (3, .int 6)]) hx hb dX5_tellSecret_40 hl (k := 1) rfl (by decide +kernel) (by decide) rfl ?_
  clear hl
  clear ls
  intro ls hl
  refine lv_goto (tgt := 8) hx hb dX5_tellSecret_43 (by decide) ?_
  refine lv_iload hx hb dX5_tellSecret_8 (lv_at hl 0 rfl) ?_
  refine lv_if_lt (tgt := 46) hx hb dX5_tellSecret_10 (by decide) (fun c9 => absurd c9 (by decide +kernel)) (fun _ => ?_)
  refine lv_aload_n hx hb dX5_tellSecret_13 rfl (lv_at hl 2 rfl) ?_
  refine gm_get (D := D) (ci := 5) (v := .ref h4) (C := RX5) (T := TX5) (N := 5) hx hb hg inlX5 hown hK.1 hP 0 rfl rfl 2 (by decide) tX5_2 (hg _ gw_140) rfl dX5_tellSecret_14 ?_
  refine lv_iload_n hx hb dX5_tellSecret_17 rfl (lv_at hl 3 rfl) ?_
  refine lv_bipush (v := 6) hx hb dX5_tellSecret_18 (by decide +kernel) ?_
  refine lv_imul hx hb dX5_tellSecret_20 ?_
  refine g_fi (v := 0) (by decide +kernel) ?_
  refine lv_iload hx hb dX5_tellSecret_21 (lv_at hl 0 rfl) ?_
  refine lv_iadd hx hb dX5_tellSecret_23 ?_
  refine g_fi (v := 4) (by decide +kernel) ?_
  refine lv_iload hx hb dX5_tellSecret_24 (lv_at hl 1 rfl) ?_
  refine lv_bipush (v := 10) hx hb dX5_tellSecret_26 (by decide +kernel) ?_
  refine lv_irem hx hb dX5_tellSecret_28 (by decide +kernel) ?_
  refine lv_i2l (v := (((p1 / 10) - (p1 / 10) / 10 * 10).toInt64)) hx hb dX5_tellSecret_29 rfl ?_
  refine g_av (wr := [(h0, .inr (5, [.ref h2, .ref h3, .ref h4, .ref h5, .int wp4000514])), (h5, .inr (8, [.ref h10, .int wp4000517])), (h10, .inl (y 1, 3, .inr (.inl (fun _ => 0)))), (h2, .inr (8, [.ref h12, .int 0]))]) (va_runV (As := [.int 4, .long (((p1 / 10) - (p1 / 10) / 10 * 10).toInt64)]) (rest := []) ⟨hx, hb, hml, hown, hg⟩ (k_X8_set_39 l D y aS H.size h4 (((p1 / 10) - (p1 / 10) / 10 * 10).toInt64) h7 wp4000515 (vp_updL wf4000516 ((5 : Int32).toNatClampNeg) ((p1 - p1 / 10 * 10).toInt64))) (cwV 2 hg ggV_RX5_29_X8_set rfl rfl rfl (by decide +kernel) ⟨Nat.le_of_ble_eq_true rfl, Nat.le_of_ble_eq_true rfl⟩) (g_preV (q := (RX8, TX8, 2)) hK hP hD [4, 5] rfl (by decide) (ci := 8) (q0 := 4) rfl rfl) rfl rfl hl.1 rfl (lv_room (Nat.le_of_ble_eq_true rfl)) dX5_tellSecret_30 ⟨Nat.le_of_ble_eq_true rfl, Nat.le_of_ble_eq_true rfl⟩) hP hD hS hA [4, 5] [0, 1, 2, 3] rfl rfl (by decide) (by decide) ?_
  clear hP hD hS H locs
  refine fun u H locs hq hP hD hS => ?_
  replace hP : va_P D vwCl [(h0, .inr (5, [.ref h2, .ref h3, .ref h4, .ref h5, .int wp4000514])), (h5, .inr (8, [.ref h10, .int wp4000517])), (h10, .inl (y 1, 3, .inr (.inl (fun _ => 0)))), (h2, .inr (8, [.ref h12, .int 0])), (h4, .inr (8, [.ref h7, .int wp4000515])), (h7, .inl (y 1, 18, .inr (.inl (vp_updL (vp_updL wf4000516 ((5 : Int32).toNatClampNeg) ((p1 - p1 / 10 * 10).toInt64)) ((4 : Int32).toNatClampNeg) (((p1 / 10) - (p1 / 10) / 10 * 10).toInt64)))))] H := hP
  replace hD : va_D A [(h0, .inr (5, [.ref h2, .ref h3, .ref h4, .ref h5, .int wp4000514])), (h5, .inr (8, [.ref h10, .int wp4000517])), (h10, .inl (y 1, 3, .inr (.inl (fun _ => 0)))), (h2, .inr (8, [.ref h12, .int 0])), (h4, .inr (8, [.ref h7, .int wp4000515])), (h7, .inl (y 1, 18, .inr (.inl (vp_updL (vp_updL wf4000516 ((5 : Int32).toNatClampNeg) ((p1 - p1 / 10 * 10).toInt64)) ((4 : Int32).toNatClampNeg) (((p1 / 10) - (p1 / 10) / 10 * 10).toInt64)))))] := hD
  refine lv_iload hx hb dX5_tellSecret_33 (lv_at hl 1 rfl) ?_
  refine lv_bipush (v := 10) hx hb dX5_tellSecret_35 (by decide +kernel) ?_
  refine lv_idiv hx hb dX5_tellSecret_37 (by decide +kernel) ?_
  refine lv_istore (lv' := [(4, .int ((p1 / 10) / 10)), (5, .int 4), (0, .ref h0), (1, .int 0), (2, .int p1), (3, .int 6)]) hx hb dX5_tellSecret_38 hl (by decide) rfl ?_
  clear hl
  clear ls
  intro ls hl
  refine lv_iinc (v := 3) (lv' := [(5, .int 3), (4, .int ((p1 / 10) / 10)), (0, .ref h0), (1, .int 0), (2, .int p1), (3, .int 6)]) hx hb dX5_tellSecret_40 hl (k := 1) rfl (by decide +kernel) (by decide) rfl ?_
  clear hl
  clear ls
  intro ls hl
  refine lv_goto (tgt := 8) hx hb dX5_tellSecret_43 (by decide) ?_
  refine lv_iload hx hb dX5_tellSecret_8 (lv_at hl 0 rfl) ?_
  refine lv_if_lt (tgt := 46) hx hb dX5_tellSecret_10 (by decide) (fun c9 => absurd c9 (by decide +kernel)) (fun _ => ?_)
  refine lv_aload_n hx hb dX5_tellSecret_13 rfl (lv_at hl 2 rfl) ?_
  refine gm_get (D := D) (ci := 5) (v := .ref h4) (C := RX5) (T := TX5) (N := 5) hx hb hg inlX5 hown hK.1 hP 0 rfl rfl 2 (by decide) tX5_2 (hg _ gw_140) rfl dX5_tellSecret_14 ?_
  refine lv_iload_n hx hb dX5_tellSecret_17 rfl (lv_at hl 3 rfl) ?_
  refine lv_bipush (v := 6) hx hb dX5_tellSecret_18 (by decide +kernel) ?_
  refine lv_imul hx hb dX5_tellSecret_20 ?_
  refine g_fi (v := 0) (by decide +kernel) ?_
  refine lv_iload hx hb dX5_tellSecret_21 (lv_at hl 0 rfl) ?_
  refine lv_iadd hx hb dX5_tellSecret_23 ?_
  refine g_fi (v := 3) (by decide +kernel) ?_
  refine lv_iload hx hb dX5_tellSecret_24 (lv_at hl 1 rfl) ?_
  refine lv_bipush (v := 10) hx hb dX5_tellSecret_26 (by decide +kernel) ?_
  refine lv_irem hx hb dX5_tellSecret_28 (by decide +kernel) ?_
  refine lv_i2l (v := ((((p1 / 10) / 10) - ((p1 / 10) / 10) / 10 * 10).toInt64)) hx hb dX5_tellSecret_29 rfl ?_
  refine g_av (wr := [(h0, .inr (5, [.ref h2, .ref h3, .ref h4, .ref h5, .int wp4000514])), (h5, .inr (8, [.ref h10, .int wp4000517])), (h10, .inl (y 1, 3, .inr (.inl (fun _ => 0)))), (h2, .inr (8, [.ref h12, .int 0]))]) (va_runV (As := [.int 3, .long ((((p1 / 10) / 10) - ((p1 / 10) / 10) / 10 * 10).toInt64)]) (rest := []) ⟨hx, hb, hml, hown, hg⟩ (k_X8_set_36 l D y aS H.size h4 ((((p1 / 10) / 10) - ((p1 / 10) / 10) / 10 * 10).toInt64) h7 wp4000515 (vp_updL (vp_updL wf4000516 ((5 : Int32).toNatClampNeg) ((p1 - p1 / 10 * 10).toInt64)) ((4 : Int32).toNatClampNeg) (((p1 / 10) - (p1 / 10) / 10 * 10).toInt64))) (cwV 2 hg ggV_RX5_29_X8_set rfl rfl rfl (by decide +kernel) ⟨Nat.le_of_ble_eq_true rfl, Nat.le_of_ble_eq_true rfl⟩) (g_preV (q := (RX8, TX8, 2)) hK hP hD [4, 5] rfl (by decide) (ci := 8) (q0 := 4) rfl rfl) rfl rfl hl.1 rfl (lv_room (Nat.le_of_ble_eq_true rfl)) dX5_tellSecret_30 ⟨Nat.le_of_ble_eq_true rfl, Nat.le_of_ble_eq_true rfl⟩) hP hD hS hA [4, 5] [0, 1, 2, 3] rfl rfl (by decide) (by decide) ?_
  clear hP hD hS H locs
  refine fun u H locs hq hP hD hS => ?_
  replace hP : va_P D vwCl [(h0, .inr (5, [.ref h2, .ref h3, .ref h4, .ref h5, .int wp4000514])), (h5, .inr (8, [.ref h10, .int wp4000517])), (h10, .inl (y 1, 3, .inr (.inl (fun _ => 0)))), (h2, .inr (8, [.ref h12, .int 0])), (h4, .inr (8, [.ref h7, .int wp4000515])), (h7, .inl (y 1, 18, .inr (.inl (vp_updL (vp_updL (vp_updL wf4000516 ((5 : Int32).toNatClampNeg) ((p1 - p1 / 10 * 10).toInt64)) ((4 : Int32).toNatClampNeg) (((p1 / 10) - (p1 / 10) / 10 * 10).toInt64)) ((3 : Int32).toNatClampNeg) ((((p1 / 10) / 10) - ((p1 / 10) / 10) / 10 * 10).toInt64)))))] H := hP
  replace hD : va_D A [(h0, .inr (5, [.ref h2, .ref h3, .ref h4, .ref h5, .int wp4000514])), (h5, .inr (8, [.ref h10, .int wp4000517])), (h10, .inl (y 1, 3, .inr (.inl (fun _ => 0)))), (h2, .inr (8, [.ref h12, .int 0])), (h4, .inr (8, [.ref h7, .int wp4000515])), (h7, .inl (y 1, 18, .inr (.inl (vp_updL (vp_updL (vp_updL wf4000516 ((5 : Int32).toNatClampNeg) ((p1 - p1 / 10 * 10).toInt64)) ((4 : Int32).toNatClampNeg) (((p1 / 10) - (p1 / 10) / 10 * 10).toInt64)) ((3 : Int32).toNatClampNeg) ((((p1 / 10) / 10) - ((p1 / 10) / 10) / 10 * 10).toInt64)))))] := hD
  refine lv_iload hx hb dX5_tellSecret_33 (lv_at hl 1 rfl) ?_
  refine lv_bipush (v := 10) hx hb dX5_tellSecret_35 (by decide +kernel) ?_
  refine lv_idiv hx hb dX5_tellSecret_37 (by decide +kernel) ?_
  refine lv_istore (lv' := [(4, .int (((p1 / 10) / 10) / 10)), (5, .int 3), (0, .ref h0), (1, .int 0), (2, .int p1), (3, .int 6)]) hx hb dX5_tellSecret_38 hl (by decide) rfl ?_
  clear hl
  clear ls
  intro ls hl
  refine lv_iinc (v := 2) (lv' := [(5, .int 2), (4, .int (((p1 / 10) / 10) / 10)), (0, .ref h0), (1, .int 0), (2, .int p1), (3, .int 6)]) hx hb dX5_tellSecret_40 hl (k := 1) rfl (by decide +kernel) (by decide) rfl ?_
  clear hl
  clear ls
  intro ls hl
  refine lv_goto (tgt := 8) hx hb dX5_tellSecret_43 (by decide) ?_
  refine lv_iload hx hb dX5_tellSecret_8 (lv_at hl 0 rfl) ?_
  refine lv_if_lt (tgt := 46) hx hb dX5_tellSecret_10 (by decide) (fun c9 => absurd c9 (by decide +kernel)) (fun _ => ?_)
  refine lv_aload_n hx hb dX5_tellSecret_13 rfl (lv_at hl 2 rfl) ?_
  refine gm_get (D := D) (ci := 5) (v := .ref h4) (C := RX5) (T := TX5) (N := 5) hx hb hg inlX5 hown hK.1 hP 0 rfl rfl 2 (by decide) tX5_2 (hg _ gw_140) rfl dX5_tellSecret_14 ?_
  refine lv_iload_n hx hb dX5_tellSecret_17 rfl (lv_at hl 3 rfl) ?_
  refine lv_bipush (v := 6) hx hb dX5_tellSecret_18 (by decide +kernel) ?_
  refine lv_imul hx hb dX5_tellSecret_20 ?_
  refine g_fi (v := 0) (by decide +kernel) ?_
  refine lv_iload hx hb dX5_tellSecret_21 (lv_at hl 0 rfl) ?_
  refine lv_iadd hx hb dX5_tellSecret_23 ?_
  refine g_fi (v := 2) (by decide +kernel) ?_
  refine lv_iload hx hb dX5_tellSecret_24 (lv_at hl 1 rfl) ?_
  refine lv_bipush (v := 10) hx hb dX5_tellSecret_26 (by decide +kernel) ?_
  refine lv_irem hx hb dX5_tellSecret_28 (by decide +kernel) ?_
  refine lv_i2l (v := (((((p1 / 10) / 10) / 10) - (((p1 / 10) / 10) / 10) / 10 * 10).toInt64)) hx hb dX5_tellSecret_29 rfl ?_
  refine g_av (wr := [(h0, .inr (5, [.ref h2, .ref h3, .ref h4, .ref h5, .int wp4000514])), (h5, .inr (8, [.ref h10, .int wp4000517])), (h10, .inl (y 1, 3, .inr (.inl (fun _ => 0)))), (h2, .inr (8, [.ref h12, .int 0]))]) (va_runV (As := [.int 2, .long (((((p1 / 10) / 10) / 10) - (((p1 / 10) / 10) / 10) / 10 * 10).toInt64)]) (rest := []) ⟨hx, hb, hml, hown, hg⟩ (k_X8_set_33 l D y aS H.size h4 (((((p1 / 10) / 10) / 10) - (((p1 / 10) / 10) / 10) / 10 * 10).toInt64) h7 wp4000515 (vp_updL (vp_updL (vp_updL wf4000516 ((5 : Int32).toNatClampNeg) ((p1 - p1 / 10 * 10).toInt64)) ((4 : Int32).toNatClampNeg) (((p1 / 10) - (p1 / 10) / 10 * 10).toInt64)) ((3 : Int32).toNatClampNeg) ((((p1 / 10) / 10) - ((p1 / 10) / 10) / 10 * 10).toInt64))) (cwV 2 hg ggV_RX5_29_X8_set rfl rfl rfl (by decide +kernel) ⟨Nat.le_of_ble_eq_true rfl, Nat.le_of_ble_eq_true rfl⟩) (g_preV (q := (RX8, TX8, 2)) hK hP hD [4, 5] rfl (by decide) (ci := 8) (q0 := 4) rfl rfl) rfl rfl hl.1 rfl (lv_room (Nat.le_of_ble_eq_true rfl)) dX5_tellSecret_30 ⟨Nat.le_of_ble_eq_true rfl, Nat.le_of_ble_eq_true rfl⟩) hP hD hS hA [4, 5] [0, 1, 2, 3] rfl rfl (by decide) (by decide) ?_
  clear hP hD hS H locs
  refine fun u H locs hq hP hD hS => ?_
  replace hP : va_P D vwCl [(h0, .inr (5, [.ref h2, .ref h3, .ref h4, .ref h5, .int wp4000514])), (h5, .inr (8, [.ref h10, .int wp4000517])), (h10, .inl (y 1, 3, .inr (.inl (fun _ => 0)))), (h2, .inr (8, [.ref h12, .int 0])), (h4, .inr (8, [.ref h7, .int wp4000515])), (h7, .inl (y 1, 18, .inr (.inl (vp_updL (vp_updL (vp_updL (vp_updL wf4000516 ((5 : Int32).toNatClampNeg) ((p1 - p1 / 10 * 10).toInt64)) ((4 : Int32).toNatClampNeg) (((p1 / 10) - (p1 / 10) / 10 * 10).toInt64)) ((3 : Int32).toNatClampNeg) ((((p1 / 10) / 10) - ((p1 / 10) / 10) / 10 * 10).toInt64)) ((2 : Int32).toNatClampNeg) (((((p1 / 10) / 10) / 10) - (((p1 / 10) / 10) / 10) / 10 * 10).toInt64)))))] H := hP
  replace hD : va_D A [(h0, .inr (5, [.ref h2, .ref h3, .ref h4, .ref h5, .int wp4000514])), (h5, .inr (8, [.ref h10, .int wp4000517])), (h10, .inl (y 1, 3, .inr (.inl (fun _ => 0)))), (h2, .inr (8, [.ref h12, .int 0])), (h4, .inr (8, [.ref h7, .int wp4000515])), (h7, .inl (y 1, 18, .inr (.inl (vp_updL (vp_updL (vp_updL (vp_updL wf4000516 ((5 : Int32).toNatClampNeg) ((p1 - p1 / 10 * 10).toInt64)) ((4 : Int32).toNatClampNeg) (((p1 / 10) - (p1 / 10) / 10 * 10).toInt64)) ((3 : Int32).toNatClampNeg) ((((p1 / 10) / 10) - ((p1 / 10) / 10) / 10 * 10).toInt64)) ((2 : Int32).toNatClampNeg) (((((p1 / 10) / 10) / 10) - (((p1 / 10) / 10) / 10) / 10 * 10).toInt64)))))] := hD
  refine lv_iload hx hb dX5_tellSecret_33 (lv_at hl 1 rfl) ?_
  refine lv_bipush (v := 10) hx hb dX5_tellSecret_35 (by decide +kernel) ?_
  refine lv_idiv hx hb dX5_tellSecret_37 (by decide +kernel) ?_
  refine lv_istore (lv' := [(4, .int ((((p1 / 10) / 10) / 10) / 10)), (5, .int 2), (0, .ref h0), (1, .int 0), (2, .int p1), (3, .int 6)]) hx hb dX5_tellSecret_38 hl (by decide) rfl ?_
  clear hl
  clear ls
  intro ls hl
  refine lv_iinc (v := 1) (lv' := [(5, .int 1), (4, .int ((((p1 / 10) / 10) / 10) / 10)), (0, .ref h0), (1, .int 0), (2, .int p1), (3, .int 6)]) hx hb dX5_tellSecret_40 hl (k := 1) rfl (by decide +kernel) (by decide) rfl ?_
  clear hl
  clear ls
  intro ls hl
  refine lv_goto (tgt := 8) hx hb dX5_tellSecret_43 (by decide) ?_
  refine lv_iload hx hb dX5_tellSecret_8 (lv_at hl 0 rfl) ?_
  refine lv_if_lt (tgt := 46) hx hb dX5_tellSecret_10 (by decide) (fun c9 => absurd c9 (by decide +kernel)) (fun _ => ?_)
  refine lv_aload_n hx hb dX5_tellSecret_13 rfl (lv_at hl 2 rfl) ?_
  refine gm_get (D := D) (ci := 5) (v := .ref h4) (C := RX5) (T := TX5) (N := 5) hx hb hg inlX5 hown hK.1 hP 0 rfl rfl 2 (by decide) tX5_2 (hg _ gw_140) rfl dX5_tellSecret_14 ?_
  refine lv_iload_n hx hb dX5_tellSecret_17 rfl (lv_at hl 3 rfl) ?_
  refine lv_bipush (v := 6) hx hb dX5_tellSecret_18 (by decide +kernel) ?_
  refine lv_imul hx hb dX5_tellSecret_20 ?_
  refine g_fi (v := 0) (by decide +kernel) ?_
  refine lv_iload hx hb dX5_tellSecret_21 (lv_at hl 0 rfl) ?_
  refine lv_iadd hx hb dX5_tellSecret_23 ?_
  refine g_fi (v := 1) (by decide +kernel) ?_
  refine lv_iload hx hb dX5_tellSecret_24 (lv_at hl 1 rfl) ?_
  refine lv_bipush (v := 10) hx hb dX5_tellSecret_26 (by decide +kernel) ?_
  refine lv_irem hx hb dX5_tellSecret_28 (by decide +kernel) ?_
  refine lv_i2l (v := ((((((p1 / 10) / 10) / 10) / 10) - ((((p1 / 10) / 10) / 10) / 10) / 10 * 10).toInt64)) hx hb dX5_tellSecret_29 rfl ?_
  refine g_av (wr := [(h0, .inr (5, [.ref h2, .ref h3, .ref h4, .ref h5, .int wp4000514])), (h5, .inr (8, [.ref h10, .int wp4000517])), (h10, .inl (y 1, 3, .inr (.inl (fun _ => 0)))), (h2, .inr (8, [.ref h12, .int 0]))]) (va_runV (As := [.int 1, .long ((((((p1 / 10) / 10) / 10) / 10) - ((((p1 / 10) / 10) / 10) / 10) / 10 * 10).toInt64)]) (rest := []) ⟨hx, hb, hml, hown, hg⟩ (k_X8_set_27 l D y aS H.size h4 ((((((p1 / 10) / 10) / 10) / 10) - ((((p1 / 10) / 10) / 10) / 10) / 10 * 10).toInt64) h7 wp4000515 (vp_updL (vp_updL (vp_updL (vp_updL wf4000516 ((5 : Int32).toNatClampNeg) ((p1 - p1 / 10 * 10).toInt64)) ((4 : Int32).toNatClampNeg) (((p1 / 10) - (p1 / 10) / 10 * 10).toInt64)) ((3 : Int32).toNatClampNeg) ((((p1 / 10) / 10) - ((p1 / 10) / 10) / 10 * 10).toInt64)) ((2 : Int32).toNatClampNeg) (((((p1 / 10) / 10) / 10) - (((p1 / 10) / 10) / 10) / 10 * 10).toInt64))) (cwV 2 hg ggV_RX5_29_X8_set rfl rfl rfl (by decide +kernel) ⟨Nat.le_of_ble_eq_true rfl, Nat.le_of_ble_eq_true rfl⟩) (g_preV (q := (RX8, TX8, 2)) hK hP hD [4, 5] rfl (by decide) (ci := 8) (q0 := 4) rfl rfl) rfl rfl hl.1 rfl (lv_room (Nat.le_of_ble_eq_true rfl)) dX5_tellSecret_30 ⟨Nat.le_of_ble_eq_true rfl, Nat.le_of_ble_eq_true rfl⟩) hP hD hS hA [4, 5] [0, 1, 2, 3] rfl rfl (by decide) (by decide) ?_
  clear hP hD hS H locs
  refine fun u H locs hq hP hD hS => ?_
  replace hP : va_P D vwCl [(h0, .inr (5, [.ref h2, .ref h3, .ref h4, .ref h5, .int wp4000514])), (h5, .inr (8, [.ref h10, .int wp4000517])), (h10, .inl (y 1, 3, .inr (.inl (fun _ => 0)))), (h2, .inr (8, [.ref h12, .int 0])), (h4, .inr (8, [.ref h7, .int wp4000515])), (h7, .inl (y 1, 18, .inr (.inl (vp_updL (vp_updL (vp_updL (vp_updL (vp_updL wf4000516 ((5 : Int32).toNatClampNeg) ((p1 - p1 / 10 * 10).toInt64)) ((4 : Int32).toNatClampNeg) (((p1 / 10) - (p1 / 10) / 10 * 10).toInt64)) ((3 : Int32).toNatClampNeg) ((((p1 / 10) / 10) - ((p1 / 10) / 10) / 10 * 10).toInt64)) ((2 : Int32).toNatClampNeg) (((((p1 / 10) / 10) / 10) - (((p1 / 10) / 10) / 10) / 10 * 10).toInt64)) ((1 : Int32).toNatClampNeg) ((((((p1 / 10) / 10) / 10) / 10) - ((((p1 / 10) / 10) / 10) / 10) / 10 * 10).toInt64)))))] H := hP
  replace hD : va_D A [(h0, .inr (5, [.ref h2, .ref h3, .ref h4, .ref h5, .int wp4000514])), (h5, .inr (8, [.ref h10, .int wp4000517])), (h10, .inl (y 1, 3, .inr (.inl (fun _ => 0)))), (h2, .inr (8, [.ref h12, .int 0])), (h4, .inr (8, [.ref h7, .int wp4000515])), (h7, .inl (y 1, 18, .inr (.inl (vp_updL (vp_updL (vp_updL (vp_updL (vp_updL wf4000516 ((5 : Int32).toNatClampNeg) ((p1 - p1 / 10 * 10).toInt64)) ((4 : Int32).toNatClampNeg) (((p1 / 10) - (p1 / 10) / 10 * 10).toInt64)) ((3 : Int32).toNatClampNeg) ((((p1 / 10) / 10) - ((p1 / 10) / 10) / 10 * 10).toInt64)) ((2 : Int32).toNatClampNeg) (((((p1 / 10) / 10) / 10) - (((p1 / 10) / 10) / 10) / 10 * 10).toInt64)) ((1 : Int32).toNatClampNeg) ((((((p1 / 10) / 10) / 10) / 10) - ((((p1 / 10) / 10) / 10) / 10) / 10 * 10).toInt64)))))] := hD
  refine lv_iload hx hb dX5_tellSecret_33 (lv_at hl 1 rfl) ?_
  refine lv_bipush (v := 10) hx hb dX5_tellSecret_35 (by decide +kernel) ?_
  refine lv_idiv hx hb dX5_tellSecret_37 (by decide +kernel) ?_
  refine lv_istore (lv' := [(4, .int (((((p1 / 10) / 10) / 10) / 10) / 10)), (5, .int 1), (0, .ref h0), (1, .int 0), (2, .int p1), (3, .int 6)]) hx hb dX5_tellSecret_38 hl (by decide) rfl ?_
  clear hl
  clear ls
  intro ls hl
  refine lv_iinc (v := 0) (lv' := [(5, .int 0), (4, .int (((((p1 / 10) / 10) / 10) / 10) / 10)), (0, .ref h0), (1, .int 0), (2, .int p1), (3, .int 6)]) hx hb dX5_tellSecret_40 hl (k := 1) rfl (by decide +kernel) (by decide) rfl ?_
  clear hl
  clear ls
  intro ls hl
  refine lv_goto (tgt := 8) hx hb dX5_tellSecret_43 (by decide) ?_
  refine lv_iload hx hb dX5_tellSecret_8 (lv_at hl 0 rfl) ?_
  refine lv_if_lt (tgt := 46) hx hb dX5_tellSecret_10 (by decide) (fun c9 => absurd c9 (by decide +kernel)) (fun _ => ?_)
  refine lv_aload_n hx hb dX5_tellSecret_13 rfl (lv_at hl 2 rfl) ?_
  refine gm_get (D := D) (ci := 5) (v := .ref h4) (C := RX5) (T := TX5) (N := 5) hx hb hg inlX5 hown hK.1 hP 0 rfl rfl 2 (by decide) tX5_2 (hg _ gw_140) rfl dX5_tellSecret_14 ?_
  refine lv_iload_n hx hb dX5_tellSecret_17 rfl (lv_at hl 3 rfl) ?_
  refine lv_bipush (v := 6) hx hb dX5_tellSecret_18 (by decide +kernel) ?_
  refine lv_imul hx hb dX5_tellSecret_20 ?_
  refine g_fi (v := 0) (by decide +kernel) ?_
  refine lv_iload hx hb dX5_tellSecret_21 (lv_at hl 0 rfl) ?_
  refine lv_iadd hx hb dX5_tellSecret_23 ?_
  refine g_fi (v := 0) (by decide +kernel) ?_
  refine lv_iload hx hb dX5_tellSecret_24 (lv_at hl 1 rfl) ?_
  refine lv_bipush (v := 10) hx hb dX5_tellSecret_26 (by decide +kernel) ?_
  refine lv_irem hx hb dX5_tellSecret_28 (by decide +kernel) ?_
  refine lv_i2l (v := (((((((p1 / 10) / 10) / 10) / 10) / 10) - (((((p1 / 10) / 10) / 10) / 10) / 10) / 10 * 10).toInt64)) hx hb dX5_tellSecret_29 rfl ?_
  refine g_av (wr := [(h0, .inr (5, [.ref h2, .ref h3, .ref h4, .ref h5, .int wp4000514])), (h5, .inr (8, [.ref h10, .int wp4000517])), (h10, .inl (y 1, 3, .inr (.inl (fun _ => 0)))), (h2, .inr (8, [.ref h12, .int 0]))]) (va_runV (As := [.int 0, .long (((((((p1 / 10) / 10) / 10) / 10) / 10) - (((((p1 / 10) / 10) / 10) / 10) / 10) / 10 * 10).toInt64)]) (rest := []) ⟨hx, hb, hml, hown, hg⟩ (k_X8_set_28 l D y aS H.size h4 (((((((p1 / 10) / 10) / 10) / 10) / 10) - (((((p1 / 10) / 10) / 10) / 10) / 10) / 10 * 10).toInt64) h7 wp4000515 (vp_updL (vp_updL (vp_updL (vp_updL (vp_updL wf4000516 ((5 : Int32).toNatClampNeg) ((p1 - p1 / 10 * 10).toInt64)) ((4 : Int32).toNatClampNeg) (((p1 / 10) - (p1 / 10) / 10 * 10).toInt64)) ((3 : Int32).toNatClampNeg) ((((p1 / 10) / 10) - ((p1 / 10) / 10) / 10 * 10).toInt64)) ((2 : Int32).toNatClampNeg) (((((p1 / 10) / 10) / 10) - (((p1 / 10) / 10) / 10) / 10 * 10).toInt64)) ((1 : Int32).toNatClampNeg) ((((((p1 / 10) / 10) / 10) / 10) - ((((p1 / 10) / 10) / 10) / 10) / 10 * 10).toInt64))) (cwV 2 hg ggV_RX5_29_X8_set rfl rfl rfl (by decide +kernel) ⟨Nat.le_of_ble_eq_true rfl, Nat.le_of_ble_eq_true rfl⟩) (g_preV (q := (RX8, TX8, 2)) hK hP hD [4, 5] rfl (by decide) (ci := 8) (q0 := 4) rfl rfl) rfl rfl hl.1 rfl (lv_room (Nat.le_of_ble_eq_true rfl)) dX5_tellSecret_30 ⟨Nat.le_of_ble_eq_true rfl, Nat.le_of_ble_eq_true rfl⟩) hP hD hS hA [4, 5] [0, 1, 2, 3] rfl rfl (by decide) (by decide) ?_
  clear hP hD hS H locs
  refine fun u H locs hq hP hD hS => ?_
  replace hP : va_P D vwCl [(h0, .inr (5, [.ref h2, .ref h3, .ref h4, .ref h5, .int wp4000514])), (h5, .inr (8, [.ref h10, .int wp4000517])), (h10, .inl (y 1, 3, .inr (.inl (fun _ => 0)))), (h2, .inr (8, [.ref h12, .int 0])), (h4, .inr (8, [.ref h7, .int wp4000515])), (h7, .inl (y 1, 18, .inr (.inl (vp_updL (vp_updL (vp_updL (vp_updL (vp_updL (vp_updL wf4000516 ((5 : Int32).toNatClampNeg) ((p1 - p1 / 10 * 10).toInt64)) ((4 : Int32).toNatClampNeg) (((p1 / 10) - (p1 / 10) / 10 * 10).toInt64)) ((3 : Int32).toNatClampNeg) ((((p1 / 10) / 10) - ((p1 / 10) / 10) / 10 * 10).toInt64)) ((2 : Int32).toNatClampNeg) (((((p1 / 10) / 10) / 10) - (((p1 / 10) / 10) / 10) / 10 * 10).toInt64)) ((1 : Int32).toNatClampNeg) ((((((p1 / 10) / 10) / 10) / 10) - ((((p1 / 10) / 10) / 10) / 10) / 10 * 10).toInt64)) ((0 : Int32).toNatClampNeg) (((((((p1 / 10) / 10) / 10) / 10) / 10) - (((((p1 / 10) / 10) / 10) / 10) / 10) / 10 * 10).toInt64)))))] H := hP
  replace hD : va_D A [(h0, .inr (5, [.ref h2, .ref h3, .ref h4, .ref h5, .int wp4000514])), (h5, .inr (8, [.ref h10, .int wp4000517])), (h10, .inl (y 1, 3, .inr (.inl (fun _ => 0)))), (h2, .inr (8, [.ref h12, .int 0])), (h4, .inr (8, [.ref h7, .int wp4000515])), (h7, .inl (y 1, 18, .inr (.inl (vp_updL (vp_updL (vp_updL (vp_updL (vp_updL (vp_updL wf4000516 ((5 : Int32).toNatClampNeg) ((p1 - p1 / 10 * 10).toInt64)) ((4 : Int32).toNatClampNeg) (((p1 / 10) - (p1 / 10) / 10 * 10).toInt64)) ((3 : Int32).toNatClampNeg) ((((p1 / 10) / 10) - ((p1 / 10) / 10) / 10 * 10).toInt64)) ((2 : Int32).toNatClampNeg) (((((p1 / 10) / 10) / 10) - (((p1 / 10) / 10) / 10) / 10 * 10).toInt64)) ((1 : Int32).toNatClampNeg) ((((((p1 / 10) / 10) / 10) / 10) - ((((p1 / 10) / 10) / 10) / 10) / 10 * 10).toInt64)) ((0 : Int32).toNatClampNeg) (((((((p1 / 10) / 10) / 10) / 10) / 10) - (((((p1 / 10) / 10) / 10) / 10) / 10) / 10 * 10).toInt64)))))] := hD
  refine lv_iload hx hb dX5_tellSecret_33 (lv_at hl 1 rfl) ?_
  refine lv_bipush (v := 10) hx hb dX5_tellSecret_35 (by decide +kernel) ?_
  refine lv_idiv hx hb dX5_tellSecret_37 (by decide +kernel) ?_
  refine lv_istore (lv' := [(4, .int ((((((p1 / 10) / 10) / 10) / 10) / 10) / 10)), (5, .int 0), (0, .ref h0), (1, .int 0), (2, .int p1), (3, .int 6)]) hx hb dX5_tellSecret_38 hl (by decide) rfl ?_
  clear hl
  clear ls
  intro ls hl
  refine lv_iinc (v := (-1)) (lv' := [(5, .int (-1)), (4, .int ((((((p1 / 10) / 10) / 10) / 10) / 10) / 10)), (0, .ref h0), (1, .int 0), (2, .int p1), (3, .int 6)]) hx hb dX5_tellSecret_40 hl (k := 1) rfl (by decide +kernel) (by decide) rfl ?_
  clear hl
  clear ls
  intro ls hl
  refine lv_goto (tgt := 8) hx hb dX5_tellSecret_43 (by decide) ?_
  refine lv_iload hx hb dX5_tellSecret_8 (lv_at hl 0 rfl) ?_
  refine lv_if_lt (tgt := 46) hx hb dX5_tellSecret_10 (by decide) (fun _ => ?_) (fun c9 => absurd c9 (by decide +kernel))
  refine lv_aload_n hx hb dX5_tellSecret_46 rfl (lv_at hl 2 rfl) ?_
  refine gm_get (D := D) (ci := 5) (v := .ref h5) (C := RX5) (T := TX5) (N := 5) hx hb hg inlX5 hown hK.1 hP 0 rfl rfl 3 (by decide) tX5_3 (hg _ gw_141) rfl dX5_tellSecret_47 ?_
  refine lv_iload_n hx hb dX5_tellSecret_50 rfl (lv_at hl 3 rfl) ?_
  refine lv_iload_n hx hb dX5_tellSecret_51 rfl (lv_at hl 5 rfl) ?_
  refine lv_i2l (v := 6) hx hb dX5_tellSecret_52 (by decide +kernel) ?_
  refine g_av (wr := [(h0, .inr (5, [.ref h2, .ref h3, .ref h4, .ref h5, .int wp4000514])), (h2, .inr (8, [.ref h12, .int 0])), (h4, .inr (8, [.ref h7, .int wp4000515])), (h7, .inl (y 1, 18, .inr (.inl (vp_updL (vp_updL (vp_updL (vp_updL (vp_updL (vp_updL wf4000516 ((5 : Int32).toNatClampNeg) ((p1 - p1 / 10 * 10).toInt64)) ((4 : Int32).toNatClampNeg) (((p1 / 10) - (p1 / 10) / 10 * 10).toInt64)) ((3 : Int32).toNatClampNeg) ((((p1 / 10) / 10) - ((p1 / 10) / 10) / 10 * 10).toInt64)) ((2 : Int32).toNatClampNeg) (((((p1 / 10) / 10) / 10) - (((p1 / 10) / 10) / 10) / 10 * 10).toInt64)) ((1 : Int32).toNatClampNeg) ((((((p1 / 10) / 10) / 10) / 10) - ((((p1 / 10) / 10) / 10) / 10) / 10 * 10).toInt64)) ((0 : Int32).toNatClampNeg) (((((((p1 / 10) / 10) / 10) / 10) / 10) - (((((p1 / 10) / 10) / 10) / 10) / 10) / 10 * 10).toInt64)))))]) (va_runV (As := [.int 0, .long 6]) (rest := []) ⟨hx, hb, hml, hown, hg⟩ (k_X8_set_24 l D y aS H.size h5 6 h10 wp4000517 (fun _ => 0)) (cwV 2 hg ggV_RX5_29_X8_set rfl rfl rfl (by decide +kernel) ⟨Nat.le_of_ble_eq_true rfl, Nat.le_of_ble_eq_true rfl⟩) (g_preV (q := (RX8, TX8, 2)) hK hP hD [1, 2] rfl (by decide) (ci := 8) (q0 := 1) rfl rfl) rfl rfl hl.1 rfl (lv_room (Nat.le_of_ble_eq_true rfl)) dX5_tellSecret_53 ⟨Nat.le_of_ble_eq_true rfl, Nat.le_of_ble_eq_true rfl⟩) hP hD hS hA [1, 2] [0, 3, 4, 5] rfl rfl (by decide) (by decide) ?_
  clear hP hD hS H locs
  refine fun u H locs hq hP hD hS => ?_
  replace hP : va_P D vwCl [(h0, .inr (5, [.ref h2, .ref h3, .ref h4, .ref h5, .int wp4000514])), (h2, .inr (8, [.ref h12, .int 0])), (h4, .inr (8, [.ref h7, .int wp4000515])), (h7, .inl (y 1, 18, .inr (.inl (vp_updL (vp_updL (vp_updL (vp_updL (vp_updL (vp_updL wf4000516 ((5 : Int32).toNatClampNeg) ((p1 - p1 / 10 * 10).toInt64)) ((4 : Int32).toNatClampNeg) (((p1 / 10) - (p1 / 10) / 10 * 10).toInt64)) ((3 : Int32).toNatClampNeg) ((((p1 / 10) / 10) - ((p1 / 10) / 10) / 10 * 10).toInt64)) ((2 : Int32).toNatClampNeg) (((((p1 / 10) / 10) / 10) - (((p1 / 10) / 10) / 10) / 10 * 10).toInt64)) ((1 : Int32).toNatClampNeg) ((((((p1 / 10) / 10) / 10) / 10) - ((((p1 / 10) / 10) / 10) / 10) / 10 * 10).toInt64)) ((0 : Int32).toNatClampNeg) (((((((p1 / 10) / 10) / 10) / 10) / 10) - (((((p1 / 10) / 10) / 10) / 10) / 10) / 10 * 10).toInt64))))), (h5, .inr (8, [.ref h10, .int wp4000517])), (h10, .inl (y 1, 3, .inr (.inl (vp_updL (fun _ => 0) ((0 : Int32).toNatClampNeg) 6))))] H := hP
  replace hD : va_D A [(h0, .inr (5, [.ref h2, .ref h3, .ref h4, .ref h5, .int wp4000514])), (h2, .inr (8, [.ref h12, .int 0])), (h4, .inr (8, [.ref h7, .int wp4000515])), (h7, .inl (y 1, 18, .inr (.inl (vp_updL (vp_updL (vp_updL (vp_updL (vp_updL (vp_updL wf4000516 ((5 : Int32).toNatClampNeg) ((p1 - p1 / 10 * 10).toInt64)) ((4 : Int32).toNatClampNeg) (((p1 / 10) - (p1 / 10) / 10 * 10).toInt64)) ((3 : Int32).toNatClampNeg) ((((p1 / 10) / 10) - ((p1 / 10) / 10) / 10 * 10).toInt64)) ((2 : Int32).toNatClampNeg) (((((p1 / 10) / 10) / 10) - (((p1 / 10) / 10) / 10) / 10 * 10).toInt64)) ((1 : Int32).toNatClampNeg) ((((((p1 / 10) / 10) / 10) / 10) - ((((p1 / 10) / 10) / 10) / 10) / 10 * 10).toInt64)) ((0 : Int32).toNatClampNeg) (((((((p1 / 10) / 10) / 10) / 10) / 10) - (((((p1 / 10) / 10) / 10) / 10) / 10) / 10 * 10).toInt64))))), (h5, .inr (8, [.ref h10, .int wp4000517])), (h10, .inl (y 1, 3, .inr (.inl (vp_updL (fun _ => 0) ((0 : Int32).toNatClampNeg) 6))))] := hD
  refine lv_aload_n hx hb dX5_tellSecret_56 rfl (lv_at hl 2 rfl) ?_
  refine g_av (wr := [(h4, .inr (8, [.ref h7, .int wp4000515])), (h7, .inl (y 1, 18, .inr (.inl (vp_updL (vp_updL (vp_updL (vp_updL (vp_updL (vp_updL wf4000516 ((5 : Int32).toNatClampNeg) ((p1 - p1 / 10 * 10).toInt64)) ((4 : Int32).toNatClampNeg) (((p1 / 10) - (p1 / 10) / 10 * 10).toInt64)) ((3 : Int32).toNatClampNeg) ((((p1 / 10) / 10) - ((p1 / 10) / 10) / 10 * 10).toInt64)) ((2 : Int32).toNatClampNeg) (((((p1 / 10) / 10) / 10) - (((p1 / 10) / 10) / 10) / 10 * 10).toInt64)) ((1 : Int32).toNatClampNeg) ((((((p1 / 10) / 10) / 10) / 10) - ((((p1 / 10) / 10) / 10) / 10) / 10 * 10).toInt64)) ((0 : Int32).toNatClampNeg) (((((((p1 / 10) / 10) / 10) / 10) / 10) - (((((p1 / 10) / 10) / 10) / 10) / 10) / 10 * 10).toInt64))))), (h5, .inr (8, [.ref h10, .int wp4000517])), (h10, .inl (y 1, 3, .inr (.inl (vp_updL (fun _ => 0) ((0 : Int32).toNatClampNeg) 6))))]) (va_runV (As := []) (rest := []) ⟨hx, hb, hml, hown, hg⟩ (k_X5_findOut_0 l D y aS H.size h0 h2 h3 h4 h5 wp4000514 h12) (cwV 0 hg ggV_RX5_33_X5_findOut rfl rfl rfl (by decide +kernel) ⟨Nat.le_of_ble_eq_true rfl, Nat.le_of_ble_eq_true rfl⟩) (g_preV (q := (RX5, TX5, 5)) hK hP hD [0, 1] rfl (by decide) (ci := 5) (q0 := 0) rfl rfl) rfl rfl hl.1 rfl (lv_room (Nat.le_of_ble_eq_true rfl)) dX5_tellSecret_57 ⟨Nat.le_of_ble_eq_true rfl, Nat.le_of_ble_eq_true rfl⟩) hP hD hS hA [0, 1] [2, 3, 4, 5] rfl rfl (by decide) (by decide) ?_
  clear hP hD hS H locs
  refine fun u H locs hq hP hD hS => ?_
  replace hP : va_P D vwCl [(h4, .inr (8, [.ref h7, .int wp4000515])), (h7, .inl (y 1, 18, .inr (.inl (vp_updL (vp_updL (vp_updL (vp_updL (vp_updL (vp_updL wf4000516 ((5 : Int32).toNatClampNeg) ((p1 - p1 / 10 * 10).toInt64)) ((4 : Int32).toNatClampNeg) (((p1 / 10) - (p1 / 10) / 10 * 10).toInt64)) ((3 : Int32).toNatClampNeg) ((((p1 / 10) / 10) - ((p1 / 10) / 10) / 10 * 10).toInt64)) ((2 : Int32).toNatClampNeg) (((((p1 / 10) / 10) / 10) - (((p1 / 10) / 10) / 10) / 10 * 10).toInt64)) ((1 : Int32).toNatClampNeg) ((((((p1 / 10) / 10) / 10) / 10) - ((((p1 / 10) / 10) / 10) / 10) / 10 * 10).toInt64)) ((0 : Int32).toNatClampNeg) (((((((p1 / 10) / 10) / 10) / 10) / 10) - (((((p1 / 10) / 10) / 10) / 10) / 10) / 10 * 10).toInt64))))), (h5, .inr (8, [.ref h10, .int wp4000517])), (h10, .inl (y 1, 3, .inr (.inl (vp_updL (fun _ => 0) ((0 : Int32).toNatClampNeg) 6)))), (h0, .inr (5, [.ref h2, .ref h3, .ref h4, .ref h5, .int 0])), (h2, .inr (8, [.ref h12, .int 0]))] H := hP
  replace hD : va_D A [(h4, .inr (8, [.ref h7, .int wp4000515])), (h7, .inl (y 1, 18, .inr (.inl (vp_updL (vp_updL (vp_updL (vp_updL (vp_updL (vp_updL wf4000516 ((5 : Int32).toNatClampNeg) ((p1 - p1 / 10 * 10).toInt64)) ((4 : Int32).toNatClampNeg) (((p1 / 10) - (p1 / 10) / 10 * 10).toInt64)) ((3 : Int32).toNatClampNeg) ((((p1 / 10) / 10) - ((p1 / 10) / 10) / 10 * 10).toInt64)) ((2 : Int32).toNatClampNeg) (((((p1 / 10) / 10) / 10) - (((p1 / 10) / 10) / 10) / 10 * 10).toInt64)) ((1 : Int32).toNatClampNeg) ((((((p1 / 10) / 10) / 10) / 10) - ((((p1 / 10) / 10) / 10) / 10) / 10 * 10).toInt64)) ((0 : Int32).toNatClampNeg) (((((((p1 / 10) / 10) / 10) / 10) / 10) - (((((p1 / 10) / 10) / 10) / 10) / 10) / 10 * 10).toInt64))))), (h5, .inr (8, [.ref h10, .int wp4000517])), (h10, .inl (y 1, 3, .inr (.inl (vp_updL (fun _ => 0) ((0 : Int32).toNatClampNeg) 6)))), (h0, .inr (5, [.ref h2, .ref h3, .ref h4, .ref h5, .int 0])), (h2, .inr (8, [.ref h12, .int 0]))] := hD
  refine lv_iconst (v := 0) hx hb dX5_tellSecret_60 (by decide) ?_
  refine lv_istore (lv' := [(5, .int 0), (4, .int ((((((p1 / 10) / 10) / 10) / 10) / 10) / 10)), (0, .ref h0), (1, .int 0), (2, .int p1), (3, .int 6)]) hx hb dX5_tellSecret_61 hl (by decide) rfl ?_
  clear hl
  clear ls
  intro ls hl
  refine lv_iconst (v := 0) hx hb dX5_tellSecret_63 (by decide) ?_
  refine lv_istore (lv' := [(6, .int 0), (5, .int 0), (4, .int ((((((p1 / 10) / 10) / 10) / 10) / 10) / 10)), (0, .ref h0), (1, .int 0), (2, .int p1), (3, .int 6)]) hx hb dX5_tellSecret_64 hl (by decide) rfl ?_
  clear hl
  clear ls
  intro ls hl
  refine lv_iload hx hb dX5_tellSecret_66 (lv_at hl 0 rfl) ?_
  refine lv_iconst (v := 3) hx hb dX5_tellSecret_68 (by decide) ?_
  refine lv_icmp_ge (tgt := 95) hx hb dX5_tellSecret_69 (by decide) (fun c9 => absurd c9 (by decide +kernel)) (fun _ => ?_)
  refine lv_aload_n hx hb dX5_tellSecret_72 rfl (lv_at hl 3 rfl) ?_
  refine gm_get (D := D) (ci := 5) (v := .ref h5) (C := RX5) (T := TX5) (N := 5) hx hb hg inlX5 hown hK.1 hP 4 rfl rfl 3 (by decide) tX5_3 (hg _ gw_141) rfl dX5_tellSecret_73 ?_
  refine lv_iload hx hb dX5_tellSecret_76 (lv_at hl 0 rfl) ?_
  refine g_al (wr := [(h4, .inr (8, [.ref h7, .int wp4000515])), (h7, .inl (y 1, 18, .inr (.inl (vp_updL (vp_updL (vp_updL (vp_updL (vp_updL (vp_updL wf4000516 ((5 : Int32).toNatClampNeg) ((p1 - p1 / 10 * 10).toInt64)) ((4 : Int32).toNatClampNeg) (((p1 / 10) - (p1 / 10) / 10 * 10).toInt64)) ((3 : Int32).toNatClampNeg) ((((p1 / 10) / 10) - ((p1 / 10) / 10) / 10 * 10).toInt64)) ((2 : Int32).toNatClampNeg) (((((p1 / 10) / 10) / 10) - (((p1 / 10) / 10) / 10) / 10 * 10).toInt64)) ((1 : Int32).toNatClampNeg) ((((((p1 / 10) / 10) / 10) / 10) - ((((p1 / 10) / 10) / 10) / 10) / 10 * 10).toInt64)) ((0 : Int32).toNatClampNeg) (((((((p1 / 10) / 10) / 10) / 10) / 10) - (((((p1 / 10) / 10) / 10) / 10) / 10) / 10 * 10).toInt64))))), (h0, .inr (5, [.ref h2, .ref h3, .ref h4, .ref h5, .int 0])), (h2, .inr (8, [.ref h12, .int 0]))]) (va_runV (As := [.int 0]) (rest := []) ⟨hx, hb, hml, hown, hg⟩ (k_X8_get_38 l D y aS H.size h5 h10 wp4000517) (cwV 1 hg ggV_RX5_36_X8_get rfl rfl rfl (by decide +kernel) ⟨Nat.le_of_ble_eq_true rfl, Nat.le_of_ble_eq_true rfl⟩) (g_preV (q := (RX8, TX8, 2)) hK hP hD [2, 3] rfl (by decide) (ci := 8) (q0 := 2) rfl rfl) rfl rfl hl.1 rfl (lv_room (Nat.le_of_ble_eq_true rfl)) dX5_tellSecret_78 ⟨Nat.le_of_ble_eq_true rfl, Nat.le_of_ble_eq_true rfl⟩) hP hD hS hA [2, 3] [0, 1, 4, 5] rfl rfl (by decide) (by decide) ?_
  clear hP hD hS H locs
  refine fun r4000526 u H locs hq hP hD hS => ?_
  subst hq
  replace hP : va_P D vwCl [(h4, .inr (8, [.ref h7, .int wp4000515])), (h7, .inl (y 1, 18, .inr (.inl (vp_updL (vp_updL (vp_updL (vp_updL (vp_updL (vp_updL wf4000516 ((5 : Int32).toNatClampNeg) ((p1 - p1 / 10 * 10).toInt64)) ((4 : Int32).toNatClampNeg) (((p1 / 10) - (p1 / 10) / 10 * 10).toInt64)) ((3 : Int32).toNatClampNeg) ((((p1 / 10) / 10) - ((p1 / 10) / 10) / 10 * 10).toInt64)) ((2 : Int32).toNatClampNeg) (((((p1 / 10) / 10) / 10) - (((p1 / 10) / 10) / 10) / 10 * 10).toInt64)) ((1 : Int32).toNatClampNeg) ((((((p1 / 10) / 10) / 10) / 10) - ((((p1 / 10) / 10) / 10) / 10) / 10 * 10).toInt64)) ((0 : Int32).toNatClampNeg) (((((((p1 / 10) / 10) / 10) / 10) / 10) - (((((p1 / 10) / 10) / 10) / 10) / 10) / 10 * 10).toInt64))))), (h0, .inr (5, [.ref h2, .ref h3, .ref h4, .ref h5, .int 0])), (h2, .inr (8, [.ref h12, .int 0])), (h5, .inr (8, [.ref h10, .int wp4000517])), (h10, .inl (y 1, 3, .inr (.inl (vp_updL (fun _ => 0) ((0 : Int32).toNatClampNeg) 6))))] H := hP
  replace hD : va_D A [(h4, .inr (8, [.ref h7, .int wp4000515])), (h7, .inl (y 1, 18, .inr (.inl (vp_updL (vp_updL (vp_updL (vp_updL (vp_updL (vp_updL wf4000516 ((5 : Int32).toNatClampNeg) ((p1 - p1 / 10 * 10).toInt64)) ((4 : Int32).toNatClampNeg) (((p1 / 10) - (p1 / 10) / 10 * 10).toInt64)) ((3 : Int32).toNatClampNeg) ((((p1 / 10) / 10) - ((p1 / 10) / 10) / 10 * 10).toInt64)) ((2 : Int32).toNatClampNeg) (((((p1 / 10) / 10) / 10) - (((p1 / 10) / 10) / 10) / 10 * 10).toInt64)) ((1 : Int32).toNatClampNeg) ((((((p1 / 10) / 10) / 10) / 10) - ((((p1 / 10) / 10) / 10) / 10) / 10 * 10).toInt64)) ((0 : Int32).toNatClampNeg) (((((((p1 / 10) / 10) / 10) / 10) / 10) - (((((p1 / 10) / 10) / 10) / 10) / 10) / 10 * 10).toInt64))))), (h0, .inr (5, [.ref h2, .ref h3, .ref h4, .ref h5, .int 0])), (h2, .inr (8, [.ref h12, .int 0])), (h5, .inr (8, [.ref h10, .int wp4000517])), (h10, .inl (y 1, 3, .inr (.inl (vp_updL (fun _ => 0) ((0 : Int32).toNatClampNeg) 6))))] := hD
  refine lv_lconst (v := 0) hx hb dX5_tellSecret_81 (by decide) ?_
  refine W.lcmp hx hb dX5_tellSecret_82 ?_
  refine g_fi (v := 1) (by decide +kernel) ?_
  refine lv_if_le (tgt := 89) hx hb dX5_tellSecret_83 (by decide) (fun c9 => absurd c9 (by decide +kernel)) (fun _ => ?_)
  refine lv_iinc (v := 1) (lv' := [(5, .int 1), (6, .int 0), (4, .int ((((((p1 / 10) / 10) / 10) / 10) / 10) / 10)), (0, .ref h0), (1, .int 0), (2, .int p1), (3, .int 6)]) hx hb dX5_tellSecret_86 hl (k := 1) rfl (by decide +kernel) (by decide) rfl ?_
  clear hl
  clear ls
  intro ls hl
  refine lv_iinc (v := 1) (lv' := [(6, .int 1), (5, .int 1), (4, .int ((((((p1 / 10) / 10) / 10) / 10) / 10) / 10)), (0, .ref h0), (1, .int 0), (2, .int p1), (3, .int 6)]) hx hb dX5_tellSecret_89 hl (k := 1) rfl (by decide +kernel) (by decide) rfl ?_
  clear hl
  clear ls
  intro ls hl
  refine lv_goto (tgt := 66) hx hb dX5_tellSecret_92 (by decide) ?_
  refine lv_iload hx hb dX5_tellSecret_66 (lv_at hl 0 rfl) ?_
  refine lv_iconst (v := 3) hx hb dX5_tellSecret_68 (by decide) ?_
  refine lv_icmp_ge (tgt := 95) hx hb dX5_tellSecret_69 (by decide) (fun c9 => absurd c9 (by decide +kernel)) (fun _ => ?_)
  refine lv_aload_n hx hb dX5_tellSecret_72 rfl (lv_at hl 3 rfl) ?_
  refine gm_get (D := D) (ci := 5) (v := .ref h5) (C := RX5) (T := TX5) (N := 5) hx hb hg inlX5 hown hK.1 hP 2 rfl rfl 3 (by decide) tX5_3 (hg _ gw_141) rfl dX5_tellSecret_73 ?_
  refine lv_iload hx hb dX5_tellSecret_76 (lv_at hl 0 rfl) ?_
  refine g_al (wr := [(h4, .inr (8, [.ref h7, .int wp4000515])), (h7, .inl (y 1, 18, .inr (.inl (vp_updL (vp_updL (vp_updL (vp_updL (vp_updL (vp_updL wf4000516 ((5 : Int32).toNatClampNeg) ((p1 - p1 / 10 * 10).toInt64)) ((4 : Int32).toNatClampNeg) (((p1 / 10) - (p1 / 10) / 10 * 10).toInt64)) ((3 : Int32).toNatClampNeg) ((((p1 / 10) / 10) - ((p1 / 10) / 10) / 10 * 10).toInt64)) ((2 : Int32).toNatClampNeg) (((((p1 / 10) / 10) / 10) - (((p1 / 10) / 10) / 10) / 10 * 10).toInt64)) ((1 : Int32).toNatClampNeg) ((((((p1 / 10) / 10) / 10) / 10) - ((((p1 / 10) / 10) / 10) / 10) / 10 * 10).toInt64)) ((0 : Int32).toNatClampNeg) (((((((p1 / 10) / 10) / 10) / 10) / 10) - (((((p1 / 10) / 10) / 10) / 10) / 10) / 10 * 10).toInt64))))), (h0, .inr (5, [.ref h2, .ref h3, .ref h4, .ref h5, .int 0])), (h2, .inr (8, [.ref h12, .int 0]))]) (va_runV (As := [.int 1]) (rest := []) ⟨hx, hb, hml, hown, hg⟩ (k_X8_get_39 l D y aS H.size h5 h10 wp4000517) (cwV 1 hg ggV_RX5_36_X8_get rfl rfl rfl (by decide +kernel) ⟨Nat.le_of_ble_eq_true rfl, Nat.le_of_ble_eq_true rfl⟩) (g_preV (q := (RX8, TX8, 2)) hK hP hD [4, 5] rfl (by decide) (ci := 8) (q0 := 4) rfl rfl) rfl rfl hl.1 rfl (lv_room (Nat.le_of_ble_eq_true rfl)) dX5_tellSecret_78 ⟨Nat.le_of_ble_eq_true rfl, Nat.le_of_ble_eq_true rfl⟩) hP hD hS hA [4, 5] [0, 1, 2, 3] rfl rfl (by decide) (by decide) ?_
  clear hP hD hS H locs
  refine fun r4000527 u H locs hq hP hD hS => ?_
  subst hq
  replace hP : va_P D vwCl [(h4, .inr (8, [.ref h7, .int wp4000515])), (h7, .inl (y 1, 18, .inr (.inl (vp_updL (vp_updL (vp_updL (vp_updL (vp_updL (vp_updL wf4000516 ((5 : Int32).toNatClampNeg) ((p1 - p1 / 10 * 10).toInt64)) ((4 : Int32).toNatClampNeg) (((p1 / 10) - (p1 / 10) / 10 * 10).toInt64)) ((3 : Int32).toNatClampNeg) ((((p1 / 10) / 10) - ((p1 / 10) / 10) / 10 * 10).toInt64)) ((2 : Int32).toNatClampNeg) (((((p1 / 10) / 10) / 10) - (((p1 / 10) / 10) / 10) / 10 * 10).toInt64)) ((1 : Int32).toNatClampNeg) ((((((p1 / 10) / 10) / 10) / 10) - ((((p1 / 10) / 10) / 10) / 10) / 10 * 10).toInt64)) ((0 : Int32).toNatClampNeg) (((((((p1 / 10) / 10) / 10) / 10) / 10) - (((((p1 / 10) / 10) / 10) / 10) / 10) / 10 * 10).toInt64))))), (h0, .inr (5, [.ref h2, .ref h3, .ref h4, .ref h5, .int 0])), (h2, .inr (8, [.ref h12, .int 0])), (h5, .inr (8, [.ref h10, .int wp4000517])), (h10, .inl (y 1, 3, .inr (.inl (vp_updL (fun _ => 0) ((0 : Int32).toNatClampNeg) 6))))] H := hP
  replace hD : va_D A [(h4, .inr (8, [.ref h7, .int wp4000515])), (h7, .inl (y 1, 18, .inr (.inl (vp_updL (vp_updL (vp_updL (vp_updL (vp_updL (vp_updL wf4000516 ((5 : Int32).toNatClampNeg) ((p1 - p1 / 10 * 10).toInt64)) ((4 : Int32).toNatClampNeg) (((p1 / 10) - (p1 / 10) / 10 * 10).toInt64)) ((3 : Int32).toNatClampNeg) ((((p1 / 10) / 10) - ((p1 / 10) / 10) / 10 * 10).toInt64)) ((2 : Int32).toNatClampNeg) (((((p1 / 10) / 10) / 10) - (((p1 / 10) / 10) / 10) / 10 * 10).toInt64)) ((1 : Int32).toNatClampNeg) ((((((p1 / 10) / 10) / 10) / 10) - ((((p1 / 10) / 10) / 10) / 10) / 10 * 10).toInt64)) ((0 : Int32).toNatClampNeg) (((((((p1 / 10) / 10) / 10) / 10) / 10) - (((((p1 / 10) / 10) / 10) / 10) / 10) / 10 * 10).toInt64))))), (h0, .inr (5, [.ref h2, .ref h3, .ref h4, .ref h5, .int 0])), (h2, .inr (8, [.ref h12, .int 0])), (h5, .inr (8, [.ref h10, .int wp4000517])), (h10, .inl (y 1, 3, .inr (.inl (vp_updL (fun _ => 0) ((0 : Int32).toNatClampNeg) 6))))] := hD
  refine lv_lconst (v := 0) hx hb dX5_tellSecret_81 (by decide) ?_
  refine W.lcmp hx hb dX5_tellSecret_82 ?_
  refine g_fi (v := 0) (by decide +kernel) ?_
  refine lv_if_le (tgt := 89) hx hb dX5_tellSecret_83 (by decide) (fun _ => ?_) (fun c9 => absurd c9 (by decide +kernel))
  refine lv_iinc (v := 2) (lv' := [(6, .int 2), (5, .int 1), (4, .int ((((((p1 / 10) / 10) / 10) / 10) / 10) / 10)), (0, .ref h0), (1, .int 0), (2, .int p1), (3, .int 6)]) hx hb dX5_tellSecret_89 hl (k := 0) rfl (by decide +kernel) (by decide) rfl ?_
  clear hl
  clear ls
  intro ls hl
  refine lv_goto (tgt := 66) hx hb dX5_tellSecret_92 (by decide) ?_
  refine lv_iload hx hb dX5_tellSecret_66 (lv_at hl 0 rfl) ?_
  refine lv_iconst (v := 3) hx hb dX5_tellSecret_68 (by decide) ?_
  refine lv_icmp_ge (tgt := 95) hx hb dX5_tellSecret_69 (by decide) (fun c9 => absurd c9 (by decide +kernel)) (fun _ => ?_)
  refine lv_aload_n hx hb dX5_tellSecret_72 rfl (lv_at hl 3 rfl) ?_
  refine gm_get (D := D) (ci := 5) (v := .ref h5) (C := RX5) (T := TX5) (N := 5) hx hb hg inlX5 hown hK.1 hP 2 rfl rfl 3 (by decide) tX5_3 (hg _ gw_141) rfl dX5_tellSecret_73 ?_
  refine lv_iload hx hb dX5_tellSecret_76 (lv_at hl 0 rfl) ?_
  refine g_al (wr := [(h4, .inr (8, [.ref h7, .int wp4000515])), (h7, .inl (y 1, 18, .inr (.inl (vp_updL (vp_updL (vp_updL (vp_updL (vp_updL (vp_updL wf4000516 ((5 : Int32).toNatClampNeg) ((p1 - p1 / 10 * 10).toInt64)) ((4 : Int32).toNatClampNeg) (((p1 / 10) - (p1 / 10) / 10 * 10).toInt64)) ((3 : Int32).toNatClampNeg) ((((p1 / 10) / 10) - ((p1 / 10) / 10) / 10 * 10).toInt64)) ((2 : Int32).toNatClampNeg) (((((p1 / 10) / 10) / 10) - (((p1 / 10) / 10) / 10) / 10 * 10).toInt64)) ((1 : Int32).toNatClampNeg) ((((((p1 / 10) / 10) / 10) / 10) - ((((p1 / 10) / 10) / 10) / 10) / 10 * 10).toInt64)) ((0 : Int32).toNatClampNeg) (((((((p1 / 10) / 10) / 10) / 10) / 10) - (((((p1 / 10) / 10) / 10) / 10) / 10) / 10 * 10).toInt64))))), (h0, .inr (5, [.ref h2, .ref h3, .ref h4, .ref h5, .int 0])), (h2, .inr (8, [.ref h12, .int 0]))]) (va_runV (As := [.int 2]) (rest := []) ⟨hx, hb, hml, hown, hg⟩ (k_X8_get_40 l D y aS H.size h5 h10 wp4000517) (cwV 1 hg ggV_RX5_36_X8_get rfl rfl rfl (by decide +kernel) ⟨Nat.le_of_ble_eq_true rfl, Nat.le_of_ble_eq_true rfl⟩) (g_preV (q := (RX8, TX8, 2)) hK hP hD [4, 5] rfl (by decide) (ci := 8) (q0 := 4) rfl rfl) rfl rfl hl.1 rfl (lv_room (Nat.le_of_ble_eq_true rfl)) dX5_tellSecret_78 ⟨Nat.le_of_ble_eq_true rfl, Nat.le_of_ble_eq_true rfl⟩) hP hD hS hA [4, 5] [0, 1, 2, 3] rfl rfl (by decide) (by decide) ?_
  clear hP hD hS H locs
  refine fun r4000528 u H locs hq hP hD hS => ?_
  subst hq
  replace hP : va_P D vwCl [(h4, .inr (8, [.ref h7, .int wp4000515])), (h7, .inl (y 1, 18, .inr (.inl (vp_updL (vp_updL (vp_updL (vp_updL (vp_updL (vp_updL wf4000516 ((5 : Int32).toNatClampNeg) ((p1 - p1 / 10 * 10).toInt64)) ((4 : Int32).toNatClampNeg) (((p1 / 10) - (p1 / 10) / 10 * 10).toInt64)) ((3 : Int32).toNatClampNeg) ((((p1 / 10) / 10) - ((p1 / 10) / 10) / 10 * 10).toInt64)) ((2 : Int32).toNatClampNeg) (((((p1 / 10) / 10) / 10) - (((p1 / 10) / 10) / 10) / 10 * 10).toInt64)) ((1 : Int32).toNatClampNeg) ((((((p1 / 10) / 10) / 10) / 10) - ((((p1 / 10) / 10) / 10) / 10) / 10 * 10).toInt64)) ((0 : Int32).toNatClampNeg) (((((((p1 / 10) / 10) / 10) / 10) / 10) - (((((p1 / 10) / 10) / 10) / 10) / 10) / 10 * 10).toInt64))))), (h0, .inr (5, [.ref h2, .ref h3, .ref h4, .ref h5, .int 0])), (h2, .inr (8, [.ref h12, .int 0])), (h5, .inr (8, [.ref h10, .int wp4000517])), (h10, .inl (y 1, 3, .inr (.inl (vp_updL (fun _ => 0) ((0 : Int32).toNatClampNeg) 6))))] H := hP
  replace hD : va_D A [(h4, .inr (8, [.ref h7, .int wp4000515])), (h7, .inl (y 1, 18, .inr (.inl (vp_updL (vp_updL (vp_updL (vp_updL (vp_updL (vp_updL wf4000516 ((5 : Int32).toNatClampNeg) ((p1 - p1 / 10 * 10).toInt64)) ((4 : Int32).toNatClampNeg) (((p1 / 10) - (p1 / 10) / 10 * 10).toInt64)) ((3 : Int32).toNatClampNeg) ((((p1 / 10) / 10) - ((p1 / 10) / 10) / 10 * 10).toInt64)) ((2 : Int32).toNatClampNeg) (((((p1 / 10) / 10) / 10) - (((p1 / 10) / 10) / 10) / 10 * 10).toInt64)) ((1 : Int32).toNatClampNeg) ((((((p1 / 10) / 10) / 10) / 10) - ((((p1 / 10) / 10) / 10) / 10) / 10 * 10).toInt64)) ((0 : Int32).toNatClampNeg) (((((((p1 / 10) / 10) / 10) / 10) / 10) - (((((p1 / 10) / 10) / 10) / 10) / 10) / 10 * 10).toInt64))))), (h0, .inr (5, [.ref h2, .ref h3, .ref h4, .ref h5, .int 0])), (h2, .inr (8, [.ref h12, .int 0])), (h5, .inr (8, [.ref h10, .int wp4000517])), (h10, .inl (y 1, 3, .inr (.inl (vp_updL (fun _ => 0) ((0 : Int32).toNatClampNeg) 6))))] := hD
  refine lv_lconst (v := 0) hx hb dX5_tellSecret_81 (by decide) ?_
  refine W.lcmp hx hb dX5_tellSecret_82 ?_
  refine g_fi (v := 0) (by decide +kernel) ?_
  refine lv_if_le (tgt := 89) hx hb dX5_tellSecret_83 (by decide) (fun _ => ?_) (fun c9 => absurd c9 (by decide +kernel))
  refine lv_iinc (v := 3) (lv' := [(6, .int 3), (5, .int 1), (4, .int ((((((p1 / 10) / 10) / 10) / 10) / 10) / 10)), (0, .ref h0), (1, .int 0), (2, .int p1), (3, .int 6)]) hx hb dX5_tellSecret_89 hl (k := 0) rfl (by decide +kernel) (by decide) rfl ?_
  clear hl
  clear ls
  intro ls hl
  refine lv_goto (tgt := 66) hx hb dX5_tellSecret_92 (by decide) ?_
  refine lv_iload hx hb dX5_tellSecret_66 (lv_at hl 0 rfl) ?_
  refine lv_iconst (v := 3) hx hb dX5_tellSecret_68 (by decide) ?_
  refine lv_icmp_ge (tgt := 95) hx hb dX5_tellSecret_69 (by decide) (fun _ => ?_) (fun c9 => absurd c9 (by decide +kernel))
  refine lv_iload hx hb dX5_tellSecret_95 (lv_at hl 1 rfl) ?_
  exact g_iret hx hb hr hlocks () (hP.sub [2, 0, 1, 4, 5, 3] rfl) (hD.sub [2, 0, 1, 4, 5, 3] (by decide +kernel) rfl) hS rfl rfl (Nat.le_of_ble_eq_true rfl) (Nat.le_of_ble_eq_true rfl) dX5_tellSecret_97
set_option maxRecDepth 100000 in
set_option maxHeartbeats 4000000 in
theorem k_X8_set_43 (l : Launch) (D : va_G) (y : Nat → ClassId) (aS : Nat → Nat) (sz : Nat) (h0 : Nat) (p1 : Int64) (h2 : Nat) (wp4000531 : Int32) (wf4000532 : Nat → Int64) : Met l yX8_set (Cond.code yX8_set cX8_set 4 none :: wsL_law) ({ frames := 0, cells := 0, slots := 0, locals := 0 } : Room) (va_Pc [.ref h0, .int 11, .long p1] (gI D y aS [(h0, .inr (8, [.ref h2, .int wp4000531])), (h2, .inl (y 1, 18, .inr (.inl wf4000532)))] sz)) (va_Qv (fun (u : Unit) => True) (fun u => gO D (va_A [(h0, .inr (8, [.ref h2, .int wp4000531])), (h2, .inl (y 1, 18, .inr (.inl wf4000532)))] sz) [(h0, .inr (8, [.ref h2, .int wp4000531])), (h2, .inl (y 1, 18, .inr (.inl (vp_updL wf4000532 ((11 : Int32).toNatClampNeg) p1))))]) (va_A [(h0, .inr (8, [.ref h2, .int wp4000531])), (h2, .inl (y 1, 18, .inr (.inl wf4000532)))] sz)) 0 0 (va_A [(h0, .inr (8, [.ref h2, .int wp4000531])), (h2, .inl (y 1, 18, .inr (.inl wf4000532)))] sz) := by
  refine g_of (by decide) (Nat.le_of_ble_eq_true rfl) ?_
  intro p e s m below meth c ls A hx hb hr hml hown hg hlocks hin hsz hK hP hD hS hA hAe hl
  rw [← hAe]
  replace hown : s.vm.findClass RX8 = some m.cls := hown
  replace hl : lv_has ls 4 [(0, .ref h0), (1, .int 11), (2, .long p1)] := hl
  refine lv_iload_n hx hb dX8_set_0 rfl (lv_at hl 1 rfl) ?_
  refine lv_if_lt (tgt := 20) hx hb dX8_set_1 (by decide) (fun c9 => absurd c9 (by decide +kernel)) (fun _ => ?_)
  refine lv_iload_n hx hb dX8_set_4 rfl (lv_at hl 1 rfl) ?_
  refine lv_aload_n hx hb dX8_set_5 rfl (lv_at hl 0 rfl) ?_
  refine gm_get (D := D) (ci := 8) (v := .ref h2) (C := RX8) (T := TX8) (N := 2) hx hb hg inlX8 hown hK.1 hP 0 rfl rfl 0 (by decide) tX8_0 (hg _ gw_98) rfl dX8_set_6 ?_
  refine va_alen hx hb hK.1 hP 1 1 rfl rfl (v := 18) rfl dX8_set_9 ?_
  refine lv_icmp_ge (tgt := 20) hx hb dX8_set_10 (by decide) (fun c9 => absurd c9 (by decide +kernel)) (fun _ => ?_)
  refine lv_aload_n hx hb dX8_set_13 rfl (lv_at hl 0 rfl) ?_
  refine gm_get (D := D) (ci := 8) (v := .ref h2) (C := RX8) (T := TX8) (N := 2) hx hb hg inlX8 hown hK.1 hP 0 rfl rfl 0 (by decide) tX8_0 (hg _ gw_98) rfl dX8_set_14 ?_
  refine lv_iload_n hx hb dX8_set_17 rfl (lv_at hl 1 rfl) ?_
  refine lv_lload_n hx hb dX8_set_18 rfl (lv_at hl 2 rfl) ?_
  refine va_last hx hb hK.1 hP hD hS 1 1 rfl rfl (by unfold vp_in; decide +kernel) dX8_set_19 ?_
  clear hP hD hS
  refine fun H locs (hP : va_P D vwCl [(h0, .inr (8, [.ref h2, .int wp4000531])), (h2, .inl (y 1, 18, .inr (.inl (vp_updL wf4000532 ((11 : Int32).toNatClampNeg) p1))))] H) (hD : va_D A [(h0, .inr (8, [.ref h2, .int wp4000531])), (h2, .inl (y 1, 18, .inr (.inl (vp_updL wf4000532 ((11 : Int32).toNatClampNeg) p1))))]) hS => ?_
  exact g_vret hx hb hr hlocks () hP hD hS trivial (Nat.le_of_ble_eq_true rfl) (Nat.le_of_ble_eq_true rfl) dX8_set_20
set_option maxRecDepth 100000 in
set_option maxHeartbeats 4000000 in
theorem k_X8_get_41 (l : Launch) (D : va_G) (y : Nat → ClassId) (aS : Nat → Nat) (sz : Nat) (h0 : Nat) (h1 : Nat) (wp4000541 : Int32) : Met l yX8_get (Cond.code yX8_get cX8_get 2 (some .long) :: wsL_law) ({ frames := 0, cells := 0, slots := 0, locals := 0 } : Room) (va_Pc [.ref h0, .int 0] (gI D y aS [(h0, .inr (8, [.ref h1, .int wp4000541])), (h1, .inl (y 1, 3, .inr (.inl (vp_updL (fun _ => 0) ((1 : Int32).toNatClampNeg) 6))))] sz)) (va_Ql (fun (r : Int64) (u : Unit) => 0 = r) (fun u => gO D (va_A [(h0, .inr (8, [.ref h1, .int wp4000541])), (h1, .inl (y 1, 3, .inr (.inl (vp_updL (fun _ => 0) ((1 : Int32).toNatClampNeg) 6))))] sz) [(h0, .inr (8, [.ref h1, .int wp4000541])), (h1, .inl (y 1, 3, .inr (.inl (vp_updL (fun _ => 0) ((1 : Int32).toNatClampNeg) 6))))]) (va_A [(h0, .inr (8, [.ref h1, .int wp4000541])), (h1, .inl (y 1, 3, .inr (.inl (vp_updL (fun _ => 0) ((1 : Int32).toNatClampNeg) 6))))] sz)) 0 0 (va_A [(h0, .inr (8, [.ref h1, .int wp4000541])), (h1, .inl (y 1, 3, .inr (.inl (vp_updL (fun _ => 0) ((1 : Int32).toNatClampNeg) 6))))] sz) := by
  refine g_of (by decide) (Nat.le_of_ble_eq_true rfl) ?_
  intro p e s m below meth c ls A hx hb hr hml hown hg hlocks hin hsz hK hP hD hS hA hAe hl
  rw [← hAe]
  replace hown : s.vm.findClass RX8 = some m.cls := hown
  replace hl : lv_has ls 2 [(0, .ref h0), (1, .int 0)] := hl
  refine lv_iload_n hx hb dX8_get_0 rfl (lv_at hl 1 rfl) ?_
  refine lv_if_lt (tgt := 22) hx hb dX8_get_1 (by decide) (fun c9 => absurd c9 (by decide +kernel)) (fun _ => ?_)
  refine lv_iload_n hx hb dX8_get_4 rfl (lv_at hl 1 rfl) ?_
  refine lv_aload_n hx hb dX8_get_5 rfl (lv_at hl 0 rfl) ?_
  refine gm_get (D := D) (ci := 8) (v := .ref h1) (C := RX8) (T := TX8) (N := 2) hx hb hg inlX8 hown hK.1 hP 0 rfl rfl 0 (by decide) tX8_0 (hg _ gw_98) rfl dX8_get_6 ?_
  refine va_alen hx hb hK.1 hP 1 1 rfl rfl (v := 3) rfl dX8_get_9 ?_
  refine lv_icmp_ge (tgt := 22) hx hb dX8_get_10 (by decide) (fun c9 => absurd c9 (by decide +kernel)) (fun _ => ?_)
  refine lv_aload_n hx hb dX8_get_13 rfl (lv_at hl 0 rfl) ?_
  refine gm_get (D := D) (ci := 8) (v := .ref h1) (C := RX8) (T := TX8) (N := 2) hx hb hg inlX8 hown hK.1 hP 0 rfl rfl 0 (by decide) tX8_0 (hg _ gw_98) rfl dX8_get_14 ?_
  refine lv_iload_n hx hb dX8_get_17 rfl (lv_at hl 1 rfl) ?_
  refine va_lald hx hb hK.1 hP 1 1 rfl rfl (by unfold vp_in; decide +kernel) dX8_get_18 ?_
  refine g_fj (v := 0) (by rfl) ?_
  refine lv_goto (tgt := 23) hx hb dX8_get_19 (by decide) ?_
  exact g_lret hx hb hr hlocks () hP hD hS rfl (Nat.le_of_ble_eq_true rfl) (Nat.le_of_ble_eq_true rfl) dX8_get_23
set_option maxRecDepth 100000 in
set_option maxHeartbeats 4000000 in
theorem k_X8_get_42 (l : Launch) (D : va_G) (y : Nat → ClassId) (aS : Nat → Nat) (sz : Nat) (h0 : Nat) (h1 : Nat) (wp4000543 : Int32) : Met l yX8_get (Cond.code yX8_get cX8_get 2 (some .long) :: wsL_law) ({ frames := 0, cells := 0, slots := 0, locals := 0 } : Room) (va_Pc [.ref h0, .int 1] (gI D y aS [(h0, .inr (8, [.ref h1, .int wp4000543])), (h1, .inl (y 1, 3, .inr (.inl (vp_updL (fun _ => 0) ((1 : Int32).toNatClampNeg) 6))))] sz)) (va_Ql (fun (r : Int64) (u : Unit) => 6 = r) (fun u => gO D (va_A [(h0, .inr (8, [.ref h1, .int wp4000543])), (h1, .inl (y 1, 3, .inr (.inl (vp_updL (fun _ => 0) ((1 : Int32).toNatClampNeg) 6))))] sz) [(h0, .inr (8, [.ref h1, .int wp4000543])), (h1, .inl (y 1, 3, .inr (.inl (vp_updL (fun _ => 0) ((1 : Int32).toNatClampNeg) 6))))]) (va_A [(h0, .inr (8, [.ref h1, .int wp4000543])), (h1, .inl (y 1, 3, .inr (.inl (vp_updL (fun _ => 0) ((1 : Int32).toNatClampNeg) 6))))] sz)) 0 0 (va_A [(h0, .inr (8, [.ref h1, .int wp4000543])), (h1, .inl (y 1, 3, .inr (.inl (vp_updL (fun _ => 0) ((1 : Int32).toNatClampNeg) 6))))] sz) := by
  refine g_of (by decide) (Nat.le_of_ble_eq_true rfl) ?_
  intro p e s m below meth c ls A hx hb hr hml hown hg hlocks hin hsz hK hP hD hS hA hAe hl
  rw [← hAe]
  replace hown : s.vm.findClass RX8 = some m.cls := hown
  replace hl : lv_has ls 2 [(0, .ref h0), (1, .int 1)] := hl
  refine lv_iload_n hx hb dX8_get_0 rfl (lv_at hl 1 rfl) ?_
  refine lv_if_lt (tgt := 22) hx hb dX8_get_1 (by decide) (fun c9 => absurd c9 (by decide +kernel)) (fun _ => ?_)
  refine lv_iload_n hx hb dX8_get_4 rfl (lv_at hl 1 rfl) ?_
  refine lv_aload_n hx hb dX8_get_5 rfl (lv_at hl 0 rfl) ?_
  refine gm_get (D := D) (ci := 8) (v := .ref h1) (C := RX8) (T := TX8) (N := 2) hx hb hg inlX8 hown hK.1 hP 0 rfl rfl 0 (by decide) tX8_0 (hg _ gw_98) rfl dX8_get_6 ?_
  refine va_alen hx hb hK.1 hP 1 1 rfl rfl (v := 3) rfl dX8_get_9 ?_
  refine lv_icmp_ge (tgt := 22) hx hb dX8_get_10 (by decide) (fun c9 => absurd c9 (by decide +kernel)) (fun _ => ?_)
  refine lv_aload_n hx hb dX8_get_13 rfl (lv_at hl 0 rfl) ?_
  refine gm_get (D := D) (ci := 8) (v := .ref h1) (C := RX8) (T := TX8) (N := 2) hx hb hg inlX8 hown hK.1 hP 0 rfl rfl 0 (by decide) tX8_0 (hg _ gw_98) rfl dX8_get_14 ?_
  refine lv_iload_n hx hb dX8_get_17 rfl (lv_at hl 1 rfl) ?_
  refine va_lald hx hb hK.1 hP 1 1 rfl rfl (by unfold vp_in; decide +kernel) dX8_get_18 ?_
  refine g_fj (v := 6) (by rfl) ?_
  refine lv_goto (tgt := 23) hx hb dX8_get_19 (by decide) ?_
  exact g_lret hx hb hr hlocks () hP hD hS rfl (Nat.le_of_ble_eq_true rfl) (Nat.le_of_ble_eq_true rfl) dX8_get_23
set_option maxRecDepth 100000 in
set_option maxHeartbeats 4000000 in
theorem k_X8_get_43 (l : Launch) (D : va_G) (y : Nat → ClassId) (aS : Nat → Nat) (sz : Nat) (h0 : Nat) (h1 : Nat) (wp4000545 : Int32) : Met l yX8_get (Cond.code yX8_get cX8_get 2 (some .long) :: wsL_law) ({ frames := 0, cells := 0, slots := 0, locals := 0 } : Room) (va_Pc [.ref h0, .int 2] (gI D y aS [(h0, .inr (8, [.ref h1, .int wp4000545])), (h1, .inl (y 1, 3, .inr (.inl (vp_updL (fun _ => 0) ((1 : Int32).toNatClampNeg) 6))))] sz)) (va_Ql (fun (r : Int64) (u : Unit) => 0 = r) (fun u => gO D (va_A [(h0, .inr (8, [.ref h1, .int wp4000545])), (h1, .inl (y 1, 3, .inr (.inl (vp_updL (fun _ => 0) ((1 : Int32).toNatClampNeg) 6))))] sz) [(h0, .inr (8, [.ref h1, .int wp4000545])), (h1, .inl (y 1, 3, .inr (.inl (vp_updL (fun _ => 0) ((1 : Int32).toNatClampNeg) 6))))]) (va_A [(h0, .inr (8, [.ref h1, .int wp4000545])), (h1, .inl (y 1, 3, .inr (.inl (vp_updL (fun _ => 0) ((1 : Int32).toNatClampNeg) 6))))] sz)) 0 0 (va_A [(h0, .inr (8, [.ref h1, .int wp4000545])), (h1, .inl (y 1, 3, .inr (.inl (vp_updL (fun _ => 0) ((1 : Int32).toNatClampNeg) 6))))] sz) := by
  refine g_of (by decide) (Nat.le_of_ble_eq_true rfl) ?_
  intro p e s m below meth c ls A hx hb hr hml hown hg hlocks hin hsz hK hP hD hS hA hAe hl
  rw [← hAe]
  replace hown : s.vm.findClass RX8 = some m.cls := hown
  replace hl : lv_has ls 2 [(0, .ref h0), (1, .int 2)] := hl
  refine lv_iload_n hx hb dX8_get_0 rfl (lv_at hl 1 rfl) ?_
  refine lv_if_lt (tgt := 22) hx hb dX8_get_1 (by decide) (fun c9 => absurd c9 (by decide +kernel)) (fun _ => ?_)
  refine lv_iload_n hx hb dX8_get_4 rfl (lv_at hl 1 rfl) ?_
  refine lv_aload_n hx hb dX8_get_5 rfl (lv_at hl 0 rfl) ?_
  refine gm_get (D := D) (ci := 8) (v := .ref h1) (C := RX8) (T := TX8) (N := 2) hx hb hg inlX8 hown hK.1 hP 0 rfl rfl 0 (by decide) tX8_0 (hg _ gw_98) rfl dX8_get_6 ?_
  refine va_alen hx hb hK.1 hP 1 1 rfl rfl (v := 3) rfl dX8_get_9 ?_
  refine lv_icmp_ge (tgt := 22) hx hb dX8_get_10 (by decide) (fun c9 => absurd c9 (by decide +kernel)) (fun _ => ?_)
  refine lv_aload_n hx hb dX8_get_13 rfl (lv_at hl 0 rfl) ?_
  refine gm_get (D := D) (ci := 8) (v := .ref h1) (C := RX8) (T := TX8) (N := 2) hx hb hg inlX8 hown hK.1 hP 0 rfl rfl 0 (by decide) tX8_0 (hg _ gw_98) rfl dX8_get_14 ?_
  refine lv_iload_n hx hb dX8_get_17 rfl (lv_at hl 1 rfl) ?_
  refine va_lald hx hb hK.1 hP 1 1 rfl rfl (by unfold vp_in; decide +kernel) dX8_get_18 ?_
  refine g_fj (v := 0) (by rfl) ?_
  refine lv_goto (tgt := 23) hx hb dX8_get_19 (by decide) ?_
  exact g_lret hx hb hr hlocks () hP hD hS rfl (Nat.le_of_ble_eq_true rfl) (Nat.le_of_ble_eq_true rfl) dX8_get_23
set_option maxRecDepth 100000 in
set_option maxHeartbeats 4000000 in
theorem k_X5_tellSecret_13 (l : Launch) (D : va_G) (y : Nat → ClassId) (aS : Nat → Nat) (sz : Nat) (h0 : Nat) (p1 : Int32) (h2 : Nat) (h3 : Nat) (h4 : Nat) (h5 : Nat) (wp4000547 : Int32) (h7 : Nat) (wp4000548 : Int32) (wf4000549 : Nat → Int64) (h10 : Nat) (wp4000550 : Int32) (h12 : Nat) : Met l yX5_tellSecret (Cond.code yX5_tellSecret cX5_tellSecret 7 (some .int) :: wsL_law) ({ frames := 1, cells := 0, slots := 0, locals := 23 } : Room) (va_Pc [.ref h0, .int 1, .int p1, .int 6] (gI D y aS [(h0, .inr (5, [.ref h2, .ref h3, .ref h4, .ref h5, .int wp4000547])), (h4, .inr (8, [.ref h7, .int wp4000548])), (h7, .inl (y 1, 18, .inr (.inl wf4000549))), (h5, .inr (8, [.ref h10, .int wp4000550])), (h10, .inl (y 1, 3, .inr (.inl (fun _ => 0)))), (h2, .inr (8, [.ref h12, .int 0]))] sz)) (va_Qi (fun (r : Int32) (u : Unit) => 1 = r) (fun u => gO D (va_A [(h0, .inr (5, [.ref h2, .ref h3, .ref h4, .ref h5, .int wp4000547])), (h4, .inr (8, [.ref h7, .int wp4000548])), (h7, .inl (y 1, 18, .inr (.inl wf4000549))), (h5, .inr (8, [.ref h10, .int wp4000550])), (h10, .inl (y 1, 3, .inr (.inl (fun _ => 0)))), (h2, .inr (8, [.ref h12, .int 0]))] sz) [(h0, .inr (5, [.ref h2, .ref h3, .ref h4, .ref h5, .int 0])), (h4, .inr (8, [.ref h7, .int wp4000548])), (h7, .inl (y 1, 18, .inr (.inl (vp_updL (vp_updL (vp_updL (vp_updL (vp_updL (vp_updL wf4000549 ((11 : Int32).toNatClampNeg) ((p1 - p1 / 10 * 10).toInt64)) ((10 : Int32).toNatClampNeg) (((p1 / 10) - (p1 / 10) / 10 * 10).toInt64)) ((9 : Int32).toNatClampNeg) ((((p1 / 10) / 10) - ((p1 / 10) / 10) / 10 * 10).toInt64)) ((8 : Int32).toNatClampNeg) (((((p1 / 10) / 10) / 10) - (((p1 / 10) / 10) / 10) / 10 * 10).toInt64)) ((7 : Int32).toNatClampNeg) ((((((p1 / 10) / 10) / 10) / 10) - ((((p1 / 10) / 10) / 10) / 10) / 10 * 10).toInt64)) ((6 : Int32).toNatClampNeg) (((((((p1 / 10) / 10) / 10) / 10) / 10) - (((((p1 / 10) / 10) / 10) / 10) / 10) / 10 * 10).toInt64))))), (h5, .inr (8, [.ref h10, .int wp4000550])), (h10, .inl (y 1, 3, .inr (.inl (vp_updL (fun _ => 0) ((1 : Int32).toNatClampNeg) 6)))), (h2, .inr (8, [.ref h12, .int 0]))]) (va_A [(h0, .inr (5, [.ref h2, .ref h3, .ref h4, .ref h5, .int wp4000547])), (h4, .inr (8, [.ref h7, .int wp4000548])), (h7, .inl (y 1, 18, .inr (.inl wf4000549))), (h5, .inr (8, [.ref h10, .int wp4000550])), (h10, .inl (y 1, 3, .inr (.inl (fun _ => 0)))), (h2, .inr (8, [.ref h12, .int 0]))] sz)) 0 0 (va_A [(h0, .inr (5, [.ref h2, .ref h3, .ref h4, .ref h5, .int wp4000547])), (h4, .inr (8, [.ref h7, .int wp4000548])), (h7, .inl (y 1, 18, .inr (.inl wf4000549))), (h5, .inr (8, [.ref h10, .int wp4000550])), (h10, .inl (y 1, 3, .inr (.inl (fun _ => 0)))), (h2, .inr (8, [.ref h12, .int 0]))] sz) := by
  refine g_of (by decide) (Nat.le_of_ble_eq_true rfl) ?_
  intro p e s m below meth c ls A hx hb hr hml hown hg hlocks hin hsz hK hP hD hS hA hAe hl
  rw [← hAe]
  replace hown : s.vm.findClass RX5 = some m.cls := hown
  replace hl : lv_has ls 7 [(0, .ref h0), (1, .int 1), (2, .int p1), (3, .int 6)] := hl
  refine lv_iload_n hx hb dX5_tellSecret_0 rfl (lv_at hl 2 rfl) ?_
  refine lv_istore (lv' := [(4, .int p1), (0, .ref h0), (1, .int 1), (2, .int p1), (3, .int 6)]) hx hb dX5_tellSecret_1 hl (by decide) rfl ?_
  clear hl
  clear ls
  intro ls hl
  refine lv_iload_n hx hb dX5_tellSecret_3 rfl (lv_at hl 4 rfl) ?_
  refine lv_iconst (v := 1) hx hb dX5_tellSecret_4 (by decide) ?_
  refine lv_isub hx hb dX5_tellSecret_5 ?_
  refine g_fi (v := 5) (by decide +kernel) ?_
  refine lv_istore (lv' := [(5, .int 5), (4, .int p1), (0, .ref h0), (1, .int 1), (2, .int p1), (3, .int 6)]) hx hb dX5_tellSecret_6 hl (by decide) rfl ?_
  clear hl
  clear ls
  intro ls hl
  refine lv_iload hx hb dX5_tellSecret_8 (lv_at hl 0 rfl) ?_
  refine lv_if_lt (tgt := 46) hx hb dX5_tellSecret_10 (by decide) (fun c9 => absurd c9 (by decide +kernel)) (fun _ => ?_)
  refine lv_aload_n hx hb dX5_tellSecret_13 rfl (lv_at hl 2 rfl) ?_
  refine gm_get (D := D) (ci := 5) (v := .ref h4) (C := RX5) (T := TX5) (N := 5) hx hb hg inlX5 hown hK.1 hP 0 rfl rfl 2 (by decide) tX5_2 (hg _ gw_140) rfl dX5_tellSecret_14 ?_
  refine lv_iload_n hx hb dX5_tellSecret_17 rfl (lv_at hl 3 rfl) ?_
  refine lv_bipush (v := 6) hx hb dX5_tellSecret_18 (by decide +kernel) ?_
  refine lv_imul hx hb dX5_tellSecret_20 ?_
  refine g_fi (v := 6) (by decide +kernel) ?_
  refine lv_iload hx hb dX5_tellSecret_21 (lv_at hl 0 rfl) ?_
  refine lv_iadd hx hb dX5_tellSecret_23 ?_
  refine g_fi (v := 11) (by decide +kernel) ?_
  refine lv_iload hx hb dX5_tellSecret_24 (lv_at hl 1 rfl) ?_
  refine lv_bipush (v := 10) hx hb dX5_tellSecret_26 (by decide +kernel) ?_
  refine lv_irem hx hb dX5_tellSecret_28 (by decide +kernel) ?_
  refine lv_i2l (v := ((p1 - p1 / 10 * 10).toInt64)) hx hb dX5_tellSecret_29 rfl ?_
  refine g_av (wr := [(h0, .inr (5, [.ref h2, .ref h3, .ref h4, .ref h5, .int wp4000547])), (h5, .inr (8, [.ref h10, .int wp4000550])), (h10, .inl (y 1, 3, .inr (.inl (fun _ => 0)))), (h2, .inr (8, [.ref h12, .int 0]))]) (va_runV (As := [.int 11, .long ((p1 - p1 / 10 * 10).toInt64)]) (rest := []) ⟨hx, hb, hml, hown, hg⟩ (k_X8_set_43 l D y aS s.heap.size h4 ((p1 - p1 / 10 * 10).toInt64) h7 wp4000548 wf4000549) (cwV 2 hg ggV_RX5_29_X8_set rfl rfl rfl (by decide +kernel) ⟨Nat.le_of_ble_eq_true rfl, Nat.le_of_ble_eq_true rfl⟩) (g_preV (q := (RX8, TX8, 2)) hK hP hD [1, 2] rfl (by decide) (ci := 8) (q0 := 1) rfl rfl) rfl rfl hl.1 rfl (lv_room (Nat.le_of_ble_eq_true rfl)) dX5_tellSecret_30 ⟨Nat.le_of_ble_eq_true rfl, Nat.le_of_ble_eq_true rfl⟩) hP hD hS hA [1, 2] [0, 3, 4, 5] rfl rfl (by decide) (by decide) ?_
  clear hP hD hS
  refine fun u H locs hq hP hD hS => ?_
  replace hP : va_P D vwCl [(h0, .inr (5, [.ref h2, .ref h3, .ref h4, .ref h5, .int wp4000547])), (h5, .inr (8, [.ref h10, .int wp4000550])), (h10, .inl (y 1, 3, .inr (.inl (fun _ => 0)))), (h2, .inr (8, [.ref h12, .int 0])), (h4, .inr (8, [.ref h7, .int wp4000548])), (h7, .inl (y 1, 18, .inr (.inl (vp_updL wf4000549 ((11 : Int32).toNatClampNeg) ((p1 - p1 / 10 * 10).toInt64)))))] H := hP
  replace hD : va_D A [(h0, .inr (5, [.ref h2, .ref h3, .ref h4, .ref h5, .int wp4000547])), (h5, .inr (8, [.ref h10, .int wp4000550])), (h10, .inl (y 1, 3, .inr (.inl (fun _ => 0)))), (h2, .inr (8, [.ref h12, .int 0])), (h4, .inr (8, [.ref h7, .int wp4000548])), (h7, .inl (y 1, 18, .inr (.inl (vp_updL wf4000549 ((11 : Int32).toNatClampNeg) ((p1 - p1 / 10 * 10).toInt64)))))] := hD
  refine lv_iload hx hb dX5_tellSecret_33 (lv_at hl 1 rfl) ?_
  refine lv_bipush (v := 10) hx hb dX5_tellSecret_35 (by decide +kernel) ?_
  refine lv_idiv hx hb dX5_tellSecret_37 (by decide +kernel) ?_
  refine lv_istore (lv' := [(4, .int (p1 / 10)), (5, .int 5), (0, .ref h0), (1, .int 1), (2, .int p1), (3, .int 6)]) hx hb dX5_tellSecret_38 hl (by decide) rfl ?_
  clear hl
  clear ls
  intro ls hl
  refine lv_iinc (v := 4) (lv' := [(5, .int 4), (4, .int (p1 / 10)), (0, .ref h0), (1, .int 1), (2, .int p1), (3, .int 6)]) hx hb dX5_tellSecret_40 hl (k := 1) rfl (by decide +kernel) (by decide) rfl ?_
  clear hl
  clear ls
  intro ls hl
  refine lv_goto (tgt := 8) hx hb dX5_tellSecret_43 (by decide) ?_
  refine lv_iload hx hb dX5_tellSecret_8 (lv_at hl 0 rfl) ?_
  refine lv_if_lt (tgt := 46) hx hb dX5_tellSecret_10 (by decide) (fun c9 => absurd c9 (by decide +kernel)) (fun _ => ?_)
  refine lv_aload_n hx hb dX5_tellSecret_13 rfl (lv_at hl 2 rfl) ?_
  refine gm_get (D := D) (ci := 5) (v := .ref h4) (C := RX5) (T := TX5) (N := 5) hx hb hg inlX5 hown hK.1 hP 0 rfl rfl 2 (by decide) tX5_2 (hg _ gw_140) rfl dX5_tellSecret_14 ?_
  refine lv_iload_n hx hb dX5_tellSecret_17 rfl (lv_at hl 3 rfl) ?_
  refine lv_bipush (v := 6) hx hb dX5_tellSecret_18 (by decide +kernel) ?_
  refine lv_imul hx hb dX5_tellSecret_20 ?_
  refine g_fi (v := 6) (by decide +kernel) ?_
  refine lv_iload hx hb dX5_tellSecret_21 (lv_at hl 0 rfl) ?_
  refine lv_iadd hx hb dX5_tellSecret_23 ?_
  refine g_fi (v := 10) (by decide +kernel) ?_
  refine lv_iload hx hb dX5_tellSecret_24 (lv_at hl 1 rfl) ?_
  refine lv_bipush (v := 10) hx hb dX5_tellSecret_26 (by decide +kernel) ?_
  refine lv_irem hx hb dX5_tellSecret_28 (by decide +kernel) ?_
  refine lv_i2l (v := (((p1 / 10) - (p1 / 10) / 10 * 10).toInt64)) hx hb dX5_tellSecret_29 rfl ?_
  refine g_av (wr := [(h0, .inr (5, [.ref h2, .ref h3, .ref h4, .ref h5, .int wp4000547])), (h5, .inr (8, [.ref h10, .int wp4000550])), (h10, .inl (y 1, 3, .inr (.inl (fun _ => 0)))), (h2, .inr (8, [.ref h12, .int 0]))]) (va_runV (As := [.int 10, .long (((p1 / 10) - (p1 / 10) / 10 * 10).toInt64)]) (rest := []) ⟨hx, hb, hml, hown, hg⟩ (k_X8_set_40 l D y aS H.size h4 (((p1 / 10) - (p1 / 10) / 10 * 10).toInt64) h7 wp4000548 (vp_updL wf4000549 ((11 : Int32).toNatClampNeg) ((p1 - p1 / 10 * 10).toInt64))) (cwV 2 hg ggV_RX5_29_X8_set rfl rfl rfl (by decide +kernel) ⟨Nat.le_of_ble_eq_true rfl, Nat.le_of_ble_eq_true rfl⟩) (g_preV (q := (RX8, TX8, 2)) hK hP hD [4, 5] rfl (by decide) (ci := 8) (q0 := 4) rfl rfl) rfl rfl hl.1 rfl (lv_room (Nat.le_of_ble_eq_true rfl)) dX5_tellSecret_30 ⟨Nat.le_of_ble_eq_true rfl, Nat.le_of_ble_eq_true rfl⟩) hP hD hS hA [4, 5] [0, 1, 2, 3] rfl rfl (by decide) (by decide) ?_
  clear hP hD hS H locs
  refine fun u H locs hq hP hD hS => ?_
  replace hP : va_P D vwCl [(h0, .inr (5, [.ref h2, .ref h3, .ref h4, .ref h5, .int wp4000547])), (h5, .inr (8, [.ref h10, .int wp4000550])), (h10, .inl (y 1, 3, .inr (.inl (fun _ => 0)))), (h2, .inr (8, [.ref h12, .int 0])), (h4, .inr (8, [.ref h7, .int wp4000548])), (h7, .inl (y 1, 18, .inr (.inl (vp_updL (vp_updL wf4000549 ((11 : Int32).toNatClampNeg) ((p1 - p1 / 10 * 10).toInt64)) ((10 : Int32).toNatClampNeg) (((p1 / 10) - (p1 / 10) / 10 * 10).toInt64)))))] H := hP
  replace hD : va_D A [(h0, .inr (5, [.ref h2, .ref h3, .ref h4, .ref h5, .int wp4000547])), (h5, .inr (8, [.ref h10, .int wp4000550])), (h10, .inl (y 1, 3, .inr (.inl (fun _ => 0)))), (h2, .inr (8, [.ref h12, .int 0])), (h4, .inr (8, [.ref h7, .int wp4000548])), (h7, .inl (y 1, 18, .inr (.inl (vp_updL (vp_updL wf4000549 ((11 : Int32).toNatClampNeg) ((p1 - p1 / 10 * 10).toInt64)) ((10 : Int32).toNatClampNeg) (((p1 / 10) - (p1 / 10) / 10 * 10).toInt64)))))] := hD
  refine lv_iload hx hb dX5_tellSecret_33 (lv_at hl 1 rfl) ?_
  refine lv_bipush (v := 10) hx hb dX5_tellSecret_35 (by decide +kernel) ?_
  refine lv_idiv hx hb dX5_tellSecret_37 (by decide +kernel) ?_
  refine lv_istore (lv' := [(4, .int ((p1 / 10) / 10)), (5, .int 4), (0, .ref h0), (1, .int 1), (2, .int p1), (3, .int 6)]) hx hb dX5_tellSecret_38 hl (by decide) rfl ?_
  clear hl
  clear ls
  intro ls hl
  refine lv_iinc (v := 3) (lv' := [(5, .int 3), (4, .int ((p1 / 10) / 10)), (0, .ref h0), (1, .int 1), (2, .int p1), (3, .int 6)]) hx hb dX5_tellSecret_40 hl (k := 1) rfl (by decide +kernel) (by decide) rfl ?_
  clear hl
  clear ls
  intro ls hl
  refine lv_goto (tgt := 8) hx hb dX5_tellSecret_43 (by decide) ?_
  refine lv_iload hx hb dX5_tellSecret_8 (lv_at hl 0 rfl) ?_
  refine lv_if_lt (tgt := 46) hx hb dX5_tellSecret_10 (by decide) (fun c9 => absurd c9 (by decide +kernel)) (fun _ => ?_)
  refine lv_aload_n hx hb dX5_tellSecret_13 rfl (lv_at hl 2 rfl) ?_
  refine gm_get (D := D) (ci := 5) (v := .ref h4) (C := RX5) (T := TX5) (N := 5) hx hb hg inlX5 hown hK.1 hP 0 rfl rfl 2 (by decide) tX5_2 (hg _ gw_140) rfl dX5_tellSecret_14 ?_
  refine lv_iload_n hx hb dX5_tellSecret_17 rfl (lv_at hl 3 rfl) ?_
  refine lv_bipush (v := 6) hx hb dX5_tellSecret_18 (by decide +kernel) ?_
  refine lv_imul hx hb dX5_tellSecret_20 ?_
  refine g_fi (v := 6) (by decide +kernel) ?_
  refine lv_iload hx hb dX5_tellSecret_21 (lv_at hl 0 rfl) ?_
  refine lv_iadd hx hb dX5_tellSecret_23 ?_
  refine g_fi (v := 9) (by decide +kernel) ?_
  refine lv_iload hx hb dX5_tellSecret_24 (lv_at hl 1 rfl) ?_
  refine lv_bipush (v := 10) hx hb dX5_tellSecret_26 (by decide +kernel) ?_
  refine lv_irem hx hb dX5_tellSecret_28 (by decide +kernel) ?_
  refine lv_i2l (v := ((((p1 / 10) / 10) - ((p1 / 10) / 10) / 10 * 10).toInt64)) hx hb dX5_tellSecret_29 rfl ?_
  refine g_av (wr := [(h0, .inr (5, [.ref h2, .ref h3, .ref h4, .ref h5, .int wp4000547])), (h5, .inr (8, [.ref h10, .int wp4000550])), (h10, .inl (y 1, 3, .inr (.inl (fun _ => 0)))), (h2, .inr (8, [.ref h12, .int 0]))]) (va_runV (As := [.int 9, .long ((((p1 / 10) / 10) - ((p1 / 10) / 10) / 10 * 10).toInt64)]) (rest := []) ⟨hx, hb, hml, hown, hg⟩ (k_X8_set_37 l D y aS H.size h4 ((((p1 / 10) / 10) - ((p1 / 10) / 10) / 10 * 10).toInt64) h7 wp4000548 (vp_updL (vp_updL wf4000549 ((11 : Int32).toNatClampNeg) ((p1 - p1 / 10 * 10).toInt64)) ((10 : Int32).toNatClampNeg) (((p1 / 10) - (p1 / 10) / 10 * 10).toInt64))) (cwV 2 hg ggV_RX5_29_X8_set rfl rfl rfl (by decide +kernel) ⟨Nat.le_of_ble_eq_true rfl, Nat.le_of_ble_eq_true rfl⟩) (g_preV (q := (RX8, TX8, 2)) hK hP hD [4, 5] rfl (by decide) (ci := 8) (q0 := 4) rfl rfl) rfl rfl hl.1 rfl (lv_room (Nat.le_of_ble_eq_true rfl)) dX5_tellSecret_30 ⟨Nat.le_of_ble_eq_true rfl, Nat.le_of_ble_eq_true rfl⟩) hP hD hS hA [4, 5] [0, 1, 2, 3] rfl rfl (by decide) (by decide) ?_
  clear hP hD hS H locs
  refine fun u H locs hq hP hD hS => ?_
  replace hP : va_P D vwCl [(h0, .inr (5, [.ref h2, .ref h3, .ref h4, .ref h5, .int wp4000547])), (h5, .inr (8, [.ref h10, .int wp4000550])), (h10, .inl (y 1, 3, .inr (.inl (fun _ => 0)))), (h2, .inr (8, [.ref h12, .int 0])), (h4, .inr (8, [.ref h7, .int wp4000548])), (h7, .inl (y 1, 18, .inr (.inl (vp_updL (vp_updL (vp_updL wf4000549 ((11 : Int32).toNatClampNeg) ((p1 - p1 / 10 * 10).toInt64)) ((10 : Int32).toNatClampNeg) (((p1 / 10) - (p1 / 10) / 10 * 10).toInt64)) ((9 : Int32).toNatClampNeg) ((((p1 / 10) / 10) - ((p1 / 10) / 10) / 10 * 10).toInt64)))))] H := hP
  replace hD : va_D A [(h0, .inr (5, [.ref h2, .ref h3, .ref h4, .ref h5, .int wp4000547])), (h5, .inr (8, [.ref h10, .int wp4000550])), (h10, .inl (y 1, 3, .inr (.inl (fun _ => 0)))), (h2, .inr (8, [.ref h12, .int 0])), (h4, .inr (8, [.ref h7, .int wp4000548])), (h7, .inl (y 1, 18, .inr (.inl (vp_updL (vp_updL (vp_updL wf4000549 ((11 : Int32).toNatClampNeg) ((p1 - p1 / 10 * 10).toInt64)) ((10 : Int32).toNatClampNeg) (((p1 / 10) - (p1 / 10) / 10 * 10).toInt64)) ((9 : Int32).toNatClampNeg) ((((p1 / 10) / 10) - ((p1 / 10) / 10) / 10 * 10).toInt64)))))] := hD
  refine lv_iload hx hb dX5_tellSecret_33 (lv_at hl 1 rfl) ?_
  refine lv_bipush (v := 10) hx hb dX5_tellSecret_35 (by decide +kernel) ?_
  refine lv_idiv hx hb dX5_tellSecret_37 (by decide +kernel) ?_
  refine lv_istore (lv' := [(4, .int (((p1 / 10) / 10) / 10)), (5, .int 3), (0, .ref h0), (1, .int 1), (2, .int p1), (3, .int 6)]) hx hb dX5_tellSecret_38 hl (by decide) rfl ?_
  clear hl
  clear ls
  intro ls hl
  refine lv_iinc (v := 2) (lv' := [(5, .int 2), (4, .int (((p1 / 10) / 10) / 10)), (0, .ref h0), (1, .int 1), (2, .int p1), (3, .int 6)]) hx hb dX5_tellSecret_40 hl (k := 1) rfl (by decide +kernel) (by decide) rfl ?_
  clear hl
  clear ls
  intro ls hl
  refine lv_goto (tgt := 8) hx hb dX5_tellSecret_43 (by decide) ?_
  refine lv_iload hx hb dX5_tellSecret_8 (lv_at hl 0 rfl) ?_
  refine lv_if_lt (tgt := 46) hx hb dX5_tellSecret_10 (by decide) (fun c9 => absurd c9 (by decide +kernel)) (fun _ => ?_)
  refine lv_aload_n hx hb dX5_tellSecret_13 rfl (lv_at hl 2 rfl) ?_
  refine gm_get (D := D) (ci := 5) (v := .ref h4) (C := RX5) (T := TX5) (N := 5) hx hb hg inlX5 hown hK.1 hP 0 rfl rfl 2 (by decide) tX5_2 (hg _ gw_140) rfl dX5_tellSecret_14 ?_
  refine lv_iload_n hx hb dX5_tellSecret_17 rfl (lv_at hl 3 rfl) ?_
  refine lv_bipush (v := 6) hx hb dX5_tellSecret_18 (by decide +kernel) ?_
  refine lv_imul hx hb dX5_tellSecret_20 ?_
  refine g_fi (v := 6) (by decide +kernel) ?_
  refine lv_iload hx hb dX5_tellSecret_21 (lv_at hl 0 rfl) ?_
  refine lv_iadd hx hb dX5_tellSecret_23 ?_
  refine g_fi (v := 8) (by decide +kernel) ?_
  refine lv_iload hx hb dX5_tellSecret_24 (lv_at hl 1 rfl) ?_
  refine lv_bipush (v := 10) hx hb dX5_tellSecret_26 (by decide +kernel) ?_
  refine lv_irem hx hb dX5_tellSecret_28 (by decide +kernel) ?_
  refine lv_i2l (v := (((((p1 / 10) / 10) / 10) - (((p1 / 10) / 10) / 10) / 10 * 10).toInt64)) hx hb dX5_tellSecret_29 rfl ?_
  refine g_av (wr := [(h0, .inr (5, [.ref h2, .ref h3, .ref h4, .ref h5, .int wp4000547])), (h5, .inr (8, [.ref h10, .int wp4000550])), (h10, .inl (y 1, 3, .inr (.inl (fun _ => 0)))), (h2, .inr (8, [.ref h12, .int 0]))]) (va_runV (As := [.int 8, .long (((((p1 / 10) / 10) / 10) - (((p1 / 10) / 10) / 10) / 10 * 10).toInt64)]) (rest := []) ⟨hx, hb, hml, hown, hg⟩ (k_X8_set_34 l D y aS H.size h4 (((((p1 / 10) / 10) / 10) - (((p1 / 10) / 10) / 10) / 10 * 10).toInt64) h7 wp4000548 (vp_updL (vp_updL (vp_updL wf4000549 ((11 : Int32).toNatClampNeg) ((p1 - p1 / 10 * 10).toInt64)) ((10 : Int32).toNatClampNeg) (((p1 / 10) - (p1 / 10) / 10 * 10).toInt64)) ((9 : Int32).toNatClampNeg) ((((p1 / 10) / 10) - ((p1 / 10) / 10) / 10 * 10).toInt64))) (cwV 2 hg ggV_RX5_29_X8_set rfl rfl rfl (by decide +kernel) ⟨Nat.le_of_ble_eq_true rfl, Nat.le_of_ble_eq_true rfl⟩) (g_preV (q := (RX8, TX8, 2)) hK hP hD [4, 5] rfl (by decide) (ci := 8) (q0 := 4) rfl rfl) rfl rfl hl.1 rfl (lv_room (Nat.le_of_ble_eq_true rfl)) dX5_tellSecret_30 ⟨Nat.le_of_ble_eq_true rfl, Nat.le_of_ble_eq_true rfl⟩) hP hD hS hA [4, 5] [0, 1, 2, 3] rfl rfl (by decide) (by decide) ?_
  clear hP hD hS H locs
  refine fun u H locs hq hP hD hS => ?_
  replace hP : va_P D vwCl [(h0, .inr (5, [.ref h2, .ref h3, .ref h4, .ref h5, .int wp4000547])), (h5, .inr (8, [.ref h10, .int wp4000550])), (h10, .inl (y 1, 3, .inr (.inl (fun _ => 0)))), (h2, .inr (8, [.ref h12, .int 0])), (h4, .inr (8, [.ref h7, .int wp4000548])), (h7, .inl (y 1, 18, .inr (.inl (vp_updL (vp_updL (vp_updL (vp_updL wf4000549 ((11 : Int32).toNatClampNeg) ((p1 - p1 / 10 * 10).toInt64)) ((10 : Int32).toNatClampNeg) (((p1 / 10) - (p1 / 10) / 10 * 10).toInt64)) ((9 : Int32).toNatClampNeg) ((((p1 / 10) / 10) - ((p1 / 10) / 10) / 10 * 10).toInt64)) ((8 : Int32).toNatClampNeg) (((((p1 / 10) / 10) / 10) - (((p1 / 10) / 10) / 10) / 10 * 10).toInt64)))))] H := hP
  replace hD : va_D A [(h0, .inr (5, [.ref h2, .ref h3, .ref h4, .ref h5, .int wp4000547])), (h5, .inr (8, [.ref h10, .int wp4000550])), (h10, .inl (y 1, 3, .inr (.inl (fun _ => 0)))), (h2, .inr (8, [.ref h12, .int 0])), (h4, .inr (8, [.ref h7, .int wp4000548])), (h7, .inl (y 1, 18, .inr (.inl (vp_updL (vp_updL (vp_updL (vp_updL wf4000549 ((11 : Int32).toNatClampNeg) ((p1 - p1 / 10 * 10).toInt64)) ((10 : Int32).toNatClampNeg) (((p1 / 10) - (p1 / 10) / 10 * 10).toInt64)) ((9 : Int32).toNatClampNeg) ((((p1 / 10) / 10) - ((p1 / 10) / 10) / 10 * 10).toInt64)) ((8 : Int32).toNatClampNeg) (((((p1 / 10) / 10) / 10) - (((p1 / 10) / 10) / 10) / 10 * 10).toInt64)))))] := hD
  refine lv_iload hx hb dX5_tellSecret_33 (lv_at hl 1 rfl) ?_
  refine lv_bipush (v := 10) hx hb dX5_tellSecret_35 (by decide +kernel) ?_
  refine lv_idiv hx hb dX5_tellSecret_37 (by decide +kernel) ?_
  refine lv_istore (lv' := [(4, .int ((((p1 / 10) / 10) / 10) / 10)), (5, .int 2), (0, .ref h0), (1, .int 1), (2, .int p1), (3, .int 6)]) hx hb dX5_tellSecret_38 hl (by decide) rfl ?_
  clear hl
  clear ls
  intro ls hl
  refine lv_iinc (v := 1) (lv' := [(5, .int 1), (4, .int ((((p1 / 10) / 10) / 10) / 10)), (0, .ref h0), (1, .int 1), (2, .int p1), (3, .int 6)]) hx hb dX5_tellSecret_40 hl (k := 1) rfl (by decide +kernel) (by decide) rfl ?_
  clear hl
  clear ls
  intro ls hl
  refine lv_goto (tgt := 8) hx hb dX5_tellSecret_43 (by decide) ?_
  refine lv_iload hx hb dX5_tellSecret_8 (lv_at hl 0 rfl) ?_
  refine lv_if_lt (tgt := 46) hx hb dX5_tellSecret_10 (by decide) (fun c9 => absurd c9 (by decide +kernel)) (fun _ => ?_)
  refine lv_aload_n hx hb dX5_tellSecret_13 rfl (lv_at hl 2 rfl) ?_
  refine gm_get (D := D) (ci := 5) (v := .ref h4) (C := RX5) (T := TX5) (N := 5) hx hb hg inlX5 hown hK.1 hP 0 rfl rfl 2 (by decide) tX5_2 (hg _ gw_140) rfl dX5_tellSecret_14 ?_
  refine lv_iload_n hx hb dX5_tellSecret_17 rfl (lv_at hl 3 rfl) ?_
  refine lv_bipush (v := 6) hx hb dX5_tellSecret_18 (by decide +kernel) ?_
  refine lv_imul hx hb dX5_tellSecret_20 ?_
  refine g_fi (v := 6) (by decide +kernel) ?_
  refine lv_iload hx hb dX5_tellSecret_21 (lv_at hl 0 rfl) ?_
  refine lv_iadd hx hb dX5_tellSecret_23 ?_
  refine g_fi (v := 7) (by decide +kernel) ?_
  refine lv_iload hx hb dX5_tellSecret_24 (lv_at hl 1 rfl) ?_
  refine lv_bipush (v := 10) hx hb dX5_tellSecret_26 (by decide +kernel) ?_
  refine lv_irem hx hb dX5_tellSecret_28 (by decide +kernel) ?_
  refine lv_i2l (v := ((((((p1 / 10) / 10) / 10) / 10) - ((((p1 / 10) / 10) / 10) / 10) / 10 * 10).toInt64)) hx hb dX5_tellSecret_29 rfl ?_
  refine g_av (wr := [(h0, .inr (5, [.ref h2, .ref h3, .ref h4, .ref h5, .int wp4000547])), (h5, .inr (8, [.ref h10, .int wp4000550])), (h10, .inl (y 1, 3, .inr (.inl (fun _ => 0)))), (h2, .inr (8, [.ref h12, .int 0]))]) (va_runV (As := [.int 7, .long ((((((p1 / 10) / 10) / 10) / 10) - ((((p1 / 10) / 10) / 10) / 10) / 10 * 10).toInt64)]) (rest := []) ⟨hx, hb, hml, hown, hg⟩ (k_X8_set_29 l D y aS H.size h4 ((((((p1 / 10) / 10) / 10) / 10) - ((((p1 / 10) / 10) / 10) / 10) / 10 * 10).toInt64) h7 wp4000548 (vp_updL (vp_updL (vp_updL (vp_updL wf4000549 ((11 : Int32).toNatClampNeg) ((p1 - p1 / 10 * 10).toInt64)) ((10 : Int32).toNatClampNeg) (((p1 / 10) - (p1 / 10) / 10 * 10).toInt64)) ((9 : Int32).toNatClampNeg) ((((p1 / 10) / 10) - ((p1 / 10) / 10) / 10 * 10).toInt64)) ((8 : Int32).toNatClampNeg) (((((p1 / 10) / 10) / 10) - (((p1 / 10) / 10) / 10) / 10 * 10).toInt64))) (cwV 2 hg ggV_RX5_29_X8_set rfl rfl rfl (by decide +kernel) ⟨Nat.le_of_ble_eq_true rfl, Nat.le_of_ble_eq_true rfl⟩) (g_preV (q := (RX8, TX8, 2)) hK hP hD [4, 5] rfl (by decide) (ci := 8) (q0 := 4) rfl rfl) rfl rfl hl.1 rfl (lv_room (Nat.le_of_ble_eq_true rfl)) dX5_tellSecret_30 ⟨Nat.le_of_ble_eq_true rfl, Nat.le_of_ble_eq_true rfl⟩) hP hD hS hA [4, 5] [0, 1, 2, 3] rfl rfl (by decide) (by decide) ?_
  clear hP hD hS H locs
  refine fun u H locs hq hP hD hS => ?_
  replace hP : va_P D vwCl [(h0, .inr (5, [.ref h2, .ref h3, .ref h4, .ref h5, .int wp4000547])), (h5, .inr (8, [.ref h10, .int wp4000550])), (h10, .inl (y 1, 3, .inr (.inl (fun _ => 0)))), (h2, .inr (8, [.ref h12, .int 0])), (h4, .inr (8, [.ref h7, .int wp4000548])), (h7, .inl (y 1, 18, .inr (.inl (vp_updL (vp_updL (vp_updL (vp_updL (vp_updL wf4000549 ((11 : Int32).toNatClampNeg) ((p1 - p1 / 10 * 10).toInt64)) ((10 : Int32).toNatClampNeg) (((p1 / 10) - (p1 / 10) / 10 * 10).toInt64)) ((9 : Int32).toNatClampNeg) ((((p1 / 10) / 10) - ((p1 / 10) / 10) / 10 * 10).toInt64)) ((8 : Int32).toNatClampNeg) (((((p1 / 10) / 10) / 10) - (((p1 / 10) / 10) / 10) / 10 * 10).toInt64)) ((7 : Int32).toNatClampNeg) ((((((p1 / 10) / 10) / 10) / 10) - ((((p1 / 10) / 10) / 10) / 10) / 10 * 10).toInt64)))))] H := hP
  replace hD : va_D A [(h0, .inr (5, [.ref h2, .ref h3, .ref h4, .ref h5, .int wp4000547])), (h5, .inr (8, [.ref h10, .int wp4000550])), (h10, .inl (y 1, 3, .inr (.inl (fun _ => 0)))), (h2, .inr (8, [.ref h12, .int 0])), (h4, .inr (8, [.ref h7, .int wp4000548])), (h7, .inl (y 1, 18, .inr (.inl (vp_updL (vp_updL (vp_updL (vp_updL (vp_updL wf4000549 ((11 : Int32).toNatClampNeg) ((p1 - p1 / 10 * 10).toInt64)) ((10 : Int32).toNatClampNeg) (((p1 / 10) - (p1 / 10) / 10 * 10).toInt64)) ((9 : Int32).toNatClampNeg) ((((p1 / 10) / 10) - ((p1 / 10) / 10) / 10 * 10).toInt64)) ((8 : Int32).toNatClampNeg) (((((p1 / 10) / 10) / 10) - (((p1 / 10) / 10) / 10) / 10 * 10).toInt64)) ((7 : Int32).toNatClampNeg) ((((((p1 / 10) / 10) / 10) / 10) - ((((p1 / 10) / 10) / 10) / 10) / 10 * 10).toInt64)))))] := hD
  refine lv_iload hx hb dX5_tellSecret_33 (lv_at hl 1 rfl) ?_
  refine lv_bipush (v := 10) hx hb dX5_tellSecret_35 (by decide +kernel) ?_
  refine lv_idiv hx hb dX5_tellSecret_37 (by decide +kernel) ?_
  refine lv_istore (lv' := [(4, .int (((((p1 / 10) / 10) / 10) / 10) / 10)), (5, .int 1), (0, .ref h0), (1, .int 1), (2, .int p1), (3, .int 6)]) hx hb dX5_tellSecret_38 hl (by decide) rfl ?_
  clear hl
  clear ls
  intro ls hl
  refine lv_iinc (v := 0) (lv' := [(5, .int 0), (4, .int (((((p1 / 10) / 10) / 10) / 10) / 10)), (0, .ref h0), (1, .int 1), (2, .int p1), (3, .int 6)]) hx hb dX5_tellSecret_40 hl (k := 1) rfl (by decide +kernel) (by decide) rfl ?_
  clear hl
  clear ls
  intro ls hl
  refine lv_goto (tgt := 8) hx hb dX5_tellSecret_43 (by decide) ?_
  refine lv_iload hx hb dX5_tellSecret_8 (lv_at hl 0 rfl) ?_
  refine lv_if_lt (tgt := 46) hx hb dX5_tellSecret_10 (by decide) (fun c9 => absurd c9 (by decide +kernel)) (fun _ => ?_)
  refine lv_aload_n hx hb dX5_tellSecret_13 rfl (lv_at hl 2 rfl) ?_
  refine gm_get (D := D) (ci := 5) (v := .ref h4) (C := RX5) (T := TX5) (N := 5) hx hb hg inlX5 hown hK.1 hP 0 rfl rfl 2 (by decide) tX5_2 (hg _ gw_140) rfl dX5_tellSecret_14 ?_
  refine lv_iload_n hx hb dX5_tellSecret_17 rfl (lv_at hl 3 rfl) ?_
  refine lv_bipush (v := 6) hx hb dX5_tellSecret_18 (by decide +kernel) ?_
  refine lv_imul hx hb dX5_tellSecret_20 ?_
  refine g_fi (v := 6) (by decide +kernel) ?_
  refine lv_iload hx hb dX5_tellSecret_21 (lv_at hl 0 rfl) ?_
  refine lv_iadd hx hb dX5_tellSecret_23 ?_
  refine g_fi (v := 6) (by decide +kernel) ?_
  refine lv_iload hx hb dX5_tellSecret_24 (lv_at hl 1 rfl) ?_
  refine lv_bipush (v := 10) hx hb dX5_tellSecret_26 (by decide +kernel) ?_
  refine lv_irem hx hb dX5_tellSecret_28 (by decide +kernel) ?_
  refine lv_i2l (v := (((((((p1 / 10) / 10) / 10) / 10) / 10) - (((((p1 / 10) / 10) / 10) / 10) / 10) / 10 * 10).toInt64)) hx hb dX5_tellSecret_29 rfl ?_
  refine g_av (wr := [(h0, .inr (5, [.ref h2, .ref h3, .ref h4, .ref h5, .int wp4000547])), (h5, .inr (8, [.ref h10, .int wp4000550])), (h10, .inl (y 1, 3, .inr (.inl (fun _ => 0)))), (h2, .inr (8, [.ref h12, .int 0]))]) (va_runV (As := [.int 6, .long (((((((p1 / 10) / 10) / 10) / 10) / 10) - (((((p1 / 10) / 10) / 10) / 10) / 10) / 10 * 10).toInt64)]) (rest := []) ⟨hx, hb, hml, hown, hg⟩ (k_X8_set_30 l D y aS H.size h4 (((((((p1 / 10) / 10) / 10) / 10) / 10) - (((((p1 / 10) / 10) / 10) / 10) / 10) / 10 * 10).toInt64) h7 wp4000548 (vp_updL (vp_updL (vp_updL (vp_updL (vp_updL wf4000549 ((11 : Int32).toNatClampNeg) ((p1 - p1 / 10 * 10).toInt64)) ((10 : Int32).toNatClampNeg) (((p1 / 10) - (p1 / 10) / 10 * 10).toInt64)) ((9 : Int32).toNatClampNeg) ((((p1 / 10) / 10) - ((p1 / 10) / 10) / 10 * 10).toInt64)) ((8 : Int32).toNatClampNeg) (((((p1 / 10) / 10) / 10) - (((p1 / 10) / 10) / 10) / 10 * 10).toInt64)) ((7 : Int32).toNatClampNeg) ((((((p1 / 10) / 10) / 10) / 10) - ((((p1 / 10) / 10) / 10) / 10) / 10 * 10).toInt64))) (cwV 2 hg ggV_RX5_29_X8_set rfl rfl rfl (by decide +kernel) ⟨Nat.le_of_ble_eq_true rfl, Nat.le_of_ble_eq_true rfl⟩) (g_preV (q := (RX8, TX8, 2)) hK hP hD [4, 5] rfl (by decide) (ci := 8) (q0 := 4) rfl rfl) rfl rfl hl.1 rfl (lv_room (Nat.le_of_ble_eq_true rfl)) dX5_tellSecret_30 ⟨Nat.le_of_ble_eq_true rfl, Nat.le_of_ble_eq_true rfl⟩) hP hD hS hA [4, 5] [0, 1, 2, 3] rfl rfl (by decide) (by decide) ?_
  clear hP hD hS H locs
  refine fun u H locs hq hP hD hS => ?_
  replace hP : va_P D vwCl [(h0, .inr (5, [.ref h2, .ref h3, .ref h4, .ref h5, .int wp4000547])), (h5, .inr (8, [.ref h10, .int wp4000550])), (h10, .inl (y 1, 3, .inr (.inl (fun _ => 0)))), (h2, .inr (8, [.ref h12, .int 0])), (h4, .inr (8, [.ref h7, .int wp4000548])), (h7, .inl (y 1, 18, .inr (.inl (vp_updL (vp_updL (vp_updL (vp_updL (vp_updL (vp_updL wf4000549 ((11 : Int32).toNatClampNeg) ((p1 - p1 / 10 * 10).toInt64)) ((10 : Int32).toNatClampNeg) (((p1 / 10) - (p1 / 10) / 10 * 10).toInt64)) ((9 : Int32).toNatClampNeg) ((((p1 / 10) / 10) - ((p1 / 10) / 10) / 10 * 10).toInt64)) ((8 : Int32).toNatClampNeg) (((((p1 / 10) / 10) / 10) - (((p1 / 10) / 10) / 10) / 10 * 10).toInt64)) ((7 : Int32).toNatClampNeg) ((((((p1 / 10) / 10) / 10) / 10) - ((((p1 / 10) / 10) / 10) / 10) / 10 * 10).toInt64)) ((6 : Int32).toNatClampNeg) (((((((p1 / 10) / 10) / 10) / 10) / 10) - (((((p1 / 10) / 10) / 10) / 10) / 10) / 10 * 10).toInt64)))))] H := hP
  replace hD : va_D A [(h0, .inr (5, [.ref h2, .ref h3, .ref h4, .ref h5, .int wp4000547])), (h5, .inr (8, [.ref h10, .int wp4000550])), (h10, .inl (y 1, 3, .inr (.inl (fun _ => 0)))), (h2, .inr (8, [.ref h12, .int 0])), (h4, .inr (8, [.ref h7, .int wp4000548])), (h7, .inl (y 1, 18, .inr (.inl (vp_updL (vp_updL (vp_updL (vp_updL (vp_updL (vp_updL wf4000549 ((11 : Int32).toNatClampNeg) ((p1 - p1 / 10 * 10).toInt64)) ((10 : Int32).toNatClampNeg) (((p1 / 10) - (p1 / 10) / 10 * 10).toInt64)) ((9 : Int32).toNatClampNeg) ((((p1 / 10) / 10) - ((p1 / 10) / 10) / 10 * 10).toInt64)) ((8 : Int32).toNatClampNeg) (((((p1 / 10) / 10) / 10) - (((p1 / 10) / 10) / 10) / 10 * 10).toInt64)) ((7 : Int32).toNatClampNeg) ((((((p1 / 10) / 10) / 10) / 10) - ((((p1 / 10) / 10) / 10) / 10) / 10 * 10).toInt64)) ((6 : Int32).toNatClampNeg) (((((((p1 / 10) / 10) / 10) / 10) / 10) - (((((p1 / 10) / 10) / 10) / 10) / 10) / 10 * 10).toInt64)))))] := hD
  refine lv_iload hx hb dX5_tellSecret_33 (lv_at hl 1 rfl) ?_
  refine lv_bipush (v := 10) hx hb dX5_tellSecret_35 (by decide +kernel) ?_
  refine lv_idiv hx hb dX5_tellSecret_37 (by decide +kernel) ?_
  refine lv_istore (lv' := [(4, .int ((((((p1 / 10) / 10) / 10) / 10) / 10) / 10)), (5, .int 0), (0, .ref h0), (1, .int 1), (2, .int p1), (3, .int 6)]) hx hb dX5_tellSecret_38 hl (by decide) rfl ?_
  clear hl
  clear ls
  intro ls hl
  refine lv_iinc (v := (-1)) (lv' := [(5, .int (-1)), (4, .int ((((((p1 / 10) / 10) / 10) / 10) / 10) / 10)), (0, .ref h0), (1, .int 1), (2, .int p1), (3, .int 6)]) hx hb dX5_tellSecret_40 hl (k := 1) rfl (by decide +kernel) (by decide) rfl ?_
  clear hl
  clear ls
  intro ls hl
  refine lv_goto (tgt := 8) hx hb dX5_tellSecret_43 (by decide) ?_
  refine lv_iload hx hb dX5_tellSecret_8 (lv_at hl 0 rfl) ?_
  refine lv_if_lt (tgt := 46) hx hb dX5_tellSecret_10 (by decide) (fun _ => ?_) (fun c9 => absurd c9 (by decide +kernel))
  refine lv_aload_n hx hb dX5_tellSecret_46 rfl (lv_at hl 2 rfl) ?_
  refine gm_get (D := D) (ci := 5) (v := .ref h5) (C := RX5) (T := TX5) (N := 5) hx hb hg inlX5 hown hK.1 hP 0 rfl rfl 3 (by decide) tX5_3 (hg _ gw_141) rfl dX5_tellSecret_47 ?_
  refine lv_iload_n hx hb dX5_tellSecret_50 rfl (lv_at hl 3 rfl) ?_
  refine lv_iload_n hx hb dX5_tellSecret_51 rfl (lv_at hl 5 rfl) ?_
  refine lv_i2l (v := 6) hx hb dX5_tellSecret_52 (by decide +kernel) ?_
  refine g_av (wr := [(h0, .inr (5, [.ref h2, .ref h3, .ref h4, .ref h5, .int wp4000547])), (h2, .inr (8, [.ref h12, .int 0])), (h4, .inr (8, [.ref h7, .int wp4000548])), (h7, .inl (y 1, 18, .inr (.inl (vp_updL (vp_updL (vp_updL (vp_updL (vp_updL (vp_updL wf4000549 ((11 : Int32).toNatClampNeg) ((p1 - p1 / 10 * 10).toInt64)) ((10 : Int32).toNatClampNeg) (((p1 / 10) - (p1 / 10) / 10 * 10).toInt64)) ((9 : Int32).toNatClampNeg) ((((p1 / 10) / 10) - ((p1 / 10) / 10) / 10 * 10).toInt64)) ((8 : Int32).toNatClampNeg) (((((p1 / 10) / 10) / 10) - (((p1 / 10) / 10) / 10) / 10 * 10).toInt64)) ((7 : Int32).toNatClampNeg) ((((((p1 / 10) / 10) / 10) / 10) - ((((p1 / 10) / 10) / 10) / 10) / 10 * 10).toInt64)) ((6 : Int32).toNatClampNeg) (((((((p1 / 10) / 10) / 10) / 10) / 10) - (((((p1 / 10) / 10) / 10) / 10) / 10) / 10 * 10).toInt64)))))]) (va_runV (As := [.int 1, .long 6]) (rest := []) ⟨hx, hb, hml, hown, hg⟩ (k_X8_set_25 l D y aS H.size h5 6 h10 wp4000550 (fun _ => 0)) (cwV 2 hg ggV_RX5_29_X8_set rfl rfl rfl (by decide +kernel) ⟨Nat.le_of_ble_eq_true rfl, Nat.le_of_ble_eq_true rfl⟩) (g_preV (q := (RX8, TX8, 2)) hK hP hD [1, 2] rfl (by decide) (ci := 8) (q0 := 1) rfl rfl) rfl rfl hl.1 rfl (lv_room (Nat.le_of_ble_eq_true rfl)) dX5_tellSecret_53 ⟨Nat.le_of_ble_eq_true rfl, Nat.le_of_ble_eq_true rfl⟩) hP hD hS hA [1, 2] [0, 3, 4, 5] rfl rfl (by decide) (by decide) ?_
  clear hP hD hS H locs
  refine fun u H locs hq hP hD hS => ?_
  replace hP : va_P D vwCl [(h0, .inr (5, [.ref h2, .ref h3, .ref h4, .ref h5, .int wp4000547])), (h2, .inr (8, [.ref h12, .int 0])), (h4, .inr (8, [.ref h7, .int wp4000548])), (h7, .inl (y 1, 18, .inr (.inl (vp_updL (vp_updL (vp_updL (vp_updL (vp_updL (vp_updL wf4000549 ((11 : Int32).toNatClampNeg) ((p1 - p1 / 10 * 10).toInt64)) ((10 : Int32).toNatClampNeg) (((p1 / 10) - (p1 / 10) / 10 * 10).toInt64)) ((9 : Int32).toNatClampNeg) ((((p1 / 10) / 10) - ((p1 / 10) / 10) / 10 * 10).toInt64)) ((8 : Int32).toNatClampNeg) (((((p1 / 10) / 10) / 10) - (((p1 / 10) / 10) / 10) / 10 * 10).toInt64)) ((7 : Int32).toNatClampNeg) ((((((p1 / 10) / 10) / 10) / 10) - ((((p1 / 10) / 10) / 10) / 10) / 10 * 10).toInt64)) ((6 : Int32).toNatClampNeg) (((((((p1 / 10) / 10) / 10) / 10) / 10) - (((((p1 / 10) / 10) / 10) / 10) / 10) / 10 * 10).toInt64))))), (h5, .inr (8, [.ref h10, .int wp4000550])), (h10, .inl (y 1, 3, .inr (.inl (vp_updL (fun _ => 0) ((1 : Int32).toNatClampNeg) 6))))] H := hP
  replace hD : va_D A [(h0, .inr (5, [.ref h2, .ref h3, .ref h4, .ref h5, .int wp4000547])), (h2, .inr (8, [.ref h12, .int 0])), (h4, .inr (8, [.ref h7, .int wp4000548])), (h7, .inl (y 1, 18, .inr (.inl (vp_updL (vp_updL (vp_updL (vp_updL (vp_updL (vp_updL wf4000549 ((11 : Int32).toNatClampNeg) ((p1 - p1 / 10 * 10).toInt64)) ((10 : Int32).toNatClampNeg) (((p1 / 10) - (p1 / 10) / 10 * 10).toInt64)) ((9 : Int32).toNatClampNeg) ((((p1 / 10) / 10) - ((p1 / 10) / 10) / 10 * 10).toInt64)) ((8 : Int32).toNatClampNeg) (((((p1 / 10) / 10) / 10) - (((p1 / 10) / 10) / 10) / 10 * 10).toInt64)) ((7 : Int32).toNatClampNeg) ((((((p1 / 10) / 10) / 10) / 10) - ((((p1 / 10) / 10) / 10) / 10) / 10 * 10).toInt64)) ((6 : Int32).toNatClampNeg) (((((((p1 / 10) / 10) / 10) / 10) / 10) - (((((p1 / 10) / 10) / 10) / 10) / 10) / 10 * 10).toInt64))))), (h5, .inr (8, [.ref h10, .int wp4000550])), (h10, .inl (y 1, 3, .inr (.inl (vp_updL (fun _ => 0) ((1 : Int32).toNatClampNeg) 6))))] := hD
  refine lv_aload_n hx hb dX5_tellSecret_56 rfl (lv_at hl 2 rfl) ?_
  refine g_av (wr := [(h4, .inr (8, [.ref h7, .int wp4000548])), (h7, .inl (y 1, 18, .inr (.inl (vp_updL (vp_updL (vp_updL (vp_updL (vp_updL (vp_updL wf4000549 ((11 : Int32).toNatClampNeg) ((p1 - p1 / 10 * 10).toInt64)) ((10 : Int32).toNatClampNeg) (((p1 / 10) - (p1 / 10) / 10 * 10).toInt64)) ((9 : Int32).toNatClampNeg) ((((p1 / 10) / 10) - ((p1 / 10) / 10) / 10 * 10).toInt64)) ((8 : Int32).toNatClampNeg) (((((p1 / 10) / 10) / 10) - (((p1 / 10) / 10) / 10) / 10 * 10).toInt64)) ((7 : Int32).toNatClampNeg) ((((((p1 / 10) / 10) / 10) / 10) - ((((p1 / 10) / 10) / 10) / 10) / 10 * 10).toInt64)) ((6 : Int32).toNatClampNeg) (((((((p1 / 10) / 10) / 10) / 10) / 10) - (((((p1 / 10) / 10) / 10) / 10) / 10) / 10 * 10).toInt64))))), (h5, .inr (8, [.ref h10, .int wp4000550])), (h10, .inl (y 1, 3, .inr (.inl (vp_updL (fun _ => 0) ((1 : Int32).toNatClampNeg) 6))))]) (va_runV (As := []) (rest := []) ⟨hx, hb, hml, hown, hg⟩ (k_X5_findOut_0 l D y aS H.size h0 h2 h3 h4 h5 wp4000547 h12) (cwV 0 hg ggV_RX5_33_X5_findOut rfl rfl rfl (by decide +kernel) ⟨Nat.le_of_ble_eq_true rfl, Nat.le_of_ble_eq_true rfl⟩) (g_preV (q := (RX5, TX5, 5)) hK hP hD [0, 1] rfl (by decide) (ci := 5) (q0 := 0) rfl rfl) rfl rfl hl.1 rfl (lv_room (Nat.le_of_ble_eq_true rfl)) dX5_tellSecret_57 ⟨Nat.le_of_ble_eq_true rfl, Nat.le_of_ble_eq_true rfl⟩) hP hD hS hA [0, 1] [2, 3, 4, 5] rfl rfl (by decide) (by decide) ?_
  clear hP hD hS H locs
  refine fun u H locs hq hP hD hS => ?_
  replace hP : va_P D vwCl [(h4, .inr (8, [.ref h7, .int wp4000548])), (h7, .inl (y 1, 18, .inr (.inl (vp_updL (vp_updL (vp_updL (vp_updL (vp_updL (vp_updL wf4000549 ((11 : Int32).toNatClampNeg) ((p1 - p1 / 10 * 10).toInt64)) ((10 : Int32).toNatClampNeg) (((p1 / 10) - (p1 / 10) / 10 * 10).toInt64)) ((9 : Int32).toNatClampNeg) ((((p1 / 10) / 10) - ((p1 / 10) / 10) / 10 * 10).toInt64)) ((8 : Int32).toNatClampNeg) (((((p1 / 10) / 10) / 10) - (((p1 / 10) / 10) / 10) / 10 * 10).toInt64)) ((7 : Int32).toNatClampNeg) ((((((p1 / 10) / 10) / 10) / 10) - ((((p1 / 10) / 10) / 10) / 10) / 10 * 10).toInt64)) ((6 : Int32).toNatClampNeg) (((((((p1 / 10) / 10) / 10) / 10) / 10) - (((((p1 / 10) / 10) / 10) / 10) / 10) / 10 * 10).toInt64))))), (h5, .inr (8, [.ref h10, .int wp4000550])), (h10, .inl (y 1, 3, .inr (.inl (vp_updL (fun _ => 0) ((1 : Int32).toNatClampNeg) 6)))), (h0, .inr (5, [.ref h2, .ref h3, .ref h4, .ref h5, .int 0])), (h2, .inr (8, [.ref h12, .int 0]))] H := hP
  replace hD : va_D A [(h4, .inr (8, [.ref h7, .int wp4000548])), (h7, .inl (y 1, 18, .inr (.inl (vp_updL (vp_updL (vp_updL (vp_updL (vp_updL (vp_updL wf4000549 ((11 : Int32).toNatClampNeg) ((p1 - p1 / 10 * 10).toInt64)) ((10 : Int32).toNatClampNeg) (((p1 / 10) - (p1 / 10) / 10 * 10).toInt64)) ((9 : Int32).toNatClampNeg) ((((p1 / 10) / 10) - ((p1 / 10) / 10) / 10 * 10).toInt64)) ((8 : Int32).toNatClampNeg) (((((p1 / 10) / 10) / 10) - (((p1 / 10) / 10) / 10) / 10 * 10).toInt64)) ((7 : Int32).toNatClampNeg) ((((((p1 / 10) / 10) / 10) / 10) - ((((p1 / 10) / 10) / 10) / 10) / 10 * 10).toInt64)) ((6 : Int32).toNatClampNeg) (((((((p1 / 10) / 10) / 10) / 10) / 10) - (((((p1 / 10) / 10) / 10) / 10) / 10) / 10 * 10).toInt64))))), (h5, .inr (8, [.ref h10, .int wp4000550])), (h10, .inl (y 1, 3, .inr (.inl (vp_updL (fun _ => 0) ((1 : Int32).toNatClampNeg) 6)))), (h0, .inr (5, [.ref h2, .ref h3, .ref h4, .ref h5, .int 0])), (h2, .inr (8, [.ref h12, .int 0]))] := hD
  refine lv_iconst (v := 0) hx hb dX5_tellSecret_60 (by decide) ?_
  refine lv_istore (lv' := [(5, .int 0), (4, .int ((((((p1 / 10) / 10) / 10) / 10) / 10) / 10)), (0, .ref h0), (1, .int 1), (2, .int p1), (3, .int 6)]) hx hb dX5_tellSecret_61 hl (by decide) rfl ?_
  clear hl
  clear ls
  intro ls hl
  refine lv_iconst (v := 0) hx hb dX5_tellSecret_63 (by decide) ?_
  refine lv_istore (lv' := [(6, .int 0), (5, .int 0), (4, .int ((((((p1 / 10) / 10) / 10) / 10) / 10) / 10)), (0, .ref h0), (1, .int 1), (2, .int p1), (3, .int 6)]) hx hb dX5_tellSecret_64 hl (by decide) rfl ?_
  clear hl
  clear ls
  intro ls hl
  refine lv_iload hx hb dX5_tellSecret_66 (lv_at hl 0 rfl) ?_
  refine lv_iconst (v := 3) hx hb dX5_tellSecret_68 (by decide) ?_
  refine lv_icmp_ge (tgt := 95) hx hb dX5_tellSecret_69 (by decide) (fun c9 => absurd c9 (by decide +kernel)) (fun _ => ?_)
  refine lv_aload_n hx hb dX5_tellSecret_72 rfl (lv_at hl 3 rfl) ?_
  refine gm_get (D := D) (ci := 5) (v := .ref h5) (C := RX5) (T := TX5) (N := 5) hx hb hg inlX5 hown hK.1 hP 4 rfl rfl 3 (by decide) tX5_3 (hg _ gw_141) rfl dX5_tellSecret_73 ?_
  refine lv_iload hx hb dX5_tellSecret_76 (lv_at hl 0 rfl) ?_
  refine g_al (wr := [(h4, .inr (8, [.ref h7, .int wp4000548])), (h7, .inl (y 1, 18, .inr (.inl (vp_updL (vp_updL (vp_updL (vp_updL (vp_updL (vp_updL wf4000549 ((11 : Int32).toNatClampNeg) ((p1 - p1 / 10 * 10).toInt64)) ((10 : Int32).toNatClampNeg) (((p1 / 10) - (p1 / 10) / 10 * 10).toInt64)) ((9 : Int32).toNatClampNeg) ((((p1 / 10) / 10) - ((p1 / 10) / 10) / 10 * 10).toInt64)) ((8 : Int32).toNatClampNeg) (((((p1 / 10) / 10) / 10) - (((p1 / 10) / 10) / 10) / 10 * 10).toInt64)) ((7 : Int32).toNatClampNeg) ((((((p1 / 10) / 10) / 10) / 10) - ((((p1 / 10) / 10) / 10) / 10) / 10 * 10).toInt64)) ((6 : Int32).toNatClampNeg) (((((((p1 / 10) / 10) / 10) / 10) / 10) - (((((p1 / 10) / 10) / 10) / 10) / 10) / 10 * 10).toInt64))))), (h0, .inr (5, [.ref h2, .ref h3, .ref h4, .ref h5, .int 0])), (h2, .inr (8, [.ref h12, .int 0]))]) (va_runV (As := [.int 0]) (rest := []) ⟨hx, hb, hml, hown, hg⟩ (k_X8_get_41 l D y aS H.size h5 h10 wp4000550) (cwV 1 hg ggV_RX5_36_X8_get rfl rfl rfl (by decide +kernel) ⟨Nat.le_of_ble_eq_true rfl, Nat.le_of_ble_eq_true rfl⟩) (g_preV (q := (RX8, TX8, 2)) hK hP hD [2, 3] rfl (by decide) (ci := 8) (q0 := 2) rfl rfl) rfl rfl hl.1 rfl (lv_room (Nat.le_of_ble_eq_true rfl)) dX5_tellSecret_78 ⟨Nat.le_of_ble_eq_true rfl, Nat.le_of_ble_eq_true rfl⟩) hP hD hS hA [2, 3] [0, 1, 4, 5] rfl rfl (by decide) (by decide) ?_
  clear hP hD hS H locs
  refine fun r4000559 u H locs hq hP hD hS => ?_
  subst hq
  replace hP : va_P D vwCl [(h4, .inr (8, [.ref h7, .int wp4000548])), (h7, .inl (y 1, 18, .inr (.inl (vp_updL (vp_updL (vp_updL (vp_updL (vp_updL (vp_updL wf4000549 ((11 : Int32).toNatClampNeg) ((p1 - p1 / 10 * 10).toInt64)) ((10 : Int32).toNatClampNeg) (((p1 / 10) - (p1 / 10) / 10 * 10).toInt64)) ((9 : Int32).toNatClampNeg) ((((p1 / 10) / 10) - ((p1 / 10) / 10) / 10 * 10).toInt64)) ((8 : Int32).toNatClampNeg) (((((p1 / 10) / 10) / 10) - (((p1 / 10) / 10) / 10) / 10 * 10).toInt64)) ((7 : Int32).toNatClampNeg) ((((((p1 / 10) / 10) / 10) / 10) - ((((p1 / 10) / 10) / 10) / 10) / 10 * 10).toInt64)) ((6 : Int32).toNatClampNeg) (((((((p1 / 10) / 10) / 10) / 10) / 10) - (((((p1 / 10) / 10) / 10) / 10) / 10) / 10 * 10).toInt64))))), (h0, .inr (5, [.ref h2, .ref h3, .ref h4, .ref h5, .int 0])), (h2, .inr (8, [.ref h12, .int 0])), (h5, .inr (8, [.ref h10, .int wp4000550])), (h10, .inl (y 1, 3, .inr (.inl (vp_updL (fun _ => 0) ((1 : Int32).toNatClampNeg) 6))))] H := hP
  replace hD : va_D A [(h4, .inr (8, [.ref h7, .int wp4000548])), (h7, .inl (y 1, 18, .inr (.inl (vp_updL (vp_updL (vp_updL (vp_updL (vp_updL (vp_updL wf4000549 ((11 : Int32).toNatClampNeg) ((p1 - p1 / 10 * 10).toInt64)) ((10 : Int32).toNatClampNeg) (((p1 / 10) - (p1 / 10) / 10 * 10).toInt64)) ((9 : Int32).toNatClampNeg) ((((p1 / 10) / 10) - ((p1 / 10) / 10) / 10 * 10).toInt64)) ((8 : Int32).toNatClampNeg) (((((p1 / 10) / 10) / 10) - (((p1 / 10) / 10) / 10) / 10 * 10).toInt64)) ((7 : Int32).toNatClampNeg) ((((((p1 / 10) / 10) / 10) / 10) - ((((p1 / 10) / 10) / 10) / 10) / 10 * 10).toInt64)) ((6 : Int32).toNatClampNeg) (((((((p1 / 10) / 10) / 10) / 10) / 10) - (((((p1 / 10) / 10) / 10) / 10) / 10) / 10 * 10).toInt64))))), (h0, .inr (5, [.ref h2, .ref h3, .ref h4, .ref h5, .int 0])), (h2, .inr (8, [.ref h12, .int 0])), (h5, .inr (8, [.ref h10, .int wp4000550])), (h10, .inl (y 1, 3, .inr (.inl (vp_updL (fun _ => 0) ((1 : Int32).toNatClampNeg) 6))))] := hD
  refine lv_lconst (v := 0) hx hb dX5_tellSecret_81 (by decide) ?_
  refine W.lcmp hx hb dX5_tellSecret_82 ?_
  refine g_fi (v := 0) (by decide +kernel) ?_
  refine lv_if_le (tgt := 89) hx hb dX5_tellSecret_83 (by decide) (fun _ => ?_) (fun c9 => absurd c9 (by decide +kernel))
  refine lv_iinc (v := 1) (lv' := [(6, .int 1), (5, .int 0), (4, .int ((((((p1 / 10) / 10) / 10) / 10) / 10) / 10)), (0, .ref h0), (1, .int 1), (2, .int p1), (3, .int 6)]) hx hb dX5_tellSecret_89 hl (k := 0) rfl (by decide +kernel) (by decide) rfl ?_
  clear hl
  clear ls
  intro ls hl
  refine lv_goto (tgt := 66) hx hb dX5_tellSecret_92 (by decide) ?_
  refine lv_iload hx hb dX5_tellSecret_66 (lv_at hl 0 rfl) ?_
  refine lv_iconst (v := 3) hx hb dX5_tellSecret_68 (by decide) ?_
  refine lv_icmp_ge (tgt := 95) hx hb dX5_tellSecret_69 (by decide) (fun c9 => absurd c9 (by decide +kernel)) (fun _ => ?_)
  refine lv_aload_n hx hb dX5_tellSecret_72 rfl (lv_at hl 3 rfl) ?_
  refine gm_get (D := D) (ci := 5) (v := .ref h5) (C := RX5) (T := TX5) (N := 5) hx hb hg inlX5 hown hK.1 hP 2 rfl rfl 3 (by decide) tX5_3 (hg _ gw_141) rfl dX5_tellSecret_73 ?_
  refine lv_iload hx hb dX5_tellSecret_76 (lv_at hl 0 rfl) ?_
  refine g_al (wr := [(h4, .inr (8, [.ref h7, .int wp4000548])), (h7, .inl (y 1, 18, .inr (.inl (vp_updL (vp_updL (vp_updL (vp_updL (vp_updL (vp_updL wf4000549 ((11 : Int32).toNatClampNeg) ((p1 - p1 / 10 * 10).toInt64)) ((10 : Int32).toNatClampNeg) (((p1 / 10) - (p1 / 10) / 10 * 10).toInt64)) ((9 : Int32).toNatClampNeg) ((((p1 / 10) / 10) - ((p1 / 10) / 10) / 10 * 10).toInt64)) ((8 : Int32).toNatClampNeg) (((((p1 / 10) / 10) / 10) - (((p1 / 10) / 10) / 10) / 10 * 10).toInt64)) ((7 : Int32).toNatClampNeg) ((((((p1 / 10) / 10) / 10) / 10) - ((((p1 / 10) / 10) / 10) / 10) / 10 * 10).toInt64)) ((6 : Int32).toNatClampNeg) (((((((p1 / 10) / 10) / 10) / 10) / 10) - (((((p1 / 10) / 10) / 10) / 10) / 10) / 10 * 10).toInt64))))), (h0, .inr (5, [.ref h2, .ref h3, .ref h4, .ref h5, .int 0])), (h2, .inr (8, [.ref h12, .int 0]))]) (va_runV (As := [.int 1]) (rest := []) ⟨hx, hb, hml, hown, hg⟩ (k_X8_get_42 l D y aS H.size h5 h10 wp4000550) (cwV 1 hg ggV_RX5_36_X8_get rfl rfl rfl (by decide +kernel) ⟨Nat.le_of_ble_eq_true rfl, Nat.le_of_ble_eq_true rfl⟩) (g_preV (q := (RX8, TX8, 2)) hK hP hD [4, 5] rfl (by decide) (ci := 8) (q0 := 4) rfl rfl) rfl rfl hl.1 rfl (lv_room (Nat.le_of_ble_eq_true rfl)) dX5_tellSecret_78 ⟨Nat.le_of_ble_eq_true rfl, Nat.le_of_ble_eq_true rfl⟩) hP hD hS hA [4, 5] [0, 1, 2, 3] rfl rfl (by decide) (by decide) ?_
  clear hP hD hS H locs
  refine fun r4000560 u H locs hq hP hD hS => ?_
  subst hq
  replace hP : va_P D vwCl [(h4, .inr (8, [.ref h7, .int wp4000548])), (h7, .inl (y 1, 18, .inr (.inl (vp_updL (vp_updL (vp_updL (vp_updL (vp_updL (vp_updL wf4000549 ((11 : Int32).toNatClampNeg) ((p1 - p1 / 10 * 10).toInt64)) ((10 : Int32).toNatClampNeg) (((p1 / 10) - (p1 / 10) / 10 * 10).toInt64)) ((9 : Int32).toNatClampNeg) ((((p1 / 10) / 10) - ((p1 / 10) / 10) / 10 * 10).toInt64)) ((8 : Int32).toNatClampNeg) (((((p1 / 10) / 10) / 10) - (((p1 / 10) / 10) / 10) / 10 * 10).toInt64)) ((7 : Int32).toNatClampNeg) ((((((p1 / 10) / 10) / 10) / 10) - ((((p1 / 10) / 10) / 10) / 10) / 10 * 10).toInt64)) ((6 : Int32).toNatClampNeg) (((((((p1 / 10) / 10) / 10) / 10) / 10) - (((((p1 / 10) / 10) / 10) / 10) / 10) / 10 * 10).toInt64))))), (h0, .inr (5, [.ref h2, .ref h3, .ref h4, .ref h5, .int 0])), (h2, .inr (8, [.ref h12, .int 0])), (h5, .inr (8, [.ref h10, .int wp4000550])), (h10, .inl (y 1, 3, .inr (.inl (vp_updL (fun _ => 0) ((1 : Int32).toNatClampNeg) 6))))] H := hP
  replace hD : va_D A [(h4, .inr (8, [.ref h7, .int wp4000548])), (h7, .inl (y 1, 18, .inr (.inl (vp_updL (vp_updL (vp_updL (vp_updL (vp_updL (vp_updL wf4000549 ((11 : Int32).toNatClampNeg) ((p1 - p1 / 10 * 10).toInt64)) ((10 : Int32).toNatClampNeg) (((p1 / 10) - (p1 / 10) / 10 * 10).toInt64)) ((9 : Int32).toNatClampNeg) ((((p1 / 10) / 10) - ((p1 / 10) / 10) / 10 * 10).toInt64)) ((8 : Int32).toNatClampNeg) (((((p1 / 10) / 10) / 10) - (((p1 / 10) / 10) / 10) / 10 * 10).toInt64)) ((7 : Int32).toNatClampNeg) ((((((p1 / 10) / 10) / 10) / 10) - ((((p1 / 10) / 10) / 10) / 10) / 10 * 10).toInt64)) ((6 : Int32).toNatClampNeg) (((((((p1 / 10) / 10) / 10) / 10) / 10) - (((((p1 / 10) / 10) / 10) / 10) / 10) / 10 * 10).toInt64))))), (h0, .inr (5, [.ref h2, .ref h3, .ref h4, .ref h5, .int 0])), (h2, .inr (8, [.ref h12, .int 0])), (h5, .inr (8, [.ref h10, .int wp4000550])), (h10, .inl (y 1, 3, .inr (.inl (vp_updL (fun _ => 0) ((1 : Int32).toNatClampNeg) 6))))] := hD
  refine lv_lconst (v := 0) hx hb dX5_tellSecret_81 (by decide) ?_
  refine W.lcmp hx hb dX5_tellSecret_82 ?_
  refine g_fi (v := 1) (by decide +kernel) ?_
  refine lv_if_le (tgt := 89) hx hb dX5_tellSecret_83 (by decide) (fun c9 => absurd c9 (by decide +kernel)) (fun _ => ?_)
  refine lv_iinc (v := 1) (lv' := [(5, .int 1), (6, .int 1), (4, .int ((((((p1 / 10) / 10) / 10) / 10) / 10) / 10)), (0, .ref h0), (1, .int 1), (2, .int p1), (3, .int 6)]) hx hb dX5_tellSecret_86 hl (k := 1) rfl (by decide +kernel) (by decide) rfl ?_
  clear hl
  clear ls
  intro ls hl
  refine lv_iinc (v := 2) (lv' := [(6, .int 2), (5, .int 1), (4, .int ((((((p1 / 10) / 10) / 10) / 10) / 10) / 10)), (0, .ref h0), (1, .int 1), (2, .int p1), (3, .int 6)]) hx hb dX5_tellSecret_89 hl (k := 1) rfl (by decide +kernel) (by decide) rfl ?_
  clear hl
  clear ls
  intro ls hl
  refine lv_goto (tgt := 66) hx hb dX5_tellSecret_92 (by decide) ?_
  refine lv_iload hx hb dX5_tellSecret_66 (lv_at hl 0 rfl) ?_
  refine lv_iconst (v := 3) hx hb dX5_tellSecret_68 (by decide) ?_
  refine lv_icmp_ge (tgt := 95) hx hb dX5_tellSecret_69 (by decide) (fun c9 => absurd c9 (by decide +kernel)) (fun _ => ?_)
  refine lv_aload_n hx hb dX5_tellSecret_72 rfl (lv_at hl 3 rfl) ?_
  refine gm_get (D := D) (ci := 5) (v := .ref h5) (C := RX5) (T := TX5) (N := 5) hx hb hg inlX5 hown hK.1 hP 2 rfl rfl 3 (by decide) tX5_3 (hg _ gw_141) rfl dX5_tellSecret_73 ?_
  refine lv_iload hx hb dX5_tellSecret_76 (lv_at hl 0 rfl) ?_
  refine g_al (wr := [(h4, .inr (8, [.ref h7, .int wp4000548])), (h7, .inl (y 1, 18, .inr (.inl (vp_updL (vp_updL (vp_updL (vp_updL (vp_updL (vp_updL wf4000549 ((11 : Int32).toNatClampNeg) ((p1 - p1 / 10 * 10).toInt64)) ((10 : Int32).toNatClampNeg) (((p1 / 10) - (p1 / 10) / 10 * 10).toInt64)) ((9 : Int32).toNatClampNeg) ((((p1 / 10) / 10) - ((p1 / 10) / 10) / 10 * 10).toInt64)) ((8 : Int32).toNatClampNeg) (((((p1 / 10) / 10) / 10) - (((p1 / 10) / 10) / 10) / 10 * 10).toInt64)) ((7 : Int32).toNatClampNeg) ((((((p1 / 10) / 10) / 10) / 10) - ((((p1 / 10) / 10) / 10) / 10) / 10 * 10).toInt64)) ((6 : Int32).toNatClampNeg) (((((((p1 / 10) / 10) / 10) / 10) / 10) - (((((p1 / 10) / 10) / 10) / 10) / 10) / 10 * 10).toInt64))))), (h0, .inr (5, [.ref h2, .ref h3, .ref h4, .ref h5, .int 0])), (h2, .inr (8, [.ref h12, .int 0]))]) (va_runV (As := [.int 2]) (rest := []) ⟨hx, hb, hml, hown, hg⟩ (k_X8_get_43 l D y aS H.size h5 h10 wp4000550) (cwV 1 hg ggV_RX5_36_X8_get rfl rfl rfl (by decide +kernel) ⟨Nat.le_of_ble_eq_true rfl, Nat.le_of_ble_eq_true rfl⟩) (g_preV (q := (RX8, TX8, 2)) hK hP hD [4, 5] rfl (by decide) (ci := 8) (q0 := 4) rfl rfl) rfl rfl hl.1 rfl (lv_room (Nat.le_of_ble_eq_true rfl)) dX5_tellSecret_78 ⟨Nat.le_of_ble_eq_true rfl, Nat.le_of_ble_eq_true rfl⟩) hP hD hS hA [4, 5] [0, 1, 2, 3] rfl rfl (by decide) (by decide) ?_
  clear hP hD hS H locs
  refine fun r4000561 u H locs hq hP hD hS => ?_
  subst hq
  replace hP : va_P D vwCl [(h4, .inr (8, [.ref h7, .int wp4000548])), (h7, .inl (y 1, 18, .inr (.inl (vp_updL (vp_updL (vp_updL (vp_updL (vp_updL (vp_updL wf4000549 ((11 : Int32).toNatClampNeg) ((p1 - p1 / 10 * 10).toInt64)) ((10 : Int32).toNatClampNeg) (((p1 / 10) - (p1 / 10) / 10 * 10).toInt64)) ((9 : Int32).toNatClampNeg) ((((p1 / 10) / 10) - ((p1 / 10) / 10) / 10 * 10).toInt64)) ((8 : Int32).toNatClampNeg) (((((p1 / 10) / 10) / 10) - (((p1 / 10) / 10) / 10) / 10 * 10).toInt64)) ((7 : Int32).toNatClampNeg) ((((((p1 / 10) / 10) / 10) / 10) - ((((p1 / 10) / 10) / 10) / 10) / 10 * 10).toInt64)) ((6 : Int32).toNatClampNeg) (((((((p1 / 10) / 10) / 10) / 10) / 10) - (((((p1 / 10) / 10) / 10) / 10) / 10) / 10 * 10).toInt64))))), (h0, .inr (5, [.ref h2, .ref h3, .ref h4, .ref h5, .int 0])), (h2, .inr (8, [.ref h12, .int 0])), (h5, .inr (8, [.ref h10, .int wp4000550])), (h10, .inl (y 1, 3, .inr (.inl (vp_updL (fun _ => 0) ((1 : Int32).toNatClampNeg) 6))))] H := hP
  replace hD : va_D A [(h4, .inr (8, [.ref h7, .int wp4000548])), (h7, .inl (y 1, 18, .inr (.inl (vp_updL (vp_updL (vp_updL (vp_updL (vp_updL (vp_updL wf4000549 ((11 : Int32).toNatClampNeg) ((p1 - p1 / 10 * 10).toInt64)) ((10 : Int32).toNatClampNeg) (((p1 / 10) - (p1 / 10) / 10 * 10).toInt64)) ((9 : Int32).toNatClampNeg) ((((p1 / 10) / 10) - ((p1 / 10) / 10) / 10 * 10).toInt64)) ((8 : Int32).toNatClampNeg) (((((p1 / 10) / 10) / 10) - (((p1 / 10) / 10) / 10) / 10 * 10).toInt64)) ((7 : Int32).toNatClampNeg) ((((((p1 / 10) / 10) / 10) / 10) - ((((p1 / 10) / 10) / 10) / 10) / 10 * 10).toInt64)) ((6 : Int32).toNatClampNeg) (((((((p1 / 10) / 10) / 10) / 10) / 10) - (((((p1 / 10) / 10) / 10) / 10) / 10) / 10 * 10).toInt64))))), (h0, .inr (5, [.ref h2, .ref h3, .ref h4, .ref h5, .int 0])), (h2, .inr (8, [.ref h12, .int 0])), (h5, .inr (8, [.ref h10, .int wp4000550])), (h10, .inl (y 1, 3, .inr (.inl (vp_updL (fun _ => 0) ((1 : Int32).toNatClampNeg) 6))))] := hD
  refine lv_lconst (v := 0) hx hb dX5_tellSecret_81 (by decide) ?_
  refine W.lcmp hx hb dX5_tellSecret_82 ?_
  refine g_fi (v := 0) (by decide +kernel) ?_
  refine lv_if_le (tgt := 89) hx hb dX5_tellSecret_83 (by decide) (fun _ => ?_) (fun c9 => absurd c9 (by decide +kernel))
  refine lv_iinc (v := 3) (lv' := [(6, .int 3), (5, .int 1), (4, .int ((((((p1 / 10) / 10) / 10) / 10) / 10) / 10)), (0, .ref h0), (1, .int 1), (2, .int p1), (3, .int 6)]) hx hb dX5_tellSecret_89 hl (k := 0) rfl (by decide +kernel) (by decide) rfl ?_
  clear hl
  clear ls
  intro ls hl
  refine lv_goto (tgt := 66) hx hb dX5_tellSecret_92 (by decide) ?_
  refine lv_iload hx hb dX5_tellSecret_66 (lv_at hl 0 rfl) ?_
  refine lv_iconst (v := 3) hx hb dX5_tellSecret_68 (by decide) ?_
  refine lv_icmp_ge (tgt := 95) hx hb dX5_tellSecret_69 (by decide) (fun _ => ?_) (fun c9 => absurd c9 (by decide +kernel))
  refine lv_iload hx hb dX5_tellSecret_95 (lv_at hl 1 rfl) ?_
  exact g_iret hx hb hr hlocks () (hP.sub [2, 0, 1, 4, 5, 3] rfl) (hD.sub [2, 0, 1, 4, 5, 3] (by decide +kernel) rfl) hS rfl rfl (Nat.le_of_ble_eq_true rfl) (Nat.le_of_ble_eq_true rfl) dX5_tellSecret_97
set_option maxRecDepth 100000 in
set_option maxHeartbeats 4000000 in
theorem k_X8_set_44 (l : Launch) (D : va_G) (y : Nat → ClassId) (aS : Nat → Nat) (sz : Nat) (h0 : Nat) (p1 : Int64) (h2 : Nat) (wp4000564 : Int32) (wf4000565 : Nat → Int64) : Met l yX8_set (Cond.code yX8_set cX8_set 4 none :: wsL_law) ({ frames := 0, cells := 0, slots := 0, locals := 0 } : Room) (va_Pc [.ref h0, .int 17, .long p1] (gI D y aS [(h0, .inr (8, [.ref h2, .int wp4000564])), (h2, .inl (y 1, 18, .inr (.inl wf4000565)))] sz)) (va_Qv (fun (u : Unit) => True) (fun u => gO D (va_A [(h0, .inr (8, [.ref h2, .int wp4000564])), (h2, .inl (y 1, 18, .inr (.inl wf4000565)))] sz) [(h0, .inr (8, [.ref h2, .int wp4000564])), (h2, .inl (y 1, 18, .inr (.inl (vp_updL wf4000565 ((17 : Int32).toNatClampNeg) p1))))]) (va_A [(h0, .inr (8, [.ref h2, .int wp4000564])), (h2, .inl (y 1, 18, .inr (.inl wf4000565)))] sz)) 0 0 (va_A [(h0, .inr (8, [.ref h2, .int wp4000564])), (h2, .inl (y 1, 18, .inr (.inl wf4000565)))] sz) := by
  refine g_of (by decide) (Nat.le_of_ble_eq_true rfl) ?_
  intro p e s m below meth c ls A hx hb hr hml hown hg hlocks hin hsz hK hP hD hS hA hAe hl
  rw [← hAe]
  replace hown : s.vm.findClass RX8 = some m.cls := hown
  replace hl : lv_has ls 4 [(0, .ref h0), (1, .int 17), (2, .long p1)] := hl
  refine lv_iload_n hx hb dX8_set_0 rfl (lv_at hl 1 rfl) ?_
  refine lv_if_lt (tgt := 20) hx hb dX8_set_1 (by decide) (fun c9 => absurd c9 (by decide +kernel)) (fun _ => ?_)
  refine lv_iload_n hx hb dX8_set_4 rfl (lv_at hl 1 rfl) ?_
  refine lv_aload_n hx hb dX8_set_5 rfl (lv_at hl 0 rfl) ?_
  refine gm_get (D := D) (ci := 8) (v := .ref h2) (C := RX8) (T := TX8) (N := 2) hx hb hg inlX8 hown hK.1 hP 0 rfl rfl 0 (by decide) tX8_0 (hg _ gw_98) rfl dX8_set_6 ?_
  refine va_alen hx hb hK.1 hP 1 1 rfl rfl (v := 18) rfl dX8_set_9 ?_
  refine lv_icmp_ge (tgt := 20) hx hb dX8_set_10 (by decide) (fun c9 => absurd c9 (by decide +kernel)) (fun _ => ?_)
  refine lv_aload_n hx hb dX8_set_13 rfl (lv_at hl 0 rfl) ?_
  refine gm_get (D := D) (ci := 8) (v := .ref h2) (C := RX8) (T := TX8) (N := 2) hx hb hg inlX8 hown hK.1 hP 0 rfl rfl 0 (by decide) tX8_0 (hg _ gw_98) rfl dX8_set_14 ?_
  refine lv_iload_n hx hb dX8_set_17 rfl (lv_at hl 1 rfl) ?_
  refine lv_lload_n hx hb dX8_set_18 rfl (lv_at hl 2 rfl) ?_
  refine va_last hx hb hK.1 hP hD hS 1 1 rfl rfl (by unfold vp_in; decide +kernel) dX8_set_19 ?_
  clear hP hD hS
  refine fun H locs (hP : va_P D vwCl [(h0, .inr (8, [.ref h2, .int wp4000564])), (h2, .inl (y 1, 18, .inr (.inl (vp_updL wf4000565 ((17 : Int32).toNatClampNeg) p1))))] H) (hD : va_D A [(h0, .inr (8, [.ref h2, .int wp4000564])), (h2, .inl (y 1, 18, .inr (.inl (vp_updL wf4000565 ((17 : Int32).toNatClampNeg) p1))))]) hS => ?_
  exact g_vret hx hb hr hlocks () hP hD hS trivial (Nat.le_of_ble_eq_true rfl) (Nat.le_of_ble_eq_true rfl) dX8_set_20
set_option maxRecDepth 100000 in
set_option maxHeartbeats 4000000 in
theorem k_X8_get_44 (l : Launch) (D : va_G) (y : Nat → ClassId) (aS : Nat → Nat) (sz : Nat) (h0 : Nat) (h1 : Nat) (wp4000574 : Int32) : Met l yX8_get (Cond.code yX8_get cX8_get 2 (some .long) :: wsL_law) ({ frames := 0, cells := 0, slots := 0, locals := 0 } : Room) (va_Pc [.ref h0, .int 0] (gI D y aS [(h0, .inr (8, [.ref h1, .int wp4000574])), (h1, .inl (y 1, 3, .inr (.inl (vp_updL (fun _ => 0) ((2 : Int32).toNatClampNeg) 6))))] sz)) (va_Ql (fun (r : Int64) (u : Unit) => 0 = r) (fun u => gO D (va_A [(h0, .inr (8, [.ref h1, .int wp4000574])), (h1, .inl (y 1, 3, .inr (.inl (vp_updL (fun _ => 0) ((2 : Int32).toNatClampNeg) 6))))] sz) [(h0, .inr (8, [.ref h1, .int wp4000574])), (h1, .inl (y 1, 3, .inr (.inl (vp_updL (fun _ => 0) ((2 : Int32).toNatClampNeg) 6))))]) (va_A [(h0, .inr (8, [.ref h1, .int wp4000574])), (h1, .inl (y 1, 3, .inr (.inl (vp_updL (fun _ => 0) ((2 : Int32).toNatClampNeg) 6))))] sz)) 0 0 (va_A [(h0, .inr (8, [.ref h1, .int wp4000574])), (h1, .inl (y 1, 3, .inr (.inl (vp_updL (fun _ => 0) ((2 : Int32).toNatClampNeg) 6))))] sz) := by
  refine g_of (by decide) (Nat.le_of_ble_eq_true rfl) ?_
  intro p e s m below meth c ls A hx hb hr hml hown hg hlocks hin hsz hK hP hD hS hA hAe hl
  rw [← hAe]
  replace hown : s.vm.findClass RX8 = some m.cls := hown
  replace hl : lv_has ls 2 [(0, .ref h0), (1, .int 0)] := hl
  refine lv_iload_n hx hb dX8_get_0 rfl (lv_at hl 1 rfl) ?_
  refine lv_if_lt (tgt := 22) hx hb dX8_get_1 (by decide) (fun c9 => absurd c9 (by decide +kernel)) (fun _ => ?_)
  refine lv_iload_n hx hb dX8_get_4 rfl (lv_at hl 1 rfl) ?_
  refine lv_aload_n hx hb dX8_get_5 rfl (lv_at hl 0 rfl) ?_
  refine gm_get (D := D) (ci := 8) (v := .ref h1) (C := RX8) (T := TX8) (N := 2) hx hb hg inlX8 hown hK.1 hP 0 rfl rfl 0 (by decide) tX8_0 (hg _ gw_98) rfl dX8_get_6 ?_
  refine va_alen hx hb hK.1 hP 1 1 rfl rfl (v := 3) rfl dX8_get_9 ?_
  refine lv_icmp_ge (tgt := 22) hx hb dX8_get_10 (by decide) (fun c9 => absurd c9 (by decide +kernel)) (fun _ => ?_)
  refine lv_aload_n hx hb dX8_get_13 rfl (lv_at hl 0 rfl) ?_
  refine gm_get (D := D) (ci := 8) (v := .ref h1) (C := RX8) (T := TX8) (N := 2) hx hb hg inlX8 hown hK.1 hP 0 rfl rfl 0 (by decide) tX8_0 (hg _ gw_98) rfl dX8_get_14 ?_
  refine lv_iload_n hx hb dX8_get_17 rfl (lv_at hl 1 rfl) ?_
  refine va_lald hx hb hK.1 hP 1 1 rfl rfl (by unfold vp_in; decide +kernel) dX8_get_18 ?_
  refine g_fj (v := 0) (by rfl) ?_
  refine lv_goto (tgt := 23) hx hb dX8_get_19 (by decide) ?_
  exact g_lret hx hb hr hlocks () hP hD hS rfl (Nat.le_of_ble_eq_true rfl) (Nat.le_of_ble_eq_true rfl) dX8_get_23
set_option maxRecDepth 100000 in
set_option maxHeartbeats 4000000 in
theorem k_X8_get_45 (l : Launch) (D : va_G) (y : Nat → ClassId) (aS : Nat → Nat) (sz : Nat) (h0 : Nat) (h1 : Nat) (wp4000576 : Int32) : Met l yX8_get (Cond.code yX8_get cX8_get 2 (some .long) :: wsL_law) ({ frames := 0, cells := 0, slots := 0, locals := 0 } : Room) (va_Pc [.ref h0, .int 1] (gI D y aS [(h0, .inr (8, [.ref h1, .int wp4000576])), (h1, .inl (y 1, 3, .inr (.inl (vp_updL (fun _ => 0) ((2 : Int32).toNatClampNeg) 6))))] sz)) (va_Ql (fun (r : Int64) (u : Unit) => 0 = r) (fun u => gO D (va_A [(h0, .inr (8, [.ref h1, .int wp4000576])), (h1, .inl (y 1, 3, .inr (.inl (vp_updL (fun _ => 0) ((2 : Int32).toNatClampNeg) 6))))] sz) [(h0, .inr (8, [.ref h1, .int wp4000576])), (h1, .inl (y 1, 3, .inr (.inl (vp_updL (fun _ => 0) ((2 : Int32).toNatClampNeg) 6))))]) (va_A [(h0, .inr (8, [.ref h1, .int wp4000576])), (h1, .inl (y 1, 3, .inr (.inl (vp_updL (fun _ => 0) ((2 : Int32).toNatClampNeg) 6))))] sz)) 0 0 (va_A [(h0, .inr (8, [.ref h1, .int wp4000576])), (h1, .inl (y 1, 3, .inr (.inl (vp_updL (fun _ => 0) ((2 : Int32).toNatClampNeg) 6))))] sz) := by
  refine g_of (by decide) (Nat.le_of_ble_eq_true rfl) ?_
  intro p e s m below meth c ls A hx hb hr hml hown hg hlocks hin hsz hK hP hD hS hA hAe hl
  rw [← hAe]
  replace hown : s.vm.findClass RX8 = some m.cls := hown
  replace hl : lv_has ls 2 [(0, .ref h0), (1, .int 1)] := hl
  refine lv_iload_n hx hb dX8_get_0 rfl (lv_at hl 1 rfl) ?_
  refine lv_if_lt (tgt := 22) hx hb dX8_get_1 (by decide) (fun c9 => absurd c9 (by decide +kernel)) (fun _ => ?_)
  refine lv_iload_n hx hb dX8_get_4 rfl (lv_at hl 1 rfl) ?_
  refine lv_aload_n hx hb dX8_get_5 rfl (lv_at hl 0 rfl) ?_
  refine gm_get (D := D) (ci := 8) (v := .ref h1) (C := RX8) (T := TX8) (N := 2) hx hb hg inlX8 hown hK.1 hP 0 rfl rfl 0 (by decide) tX8_0 (hg _ gw_98) rfl dX8_get_6 ?_
  refine va_alen hx hb hK.1 hP 1 1 rfl rfl (v := 3) rfl dX8_get_9 ?_
  refine lv_icmp_ge (tgt := 22) hx hb dX8_get_10 (by decide) (fun c9 => absurd c9 (by decide +kernel)) (fun _ => ?_)
  refine lv_aload_n hx hb dX8_get_13 rfl (lv_at hl 0 rfl) ?_
  refine gm_get (D := D) (ci := 8) (v := .ref h1) (C := RX8) (T := TX8) (N := 2) hx hb hg inlX8 hown hK.1 hP 0 rfl rfl 0 (by decide) tX8_0 (hg _ gw_98) rfl dX8_get_14 ?_
  refine lv_iload_n hx hb dX8_get_17 rfl (lv_at hl 1 rfl) ?_
  refine va_lald hx hb hK.1 hP 1 1 rfl rfl (by unfold vp_in; decide +kernel) dX8_get_18 ?_
  refine g_fj (v := 0) (by rfl) ?_
  refine lv_goto (tgt := 23) hx hb dX8_get_19 (by decide) ?_
  exact g_lret hx hb hr hlocks () hP hD hS rfl (Nat.le_of_ble_eq_true rfl) (Nat.le_of_ble_eq_true rfl) dX8_get_23
set_option maxRecDepth 100000 in
set_option maxHeartbeats 4000000 in
theorem k_X8_get_46 (l : Launch) (D : va_G) (y : Nat → ClassId) (aS : Nat → Nat) (sz : Nat) (h0 : Nat) (h1 : Nat) (wp4000578 : Int32) : Met l yX8_get (Cond.code yX8_get cX8_get 2 (some .long) :: wsL_law) ({ frames := 0, cells := 0, slots := 0, locals := 0 } : Room) (va_Pc [.ref h0, .int 2] (gI D y aS [(h0, .inr (8, [.ref h1, .int wp4000578])), (h1, .inl (y 1, 3, .inr (.inl (vp_updL (fun _ => 0) ((2 : Int32).toNatClampNeg) 6))))] sz)) (va_Ql (fun (r : Int64) (u : Unit) => 6 = r) (fun u => gO D (va_A [(h0, .inr (8, [.ref h1, .int wp4000578])), (h1, .inl (y 1, 3, .inr (.inl (vp_updL (fun _ => 0) ((2 : Int32).toNatClampNeg) 6))))] sz) [(h0, .inr (8, [.ref h1, .int wp4000578])), (h1, .inl (y 1, 3, .inr (.inl (vp_updL (fun _ => 0) ((2 : Int32).toNatClampNeg) 6))))]) (va_A [(h0, .inr (8, [.ref h1, .int wp4000578])), (h1, .inl (y 1, 3, .inr (.inl (vp_updL (fun _ => 0) ((2 : Int32).toNatClampNeg) 6))))] sz)) 0 0 (va_A [(h0, .inr (8, [.ref h1, .int wp4000578])), (h1, .inl (y 1, 3, .inr (.inl (vp_updL (fun _ => 0) ((2 : Int32).toNatClampNeg) 6))))] sz) := by
  refine g_of (by decide) (Nat.le_of_ble_eq_true rfl) ?_
  intro p e s m below meth c ls A hx hb hr hml hown hg hlocks hin hsz hK hP hD hS hA hAe hl
  rw [← hAe]
  replace hown : s.vm.findClass RX8 = some m.cls := hown
  replace hl : lv_has ls 2 [(0, .ref h0), (1, .int 2)] := hl
  refine lv_iload_n hx hb dX8_get_0 rfl (lv_at hl 1 rfl) ?_
  refine lv_if_lt (tgt := 22) hx hb dX8_get_1 (by decide) (fun c9 => absurd c9 (by decide +kernel)) (fun _ => ?_)
  refine lv_iload_n hx hb dX8_get_4 rfl (lv_at hl 1 rfl) ?_
  refine lv_aload_n hx hb dX8_get_5 rfl (lv_at hl 0 rfl) ?_
  refine gm_get (D := D) (ci := 8) (v := .ref h1) (C := RX8) (T := TX8) (N := 2) hx hb hg inlX8 hown hK.1 hP 0 rfl rfl 0 (by decide) tX8_0 (hg _ gw_98) rfl dX8_get_6 ?_
  refine va_alen hx hb hK.1 hP 1 1 rfl rfl (v := 3) rfl dX8_get_9 ?_
  refine lv_icmp_ge (tgt := 22) hx hb dX8_get_10 (by decide) (fun c9 => absurd c9 (by decide +kernel)) (fun _ => ?_)
  refine lv_aload_n hx hb dX8_get_13 rfl (lv_at hl 0 rfl) ?_
  refine gm_get (D := D) (ci := 8) (v := .ref h1) (C := RX8) (T := TX8) (N := 2) hx hb hg inlX8 hown hK.1 hP 0 rfl rfl 0 (by decide) tX8_0 (hg _ gw_98) rfl dX8_get_14 ?_
  refine lv_iload_n hx hb dX8_get_17 rfl (lv_at hl 1 rfl) ?_
  refine va_lald hx hb hK.1 hP 1 1 rfl rfl (by unfold vp_in; decide +kernel) dX8_get_18 ?_
  refine g_fj (v := 6) (by rfl) ?_
  refine lv_goto (tgt := 23) hx hb dX8_get_19 (by decide) ?_
  exact g_lret hx hb hr hlocks () hP hD hS rfl (Nat.le_of_ble_eq_true rfl) (Nat.le_of_ble_eq_true rfl) dX8_get_23
set_option maxRecDepth 100000 in
set_option maxHeartbeats 4000000 in
theorem k_X5_tellSecret_14 (l : Launch) (D : va_G) (y : Nat → ClassId) (aS : Nat → Nat) (sz : Nat) (h0 : Nat) (p1 : Int32) (h2 : Nat) (h3 : Nat) (h4 : Nat) (h5 : Nat) (wp4000580 : Int32) (h7 : Nat) (wp4000581 : Int32) (wf4000582 : Nat → Int64) (h10 : Nat) (wp4000583 : Int32) (h12 : Nat) : Met l yX5_tellSecret (Cond.code yX5_tellSecret cX5_tellSecret 7 (some .int) :: wsL_law) ({ frames := 1, cells := 0, slots := 0, locals := 23 } : Room) (va_Pc [.ref h0, .int 2, .int p1, .int 6] (gI D y aS [(h0, .inr (5, [.ref h2, .ref h3, .ref h4, .ref h5, .int wp4000580])), (h4, .inr (8, [.ref h7, .int wp4000581])), (h7, .inl (y 1, 18, .inr (.inl wf4000582))), (h5, .inr (8, [.ref h10, .int wp4000583])), (h10, .inl (y 1, 3, .inr (.inl (fun _ => 0)))), (h2, .inr (8, [.ref h12, .int 0]))] sz)) (va_Qi (fun (r : Int32) (u : Unit) => 1 = r) (fun u => gO D (va_A [(h0, .inr (5, [.ref h2, .ref h3, .ref h4, .ref h5, .int wp4000580])), (h4, .inr (8, [.ref h7, .int wp4000581])), (h7, .inl (y 1, 18, .inr (.inl wf4000582))), (h5, .inr (8, [.ref h10, .int wp4000583])), (h10, .inl (y 1, 3, .inr (.inl (fun _ => 0)))), (h2, .inr (8, [.ref h12, .int 0]))] sz) [(h0, .inr (5, [.ref h2, .ref h3, .ref h4, .ref h5, .int 0])), (h4, .inr (8, [.ref h7, .int wp4000581])), (h7, .inl (y 1, 18, .inr (.inl (vp_updL (vp_updL (vp_updL (vp_updL (vp_updL (vp_updL wf4000582 ((17 : Int32).toNatClampNeg) ((p1 - p1 / 10 * 10).toInt64)) ((16 : Int32).toNatClampNeg) (((p1 / 10) - (p1 / 10) / 10 * 10).toInt64)) ((15 : Int32).toNatClampNeg) ((((p1 / 10) / 10) - ((p1 / 10) / 10) / 10 * 10).toInt64)) ((14 : Int32).toNatClampNeg) (((((p1 / 10) / 10) / 10) - (((p1 / 10) / 10) / 10) / 10 * 10).toInt64)) ((13 : Int32).toNatClampNeg) ((((((p1 / 10) / 10) / 10) / 10) - ((((p1 / 10) / 10) / 10) / 10) / 10 * 10).toInt64)) ((12 : Int32).toNatClampNeg) (((((((p1 / 10) / 10) / 10) / 10) / 10) - (((((p1 / 10) / 10) / 10) / 10) / 10) / 10 * 10).toInt64))))), (h5, .inr (8, [.ref h10, .int wp4000583])), (h10, .inl (y 1, 3, .inr (.inl (vp_updL (fun _ => 0) ((2 : Int32).toNatClampNeg) 6)))), (h2, .inr (8, [.ref h12, .int 0]))]) (va_A [(h0, .inr (5, [.ref h2, .ref h3, .ref h4, .ref h5, .int wp4000580])), (h4, .inr (8, [.ref h7, .int wp4000581])), (h7, .inl (y 1, 18, .inr (.inl wf4000582))), (h5, .inr (8, [.ref h10, .int wp4000583])), (h10, .inl (y 1, 3, .inr (.inl (fun _ => 0)))), (h2, .inr (8, [.ref h12, .int 0]))] sz)) 0 0 (va_A [(h0, .inr (5, [.ref h2, .ref h3, .ref h4, .ref h5, .int wp4000580])), (h4, .inr (8, [.ref h7, .int wp4000581])), (h7, .inl (y 1, 18, .inr (.inl wf4000582))), (h5, .inr (8, [.ref h10, .int wp4000583])), (h10, .inl (y 1, 3, .inr (.inl (fun _ => 0)))), (h2, .inr (8, [.ref h12, .int 0]))] sz) := by
  refine g_of (by decide) (Nat.le_of_ble_eq_true rfl) ?_
  intro p e s m below meth c ls A hx hb hr hml hown hg hlocks hin hsz hK hP hD hS hA hAe hl
  rw [← hAe]
  replace hown : s.vm.findClass RX5 = some m.cls := hown
  replace hl : lv_has ls 7 [(0, .ref h0), (1, .int 2), (2, .int p1), (3, .int 6)] := hl
  refine lv_iload_n hx hb dX5_tellSecret_0 rfl (lv_at hl 2 rfl) ?_
  refine lv_istore (lv' := [(4, .int p1), (0, .ref h0), (1, .int 2), (2, .int p1), (3, .int 6)]) hx hb dX5_tellSecret_1 hl (by decide) rfl ?_
  clear hl
  clear ls
  intro ls hl
  refine lv_iload_n hx hb dX5_tellSecret_3 rfl (lv_at hl 4 rfl) ?_
  refine lv_iconst (v := 1) hx hb dX5_tellSecret_4 (by decide) ?_
  refine lv_isub hx hb dX5_tellSecret_5 ?_
  refine g_fi (v := 5) (by decide +kernel) ?_
  refine lv_istore (lv' := [(5, .int 5), (4, .int p1), (0, .ref h0), (1, .int 2), (2, .int p1), (3, .int 6)]) hx hb dX5_tellSecret_6 hl (by decide) rfl ?_
  clear hl
  clear ls
  intro ls hl
  refine lv_iload hx hb dX5_tellSecret_8 (lv_at hl 0 rfl) ?_
  refine lv_if_lt (tgt := 46) hx hb dX5_tellSecret_10 (by decide) (fun c9 => absurd c9 (by decide +kernel)) (fun _ => ?_)
  refine lv_aload_n hx hb dX5_tellSecret_13 rfl (lv_at hl 2 rfl) ?_
  refine gm_get (D := D) (ci := 5) (v := .ref h4) (C := RX5) (T := TX5) (N := 5) hx hb hg inlX5 hown hK.1 hP 0 rfl rfl 2 (by decide) tX5_2 (hg _ gw_140) rfl dX5_tellSecret_14 ?_
  refine lv_iload_n hx hb dX5_tellSecret_17 rfl (lv_at hl 3 rfl) ?_
  refine lv_bipush (v := 6) hx hb dX5_tellSecret_18 (by decide +kernel) ?_
  refine lv_imul hx hb dX5_tellSecret_20 ?_
  refine g_fi (v := 12) (by decide +kernel) ?_
  refine lv_iload hx hb dX5_tellSecret_21 (lv_at hl 0 rfl) ?_
  refine lv_iadd hx hb dX5_tellSecret_23 ?_
  refine g_fi (v := 17) (by decide +kernel) ?_
  refine lv_iload hx hb dX5_tellSecret_24 (lv_at hl 1 rfl) ?_
  refine lv_bipush (v := 10) hx hb dX5_tellSecret_26 (by decide +kernel) ?_
  refine lv_irem hx hb dX5_tellSecret_28 (by decide +kernel) ?_
  refine lv_i2l (v := ((p1 - p1 / 10 * 10).toInt64)) hx hb dX5_tellSecret_29 rfl ?_
  refine g_av (wr := [(h0, .inr (5, [.ref h2, .ref h3, .ref h4, .ref h5, .int wp4000580])), (h5, .inr (8, [.ref h10, .int wp4000583])), (h10, .inl (y 1, 3, .inr (.inl (fun _ => 0)))), (h2, .inr (8, [.ref h12, .int 0]))]) (va_runV (As := [.int 17, .long ((p1 - p1 / 10 * 10).toInt64)]) (rest := []) ⟨hx, hb, hml, hown, hg⟩ (k_X8_set_44 l D y aS s.heap.size h4 ((p1 - p1 / 10 * 10).toInt64) h7 wp4000581 wf4000582) (cwV 2 hg ggV_RX5_29_X8_set rfl rfl rfl (by decide +kernel) ⟨Nat.le_of_ble_eq_true rfl, Nat.le_of_ble_eq_true rfl⟩) (g_preV (q := (RX8, TX8, 2)) hK hP hD [1, 2] rfl (by decide) (ci := 8) (q0 := 1) rfl rfl) rfl rfl hl.1 rfl (lv_room (Nat.le_of_ble_eq_true rfl)) dX5_tellSecret_30 ⟨Nat.le_of_ble_eq_true rfl, Nat.le_of_ble_eq_true rfl⟩) hP hD hS hA [1, 2] [0, 3, 4, 5] rfl rfl (by decide) (by decide) ?_
  clear hP hD hS
  refine fun u H locs hq hP hD hS => ?_
  replace hP : va_P D vwCl [(h0, .inr (5, [.ref h2, .ref h3, .ref h4, .ref h5, .int wp4000580])), (h5, .inr (8, [.ref h10, .int wp4000583])), (h10, .inl (y 1, 3, .inr (.inl (fun _ => 0)))), (h2, .inr (8, [.ref h12, .int 0])), (h4, .inr (8, [.ref h7, .int wp4000581])), (h7, .inl (y 1, 18, .inr (.inl (vp_updL wf4000582 ((17 : Int32).toNatClampNeg) ((p1 - p1 / 10 * 10).toInt64)))))] H := hP
  replace hD : va_D A [(h0, .inr (5, [.ref h2, .ref h3, .ref h4, .ref h5, .int wp4000580])), (h5, .inr (8, [.ref h10, .int wp4000583])), (h10, .inl (y 1, 3, .inr (.inl (fun _ => 0)))), (h2, .inr (8, [.ref h12, .int 0])), (h4, .inr (8, [.ref h7, .int wp4000581])), (h7, .inl (y 1, 18, .inr (.inl (vp_updL wf4000582 ((17 : Int32).toNatClampNeg) ((p1 - p1 / 10 * 10).toInt64)))))] := hD
  refine lv_iload hx hb dX5_tellSecret_33 (lv_at hl 1 rfl) ?_
  refine lv_bipush (v := 10) hx hb dX5_tellSecret_35 (by decide +kernel) ?_
  refine lv_idiv hx hb dX5_tellSecret_37 (by decide +kernel) ?_
  refine lv_istore (lv' := [(4, .int (p1 / 10)), (5, .int 5), (0, .ref h0), (1, .int 2), (2, .int p1), (3, .int 6)]) hx hb dX5_tellSecret_38 hl (by decide) rfl ?_
  clear hl
  clear ls
  intro ls hl
  refine lv_iinc (v := 4) (lv' := [(5, .int 4), (4, .int (p1 / 10)), (0, .ref h0), (1, .int 2), (2, .int p1), (3, .int 6)]) hx hb dX5_tellSecret_40 hl (k := 1) rfl (by decide +kernel) (by decide) rfl ?_
  clear hl
  clear ls
  intro ls hl
  refine lv_goto (tgt := 8) hx hb dX5_tellSecret_43 (by decide) ?_
  refine lv_iload hx hb dX5_tellSecret_8 (lv_at hl 0 rfl) ?_
  refine lv_if_lt (tgt := 46) hx hb dX5_tellSecret_10 (by decide) (fun c9 => absurd c9 (by decide +kernel)) (fun _ => ?_)
  refine lv_aload_n hx hb dX5_tellSecret_13 rfl (lv_at hl 2 rfl) ?_
  refine gm_get (D := D) (ci := 5) (v := .ref h4) (C := RX5) (T := TX5) (N := 5) hx hb hg inlX5 hown hK.1 hP 0 rfl rfl 2 (by decide) tX5_2 (hg _ gw_140) rfl dX5_tellSecret_14 ?_
  refine lv_iload_n hx hb dX5_tellSecret_17 rfl (lv_at hl 3 rfl) ?_
  refine lv_bipush (v := 6) hx hb dX5_tellSecret_18 (by decide +kernel) ?_
  refine lv_imul hx hb dX5_tellSecret_20 ?_
  refine g_fi (v := 12) (by decide +kernel) ?_
  refine lv_iload hx hb dX5_tellSecret_21 (lv_at hl 0 rfl) ?_
  refine lv_iadd hx hb dX5_tellSecret_23 ?_
  refine g_fi (v := 16) (by decide +kernel) ?_
  refine lv_iload hx hb dX5_tellSecret_24 (lv_at hl 1 rfl) ?_
  refine lv_bipush (v := 10) hx hb dX5_tellSecret_26 (by decide +kernel) ?_
  refine lv_irem hx hb dX5_tellSecret_28 (by decide +kernel) ?_
  refine lv_i2l (v := (((p1 / 10) - (p1 / 10) / 10 * 10).toInt64)) hx hb dX5_tellSecret_29 rfl ?_
  refine g_av (wr := [(h0, .inr (5, [.ref h2, .ref h3, .ref h4, .ref h5, .int wp4000580])), (h5, .inr (8, [.ref h10, .int wp4000583])), (h10, .inl (y 1, 3, .inr (.inl (fun _ => 0)))), (h2, .inr (8, [.ref h12, .int 0]))]) (va_runV (As := [.int 16, .long (((p1 / 10) - (p1 / 10) / 10 * 10).toInt64)]) (rest := []) ⟨hx, hb, hml, hown, hg⟩ (k_X8_set_41 l D y aS H.size h4 (((p1 / 10) - (p1 / 10) / 10 * 10).toInt64) h7 wp4000581 (vp_updL wf4000582 ((17 : Int32).toNatClampNeg) ((p1 - p1 / 10 * 10).toInt64))) (cwV 2 hg ggV_RX5_29_X8_set rfl rfl rfl (by decide +kernel) ⟨Nat.le_of_ble_eq_true rfl, Nat.le_of_ble_eq_true rfl⟩) (g_preV (q := (RX8, TX8, 2)) hK hP hD [4, 5] rfl (by decide) (ci := 8) (q0 := 4) rfl rfl) rfl rfl hl.1 rfl (lv_room (Nat.le_of_ble_eq_true rfl)) dX5_tellSecret_30 ⟨Nat.le_of_ble_eq_true rfl, Nat.le_of_ble_eq_true rfl⟩) hP hD hS hA [4, 5] [0, 1, 2, 3] rfl rfl (by decide) (by decide) ?_
  clear hP hD hS H locs
  refine fun u H locs hq hP hD hS => ?_
  replace hP : va_P D vwCl [(h0, .inr (5, [.ref h2, .ref h3, .ref h4, .ref h5, .int wp4000580])), (h5, .inr (8, [.ref h10, .int wp4000583])), (h10, .inl (y 1, 3, .inr (.inl (fun _ => 0)))), (h2, .inr (8, [.ref h12, .int 0])), (h4, .inr (8, [.ref h7, .int wp4000581])), (h7, .inl (y 1, 18, .inr (.inl (vp_updL (vp_updL wf4000582 ((17 : Int32).toNatClampNeg) ((p1 - p1 / 10 * 10).toInt64)) ((16 : Int32).toNatClampNeg) (((p1 / 10) - (p1 / 10) / 10 * 10).toInt64)))))] H := hP
  replace hD : va_D A [(h0, .inr (5, [.ref h2, .ref h3, .ref h4, .ref h5, .int wp4000580])), (h5, .inr (8, [.ref h10, .int wp4000583])), (h10, .inl (y 1, 3, .inr (.inl (fun _ => 0)))), (h2, .inr (8, [.ref h12, .int 0])), (h4, .inr (8, [.ref h7, .int wp4000581])), (h7, .inl (y 1, 18, .inr (.inl (vp_updL (vp_updL wf4000582 ((17 : Int32).toNatClampNeg) ((p1 - p1 / 10 * 10).toInt64)) ((16 : Int32).toNatClampNeg) (((p1 / 10) - (p1 / 10) / 10 * 10).toInt64)))))] := hD
  refine lv_iload hx hb dX5_tellSecret_33 (lv_at hl 1 rfl) ?_
  refine lv_bipush (v := 10) hx hb dX5_tellSecret_35 (by decide +kernel) ?_
  refine lv_idiv hx hb dX5_tellSecret_37 (by decide +kernel) ?_
  refine lv_istore (lv' := [(4, .int ((p1 / 10) / 10)), (5, .int 4), (0, .ref h0), (1, .int 2), (2, .int p1), (3, .int 6)]) hx hb dX5_tellSecret_38 hl (by decide) rfl ?_
  clear hl
  clear ls
  intro ls hl
  refine lv_iinc (v := 3) (lv' := [(5, .int 3), (4, .int ((p1 / 10) / 10)), (0, .ref h0), (1, .int 2), (2, .int p1), (3, .int 6)]) hx hb dX5_tellSecret_40 hl (k := 1) rfl (by decide +kernel) (by decide) rfl ?_
  clear hl
  clear ls
  intro ls hl
  refine lv_goto (tgt := 8) hx hb dX5_tellSecret_43 (by decide) ?_
  refine lv_iload hx hb dX5_tellSecret_8 (lv_at hl 0 rfl) ?_
  refine lv_if_lt (tgt := 46) hx hb dX5_tellSecret_10 (by decide) (fun c9 => absurd c9 (by decide +kernel)) (fun _ => ?_)
  refine lv_aload_n hx hb dX5_tellSecret_13 rfl (lv_at hl 2 rfl) ?_
  refine gm_get (D := D) (ci := 5) (v := .ref h4) (C := RX5) (T := TX5) (N := 5) hx hb hg inlX5 hown hK.1 hP 0 rfl rfl 2 (by decide) tX5_2 (hg _ gw_140) rfl dX5_tellSecret_14 ?_
  refine lv_iload_n hx hb dX5_tellSecret_17 rfl (lv_at hl 3 rfl) ?_
  refine lv_bipush (v := 6) hx hb dX5_tellSecret_18 (by decide +kernel) ?_
  refine lv_imul hx hb dX5_tellSecret_20 ?_
  refine g_fi (v := 12) (by decide +kernel) ?_
  refine lv_iload hx hb dX5_tellSecret_21 (lv_at hl 0 rfl) ?_
  refine lv_iadd hx hb dX5_tellSecret_23 ?_
  refine g_fi (v := 15) (by decide +kernel) ?_
  refine lv_iload hx hb dX5_tellSecret_24 (lv_at hl 1 rfl) ?_
  refine lv_bipush (v := 10) hx hb dX5_tellSecret_26 (by decide +kernel) ?_
  refine lv_irem hx hb dX5_tellSecret_28 (by decide +kernel) ?_
  refine lv_i2l (v := ((((p1 / 10) / 10) - ((p1 / 10) / 10) / 10 * 10).toInt64)) hx hb dX5_tellSecret_29 rfl ?_
  refine g_av (wr := [(h0, .inr (5, [.ref h2, .ref h3, .ref h4, .ref h5, .int wp4000580])), (h5, .inr (8, [.ref h10, .int wp4000583])), (h10, .inl (y 1, 3, .inr (.inl (fun _ => 0)))), (h2, .inr (8, [.ref h12, .int 0]))]) (va_runV (As := [.int 15, .long ((((p1 / 10) / 10) - ((p1 / 10) / 10) / 10 * 10).toInt64)]) (rest := []) ⟨hx, hb, hml, hown, hg⟩ (k_X8_set_38 l D y aS H.size h4 ((((p1 / 10) / 10) - ((p1 / 10) / 10) / 10 * 10).toInt64) h7 wp4000581 (vp_updL (vp_updL wf4000582 ((17 : Int32).toNatClampNeg) ((p1 - p1 / 10 * 10).toInt64)) ((16 : Int32).toNatClampNeg) (((p1 / 10) - (p1 / 10) / 10 * 10).toInt64))) (cwV 2 hg ggV_RX5_29_X8_set rfl rfl rfl (by decide +kernel) ⟨Nat.le_of_ble_eq_true rfl, Nat.le_of_ble_eq_true rfl⟩) (g_preV (q := (RX8, TX8, 2)) hK hP hD [4, 5] rfl (by decide) (ci := 8) (q0 := 4) rfl rfl) rfl rfl hl.1 rfl (lv_room (Nat.le_of_ble_eq_true rfl)) dX5_tellSecret_30 ⟨Nat.le_of_ble_eq_true rfl, Nat.le_of_ble_eq_true rfl⟩) hP hD hS hA [4, 5] [0, 1, 2, 3] rfl rfl (by decide) (by decide) ?_
  clear hP hD hS H locs
  refine fun u H locs hq hP hD hS => ?_
  replace hP : va_P D vwCl [(h0, .inr (5, [.ref h2, .ref h3, .ref h4, .ref h5, .int wp4000580])), (h5, .inr (8, [.ref h10, .int wp4000583])), (h10, .inl (y 1, 3, .inr (.inl (fun _ => 0)))), (h2, .inr (8, [.ref h12, .int 0])), (h4, .inr (8, [.ref h7, .int wp4000581])), (h7, .inl (y 1, 18, .inr (.inl (vp_updL (vp_updL (vp_updL wf4000582 ((17 : Int32).toNatClampNeg) ((p1 - p1 / 10 * 10).toInt64)) ((16 : Int32).toNatClampNeg) (((p1 / 10) - (p1 / 10) / 10 * 10).toInt64)) ((15 : Int32).toNatClampNeg) ((((p1 / 10) / 10) - ((p1 / 10) / 10) / 10 * 10).toInt64)))))] H := hP
  replace hD : va_D A [(h0, .inr (5, [.ref h2, .ref h3, .ref h4, .ref h5, .int wp4000580])), (h5, .inr (8, [.ref h10, .int wp4000583])), (h10, .inl (y 1, 3, .inr (.inl (fun _ => 0)))), (h2, .inr (8, [.ref h12, .int 0])), (h4, .inr (8, [.ref h7, .int wp4000581])), (h7, .inl (y 1, 18, .inr (.inl (vp_updL (vp_updL (vp_updL wf4000582 ((17 : Int32).toNatClampNeg) ((p1 - p1 / 10 * 10).toInt64)) ((16 : Int32).toNatClampNeg) (((p1 / 10) - (p1 / 10) / 10 * 10).toInt64)) ((15 : Int32).toNatClampNeg) ((((p1 / 10) / 10) - ((p1 / 10) / 10) / 10 * 10).toInt64)))))] := hD
  refine lv_iload hx hb dX5_tellSecret_33 (lv_at hl 1 rfl) ?_
  refine lv_bipush (v := 10) hx hb dX5_tellSecret_35 (by decide +kernel) ?_
  refine lv_idiv hx hb dX5_tellSecret_37 (by decide +kernel) ?_
  refine lv_istore (lv' := [(4, .int (((p1 / 10) / 10) / 10)), (5, .int 3), (0, .ref h0), (1, .int 2), (2, .int p1), (3, .int 6)]) hx hb dX5_tellSecret_38 hl (by decide) rfl ?_
  clear hl
  clear ls
  intro ls hl
  refine lv_iinc (v := 2) (lv' := [(5, .int 2), (4, .int (((p1 / 10) / 10) / 10)), (0, .ref h0), (1, .int 2), (2, .int p1), (3, .int 6)]) hx hb dX5_tellSecret_40 hl (k := 1) rfl (by decide +kernel) (by decide) rfl ?_
  clear hl
  clear ls
  intro ls hl
  refine lv_goto (tgt := 8) hx hb dX5_tellSecret_43 (by decide) ?_
  refine lv_iload hx hb dX5_tellSecret_8 (lv_at hl 0 rfl) ?_
  refine lv_if_lt (tgt := 46) hx hb dX5_tellSecret_10 (by decide) (fun c9 => absurd c9 (by decide +kernel)) (fun _ => ?_)
  refine lv_aload_n hx hb dX5_tellSecret_13 rfl (lv_at hl 2 rfl) ?_
  refine gm_get (D := D) (ci := 5) (v := .ref h4) (C := RX5) (T := TX5) (N := 5) hx hb hg inlX5 hown hK.1 hP 0 rfl rfl 2 (by decide) tX5_2 (hg _ gw_140) rfl dX5_tellSecret_14 ?_
  refine lv_iload_n hx hb dX5_tellSecret_17 rfl (lv_at hl 3 rfl) ?_
  refine lv_bipush (v := 6) hx hb dX5_tellSecret_18 (by decide +kernel) ?_
  refine lv_imul hx hb dX5_tellSecret_20 ?_
  refine g_fi (v := 12) (by decide +kernel) ?_
  refine lv_iload hx hb dX5_tellSecret_21 (lv_at hl 0 rfl) ?_
  refine lv_iadd hx hb dX5_tellSecret_23 ?_
  refine g_fi (v := 14) (by decide +kernel) ?_
  refine lv_iload hx hb dX5_tellSecret_24 (lv_at hl 1 rfl) ?_
  refine lv_bipush (v := 10) hx hb dX5_tellSecret_26 (by decide +kernel) ?_
  refine lv_irem hx hb dX5_tellSecret_28 (by decide +kernel) ?_
  refine lv_i2l (v := (((((p1 / 10) / 10) / 10) - (((p1 / 10) / 10) / 10) / 10 * 10).toInt64)) hx hb dX5_tellSecret_29 rfl ?_
  refine g_av (wr := [(h0, .inr (5, [.ref h2, .ref h3, .ref h4, .ref h5, .int wp4000580])), (h5, .inr (8, [.ref h10, .int wp4000583])), (h10, .inl (y 1, 3, .inr (.inl (fun _ => 0)))), (h2, .inr (8, [.ref h12, .int 0]))]) (va_runV (As := [.int 14, .long (((((p1 / 10) / 10) / 10) - (((p1 / 10) / 10) / 10) / 10 * 10).toInt64)]) (rest := []) ⟨hx, hb, hml, hown, hg⟩ (k_X8_set_35 l D y aS H.size h4 (((((p1 / 10) / 10) / 10) - (((p1 / 10) / 10) / 10) / 10 * 10).toInt64) h7 wp4000581 (vp_updL (vp_updL (vp_updL wf4000582 ((17 : Int32).toNatClampNeg) ((p1 - p1 / 10 * 10).toInt64)) ((16 : Int32).toNatClampNeg) (((p1 / 10) - (p1 / 10) / 10 * 10).toInt64)) ((15 : Int32).toNatClampNeg) ((((p1 / 10) / 10) - ((p1 / 10) / 10) / 10 * 10).toInt64))) (cwV 2 hg ggV_RX5_29_X8_set rfl rfl rfl (by decide +kernel) ⟨Nat.le_of_ble_eq_true rfl, Nat.le_of_ble_eq_true rfl⟩) (g_preV (q := (RX8, TX8, 2)) hK hP hD [4, 5] rfl (by decide) (ci := 8) (q0 := 4) rfl rfl) rfl rfl hl.1 rfl (lv_room (Nat.le_of_ble_eq_true rfl)) dX5_tellSecret_30 ⟨Nat.le_of_ble_eq_true rfl, Nat.le_of_ble_eq_true rfl⟩) hP hD hS hA [4, 5] [0, 1, 2, 3] rfl rfl (by decide) (by decide) ?_
  clear hP hD hS H locs
  refine fun u H locs hq hP hD hS => ?_
  replace hP : va_P D vwCl [(h0, .inr (5, [.ref h2, .ref h3, .ref h4, .ref h5, .int wp4000580])), (h5, .inr (8, [.ref h10, .int wp4000583])), (h10, .inl (y 1, 3, .inr (.inl (fun _ => 0)))), (h2, .inr (8, [.ref h12, .int 0])), (h4, .inr (8, [.ref h7, .int wp4000581])), (h7, .inl (y 1, 18, .inr (.inl (vp_updL (vp_updL (vp_updL (vp_updL wf4000582 ((17 : Int32).toNatClampNeg) ((p1 - p1 / 10 * 10).toInt64)) ((16 : Int32).toNatClampNeg) (((p1 / 10) - (p1 / 10) / 10 * 10).toInt64)) ((15 : Int32).toNatClampNeg) ((((p1 / 10) / 10) - ((p1 / 10) / 10) / 10 * 10).toInt64)) ((14 : Int32).toNatClampNeg) (((((p1 / 10) / 10) / 10) - (((p1 / 10) / 10) / 10) / 10 * 10).toInt64)))))] H := hP
  replace hD : va_D A [(h0, .inr (5, [.ref h2, .ref h3, .ref h4, .ref h5, .int wp4000580])), (h5, .inr (8, [.ref h10, .int wp4000583])), (h10, .inl (y 1, 3, .inr (.inl (fun _ => 0)))), (h2, .inr (8, [.ref h12, .int 0])), (h4, .inr (8, [.ref h7, .int wp4000581])), (h7, .inl (y 1, 18, .inr (.inl (vp_updL (vp_updL (vp_updL (vp_updL wf4000582 ((17 : Int32).toNatClampNeg) ((p1 - p1 / 10 * 10).toInt64)) ((16 : Int32).toNatClampNeg) (((p1 / 10) - (p1 / 10) / 10 * 10).toInt64)) ((15 : Int32).toNatClampNeg) ((((p1 / 10) / 10) - ((p1 / 10) / 10) / 10 * 10).toInt64)) ((14 : Int32).toNatClampNeg) (((((p1 / 10) / 10) / 10) - (((p1 / 10) / 10) / 10) / 10 * 10).toInt64)))))] := hD
  refine lv_iload hx hb dX5_tellSecret_33 (lv_at hl 1 rfl) ?_
  refine lv_bipush (v := 10) hx hb dX5_tellSecret_35 (by decide +kernel) ?_
  refine lv_idiv hx hb dX5_tellSecret_37 (by decide +kernel) ?_
  refine lv_istore (lv' := [(4, .int ((((p1 / 10) / 10) / 10) / 10)), (5, .int 2), (0, .ref h0), (1, .int 2), (2, .int p1), (3, .int 6)]) hx hb dX5_tellSecret_38 hl (by decide) rfl ?_
  clear hl
  clear ls
  intro ls hl
  refine lv_iinc (v := 1) (lv' := [(5, .int 1), (4, .int ((((p1 / 10) / 10) / 10) / 10)), (0, .ref h0), (1, .int 2), (2, .int p1), (3, .int 6)]) hx hb dX5_tellSecret_40 hl (k := 1) rfl (by decide +kernel) (by decide) rfl ?_
  clear hl
  clear ls
  intro ls hl
  refine lv_goto (tgt := 8) hx hb dX5_tellSecret_43 (by decide) ?_
  refine lv_iload hx hb dX5_tellSecret_8 (lv_at hl 0 rfl) ?_
  refine lv_if_lt (tgt := 46) hx hb dX5_tellSecret_10 (by decide) (fun c9 => absurd c9 (by decide +kernel)) (fun _ => ?_)
  refine lv_aload_n hx hb dX5_tellSecret_13 rfl (lv_at hl 2 rfl) ?_
  refine gm_get (D := D) (ci := 5) (v := .ref h4) (C := RX5) (T := TX5) (N := 5) hx hb hg inlX5 hown hK.1 hP 0 rfl rfl 2 (by decide) tX5_2 (hg _ gw_140) rfl dX5_tellSecret_14 ?_
  refine lv_iload_n hx hb dX5_tellSecret_17 rfl (lv_at hl 3 rfl) ?_
  refine lv_bipush (v := 6) hx hb dX5_tellSecret_18 (by decide +kernel) ?_
  refine lv_imul hx hb dX5_tellSecret_20 ?_
  refine g_fi (v := 12) (by decide +kernel) ?_
  refine lv_iload hx hb dX5_tellSecret_21 (lv_at hl 0 rfl) ?_
  refine lv_iadd hx hb dX5_tellSecret_23 ?_
  refine g_fi (v := 13) (by decide +kernel) ?_
  refine lv_iload hx hb dX5_tellSecret_24 (lv_at hl 1 rfl) ?_
  refine lv_bipush (v := 10) hx hb dX5_tellSecret_26 (by decide +kernel) ?_
  refine lv_irem hx hb dX5_tellSecret_28 (by decide +kernel) ?_
  refine lv_i2l (v := ((((((p1 / 10) / 10) / 10) / 10) - ((((p1 / 10) / 10) / 10) / 10) / 10 * 10).toInt64)) hx hb dX5_tellSecret_29 rfl ?_
  refine g_av (wr := [(h0, .inr (5, [.ref h2, .ref h3, .ref h4, .ref h5, .int wp4000580])), (h5, .inr (8, [.ref h10, .int wp4000583])), (h10, .inl (y 1, 3, .inr (.inl (fun _ => 0)))), (h2, .inr (8, [.ref h12, .int 0]))]) (va_runV (As := [.int 13, .long ((((((p1 / 10) / 10) / 10) / 10) - ((((p1 / 10) / 10) / 10) / 10) / 10 * 10).toInt64)]) (rest := []) ⟨hx, hb, hml, hown, hg⟩ (k_X8_set_31 l D y aS H.size h4 ((((((p1 / 10) / 10) / 10) / 10) - ((((p1 / 10) / 10) / 10) / 10) / 10 * 10).toInt64) h7 wp4000581 (vp_updL (vp_updL (vp_updL (vp_updL wf4000582 ((17 : Int32).toNatClampNeg) ((p1 - p1 / 10 * 10).toInt64)) ((16 : Int32).toNatClampNeg) (((p1 / 10) - (p1 / 10) / 10 * 10).toInt64)) ((15 : Int32).toNatClampNeg) ((((p1 / 10) / 10) - ((p1 / 10) / 10) / 10 * 10).toInt64)) ((14 : Int32).toNatClampNeg) (((((p1 / 10) / 10) / 10) - (((p1 / 10) / 10) / 10) / 10 * 10).toInt64))) (cwV 2 hg ggV_RX5_29_X8_set rfl rfl rfl (by decide +kernel) ⟨Nat.le_of_ble_eq_true rfl, Nat.le_of_ble_eq_true rfl⟩) (g_preV (q := (RX8, TX8, 2)) hK hP hD [4, 5] rfl (by decide) (ci := 8) (q0 := 4) rfl rfl) rfl rfl hl.1 rfl (lv_room (Nat.le_of_ble_eq_true rfl)) dX5_tellSecret_30 ⟨Nat.le_of_ble_eq_true rfl, Nat.le_of_ble_eq_true rfl⟩) hP hD hS hA [4, 5] [0, 1, 2, 3] rfl rfl (by decide) (by decide) ?_
  clear hP hD hS H locs
  refine fun u H locs hq hP hD hS => ?_
  replace hP : va_P D vwCl [(h0, .inr (5, [.ref h2, .ref h3, .ref h4, .ref h5, .int wp4000580])), (h5, .inr (8, [.ref h10, .int wp4000583])), (h10, .inl (y 1, 3, .inr (.inl (fun _ => 0)))), (h2, .inr (8, [.ref h12, .int 0])), (h4, .inr (8, [.ref h7, .int wp4000581])), (h7, .inl (y 1, 18, .inr (.inl (vp_updL (vp_updL (vp_updL (vp_updL (vp_updL wf4000582 ((17 : Int32).toNatClampNeg) ((p1 - p1 / 10 * 10).toInt64)) ((16 : Int32).toNatClampNeg) (((p1 / 10) - (p1 / 10) / 10 * 10).toInt64)) ((15 : Int32).toNatClampNeg) ((((p1 / 10) / 10) - ((p1 / 10) / 10) / 10 * 10).toInt64)) ((14 : Int32).toNatClampNeg) (((((p1 / 10) / 10) / 10) - (((p1 / 10) / 10) / 10) / 10 * 10).toInt64)) ((13 : Int32).toNatClampNeg) ((((((p1 / 10) / 10) / 10) / 10) - ((((p1 / 10) / 10) / 10) / 10) / 10 * 10).toInt64)))))] H := hP
  replace hD : va_D A [(h0, .inr (5, [.ref h2, .ref h3, .ref h4, .ref h5, .int wp4000580])), (h5, .inr (8, [.ref h10, .int wp4000583])), (h10, .inl (y 1, 3, .inr (.inl (fun _ => 0)))), (h2, .inr (8, [.ref h12, .int 0])), (h4, .inr (8, [.ref h7, .int wp4000581])), (h7, .inl (y 1, 18, .inr (.inl (vp_updL (vp_updL (vp_updL (vp_updL (vp_updL wf4000582 ((17 : Int32).toNatClampNeg) ((p1 - p1 / 10 * 10).toInt64)) ((16 : Int32).toNatClampNeg) (((p1 / 10) - (p1 / 10) / 10 * 10).toInt64)) ((15 : Int32).toNatClampNeg) ((((p1 / 10) / 10) - ((p1 / 10) / 10) / 10 * 10).toInt64)) ((14 : Int32).toNatClampNeg) (((((p1 / 10) / 10) / 10) - (((p1 / 10) / 10) / 10) / 10 * 10).toInt64)) ((13 : Int32).toNatClampNeg) ((((((p1 / 10) / 10) / 10) / 10) - ((((p1 / 10) / 10) / 10) / 10) / 10 * 10).toInt64)))))] := hD
  refine lv_iload hx hb dX5_tellSecret_33 (lv_at hl 1 rfl) ?_
  refine lv_bipush (v := 10) hx hb dX5_tellSecret_35 (by decide +kernel) ?_
  refine lv_idiv hx hb dX5_tellSecret_37 (by decide +kernel) ?_
  refine lv_istore (lv' := [(4, .int (((((p1 / 10) / 10) / 10) / 10) / 10)), (5, .int 1), (0, .ref h0), (1, .int 2), (2, .int p1), (3, .int 6)]) hx hb dX5_tellSecret_38 hl (by decide) rfl ?_
  clear hl
  clear ls
  intro ls hl
  refine lv_iinc (v := 0) (lv' := [(5, .int 0), (4, .int (((((p1 / 10) / 10) / 10) / 10) / 10)), (0, .ref h0), (1, .int 2), (2, .int p1), (3, .int 6)]) hx hb dX5_tellSecret_40 hl (k := 1) rfl (by decide +kernel) (by decide) rfl ?_
  clear hl
  clear ls
  intro ls hl
  refine lv_goto (tgt := 8) hx hb dX5_tellSecret_43 (by decide) ?_
  refine lv_iload hx hb dX5_tellSecret_8 (lv_at hl 0 rfl) ?_
  refine lv_if_lt (tgt := 46) hx hb dX5_tellSecret_10 (by decide) (fun c9 => absurd c9 (by decide +kernel)) (fun _ => ?_)
  refine lv_aload_n hx hb dX5_tellSecret_13 rfl (lv_at hl 2 rfl) ?_
  refine gm_get (D := D) (ci := 5) (v := .ref h4) (C := RX5) (T := TX5) (N := 5) hx hb hg inlX5 hown hK.1 hP 0 rfl rfl 2 (by decide) tX5_2 (hg _ gw_140) rfl dX5_tellSecret_14 ?_
  refine lv_iload_n hx hb dX5_tellSecret_17 rfl (lv_at hl 3 rfl) ?_
  refine lv_bipush (v := 6) hx hb dX5_tellSecret_18 (by decide +kernel) ?_
  refine lv_imul hx hb dX5_tellSecret_20 ?_
  refine g_fi (v := 12) (by decide +kernel) ?_
  refine lv_iload hx hb dX5_tellSecret_21 (lv_at hl 0 rfl) ?_
  refine lv_iadd hx hb dX5_tellSecret_23 ?_
  refine g_fi (v := 12) (by decide +kernel) ?_
  refine lv_iload hx hb dX5_tellSecret_24 (lv_at hl 1 rfl) ?_
  refine lv_bipush (v := 10) hx hb dX5_tellSecret_26 (by decide +kernel) ?_
  refine lv_irem hx hb dX5_tellSecret_28 (by decide +kernel) ?_
  refine lv_i2l (v := (((((((p1 / 10) / 10) / 10) / 10) / 10) - (((((p1 / 10) / 10) / 10) / 10) / 10) / 10 * 10).toInt64)) hx hb dX5_tellSecret_29 rfl ?_
  refine g_av (wr := [(h0, .inr (5, [.ref h2, .ref h3, .ref h4, .ref h5, .int wp4000580])), (h5, .inr (8, [.ref h10, .int wp4000583])), (h10, .inl (y 1, 3, .inr (.inl (fun _ => 0)))), (h2, .inr (8, [.ref h12, .int 0]))]) (va_runV (As := [.int 12, .long (((((((p1 / 10) / 10) / 10) / 10) / 10) - (((((p1 / 10) / 10) / 10) / 10) / 10) / 10 * 10).toInt64)]) (rest := []) ⟨hx, hb, hml, hown, hg⟩ (k_X8_set_32 l D y aS H.size h4 (((((((p1 / 10) / 10) / 10) / 10) / 10) - (((((p1 / 10) / 10) / 10) / 10) / 10) / 10 * 10).toInt64) h7 wp4000581 (vp_updL (vp_updL (vp_updL (vp_updL (vp_updL wf4000582 ((17 : Int32).toNatClampNeg) ((p1 - p1 / 10 * 10).toInt64)) ((16 : Int32).toNatClampNeg) (((p1 / 10) - (p1 / 10) / 10 * 10).toInt64)) ((15 : Int32).toNatClampNeg) ((((p1 / 10) / 10) - ((p1 / 10) / 10) / 10 * 10).toInt64)) ((14 : Int32).toNatClampNeg) (((((p1 / 10) / 10) / 10) - (((p1 / 10) / 10) / 10) / 10 * 10).toInt64)) ((13 : Int32).toNatClampNeg) ((((((p1 / 10) / 10) / 10) / 10) - ((((p1 / 10) / 10) / 10) / 10) / 10 * 10).toInt64))) (cwV 2 hg ggV_RX5_29_X8_set rfl rfl rfl (by decide +kernel) ⟨Nat.le_of_ble_eq_true rfl, Nat.le_of_ble_eq_true rfl⟩) (g_preV (q := (RX8, TX8, 2)) hK hP hD [4, 5] rfl (by decide) (ci := 8) (q0 := 4) rfl rfl) rfl rfl hl.1 rfl (lv_room (Nat.le_of_ble_eq_true rfl)) dX5_tellSecret_30 ⟨Nat.le_of_ble_eq_true rfl, Nat.le_of_ble_eq_true rfl⟩) hP hD hS hA [4, 5] [0, 1, 2, 3] rfl rfl (by decide) (by decide) ?_
  clear hP hD hS H locs
  refine fun u H locs hq hP hD hS => ?_
  replace hP : va_P D vwCl [(h0, .inr (5, [.ref h2, .ref h3, .ref h4, .ref h5, .int wp4000580])), (h5, .inr (8, [.ref h10, .int wp4000583])), (h10, .inl (y 1, 3, .inr (.inl (fun _ => 0)))), (h2, .inr (8, [.ref h12, .int 0])), (h4, .inr (8, [.ref h7, .int wp4000581])), (h7, .inl (y 1, 18, .inr (.inl (vp_updL (vp_updL (vp_updL (vp_updL (vp_updL (vp_updL wf4000582 ((17 : Int32).toNatClampNeg) ((p1 - p1 / 10 * 10).toInt64)) ((16 : Int32).toNatClampNeg) (((p1 / 10) - (p1 / 10) / 10 * 10).toInt64)) ((15 : Int32).toNatClampNeg) ((((p1 / 10) / 10) - ((p1 / 10) / 10) / 10 * 10).toInt64)) ((14 : Int32).toNatClampNeg) (((((p1 / 10) / 10) / 10) - (((p1 / 10) / 10) / 10) / 10 * 10).toInt64)) ((13 : Int32).toNatClampNeg) ((((((p1 / 10) / 10) / 10) / 10) - ((((p1 / 10) / 10) / 10) / 10) / 10 * 10).toInt64)) ((12 : Int32).toNatClampNeg) (((((((p1 / 10) / 10) / 10) / 10) / 10) - (((((p1 / 10) / 10) / 10) / 10) / 10) / 10 * 10).toInt64)))))] H := hP
  replace hD : va_D A [(h0, .inr (5, [.ref h2, .ref h3, .ref h4, .ref h5, .int wp4000580])), (h5, .inr (8, [.ref h10, .int wp4000583])), (h10, .inl (y 1, 3, .inr (.inl (fun _ => 0)))), (h2, .inr (8, [.ref h12, .int 0])), (h4, .inr (8, [.ref h7, .int wp4000581])), (h7, .inl (y 1, 18, .inr (.inl (vp_updL (vp_updL (vp_updL (vp_updL (vp_updL (vp_updL wf4000582 ((17 : Int32).toNatClampNeg) ((p1 - p1 / 10 * 10).toInt64)) ((16 : Int32).toNatClampNeg) (((p1 / 10) - (p1 / 10) / 10 * 10).toInt64)) ((15 : Int32).toNatClampNeg) ((((p1 / 10) / 10) - ((p1 / 10) / 10) / 10 * 10).toInt64)) ((14 : Int32).toNatClampNeg) (((((p1 / 10) / 10) / 10) - (((p1 / 10) / 10) / 10) / 10 * 10).toInt64)) ((13 : Int32).toNatClampNeg) ((((((p1 / 10) / 10) / 10) / 10) - ((((p1 / 10) / 10) / 10) / 10) / 10 * 10).toInt64)) ((12 : Int32).toNatClampNeg) (((((((p1 / 10) / 10) / 10) / 10) / 10) - (((((p1 / 10) / 10) / 10) / 10) / 10) / 10 * 10).toInt64)))))] := hD
  refine lv_iload hx hb dX5_tellSecret_33 (lv_at hl 1 rfl) ?_
  refine lv_bipush (v := 10) hx hb dX5_tellSecret_35 (by decide +kernel) ?_
  refine lv_idiv hx hb dX5_tellSecret_37 (by decide +kernel) ?_
  refine lv_istore (lv' := [(4, .int ((((((p1 / 10) / 10) / 10) / 10) / 10) / 10)), (5, .int 0), (0, .ref h0), (1, .int 2), (2, .int p1), (3, .int 6)]) hx hb dX5_tellSecret_38 hl (by decide) rfl ?_
  clear hl
  clear ls
  intro ls hl
  refine lv_iinc (v := (-1)) (lv' := [(5, .int (-1)), (4, .int ((((((p1 / 10) / 10) / 10) / 10) / 10) / 10)), (0, .ref h0), (1, .int 2), (2, .int p1), (3, .int 6)]) hx hb dX5_tellSecret_40 hl (k := 1) rfl (by decide +kernel) (by decide) rfl ?_
  clear hl
  clear ls
  intro ls hl
  refine lv_goto (tgt := 8) hx hb dX5_tellSecret_43 (by decide) ?_
  refine lv_iload hx hb dX5_tellSecret_8 (lv_at hl 0 rfl) ?_
  refine lv_if_lt (tgt := 46) hx hb dX5_tellSecret_10 (by decide) (fun _ => ?_) (fun c9 => absurd c9 (by decide +kernel))
  refine lv_aload_n hx hb dX5_tellSecret_46 rfl (lv_at hl 2 rfl) ?_
  refine gm_get (D := D) (ci := 5) (v := .ref h5) (C := RX5) (T := TX5) (N := 5) hx hb hg inlX5 hown hK.1 hP 0 rfl rfl 3 (by decide) tX5_3 (hg _ gw_141) rfl dX5_tellSecret_47 ?_
  refine lv_iload_n hx hb dX5_tellSecret_50 rfl (lv_at hl 3 rfl) ?_
  refine lv_iload_n hx hb dX5_tellSecret_51 rfl (lv_at hl 5 rfl) ?_
  refine lv_i2l (v := 6) hx hb dX5_tellSecret_52 (by decide +kernel) ?_
  refine g_av (wr := [(h0, .inr (5, [.ref h2, .ref h3, .ref h4, .ref h5, .int wp4000580])), (h2, .inr (8, [.ref h12, .int 0])), (h4, .inr (8, [.ref h7, .int wp4000581])), (h7, .inl (y 1, 18, .inr (.inl (vp_updL (vp_updL (vp_updL (vp_updL (vp_updL (vp_updL wf4000582 ((17 : Int32).toNatClampNeg) ((p1 - p1 / 10 * 10).toInt64)) ((16 : Int32).toNatClampNeg) (((p1 / 10) - (p1 / 10) / 10 * 10).toInt64)) ((15 : Int32).toNatClampNeg) ((((p1 / 10) / 10) - ((p1 / 10) / 10) / 10 * 10).toInt64)) ((14 : Int32).toNatClampNeg) (((((p1 / 10) / 10) / 10) - (((p1 / 10) / 10) / 10) / 10 * 10).toInt64)) ((13 : Int32).toNatClampNeg) ((((((p1 / 10) / 10) / 10) / 10) - ((((p1 / 10) / 10) / 10) / 10) / 10 * 10).toInt64)) ((12 : Int32).toNatClampNeg) (((((((p1 / 10) / 10) / 10) / 10) / 10) - (((((p1 / 10) / 10) / 10) / 10) / 10) / 10 * 10).toInt64)))))]) (va_runV (As := [.int 2, .long 6]) (rest := []) ⟨hx, hb, hml, hown, hg⟩ (k_X8_set_26 l D y aS H.size h5 6 h10 wp4000583 (fun _ => 0)) (cwV 2 hg ggV_RX5_29_X8_set rfl rfl rfl (by decide +kernel) ⟨Nat.le_of_ble_eq_true rfl, Nat.le_of_ble_eq_true rfl⟩) (g_preV (q := (RX8, TX8, 2)) hK hP hD [1, 2] rfl (by decide) (ci := 8) (q0 := 1) rfl rfl) rfl rfl hl.1 rfl (lv_room (Nat.le_of_ble_eq_true rfl)) dX5_tellSecret_53 ⟨Nat.le_of_ble_eq_true rfl, Nat.le_of_ble_eq_true rfl⟩) hP hD hS hA [1, 2] [0, 3, 4, 5] rfl rfl (by decide) (by decide) ?_
  clear hP hD hS H locs
  refine fun u H locs hq hP hD hS => ?_
  replace hP : va_P D vwCl [(h0, .inr (5, [.ref h2, .ref h3, .ref h4, .ref h5, .int wp4000580])), (h2, .inr (8, [.ref h12, .int 0])), (h4, .inr (8, [.ref h7, .int wp4000581])), (h7, .inl (y 1, 18, .inr (.inl (vp_updL (vp_updL (vp_updL (vp_updL (vp_updL (vp_updL wf4000582 ((17 : Int32).toNatClampNeg) ((p1 - p1 / 10 * 10).toInt64)) ((16 : Int32).toNatClampNeg) (((p1 / 10) - (p1 / 10) / 10 * 10).toInt64)) ((15 : Int32).toNatClampNeg) ((((p1 / 10) / 10) - ((p1 / 10) / 10) / 10 * 10).toInt64)) ((14 : Int32).toNatClampNeg) (((((p1 / 10) / 10) / 10) - (((p1 / 10) / 10) / 10) / 10 * 10).toInt64)) ((13 : Int32).toNatClampNeg) ((((((p1 / 10) / 10) / 10) / 10) - ((((p1 / 10) / 10) / 10) / 10) / 10 * 10).toInt64)) ((12 : Int32).toNatClampNeg) (((((((p1 / 10) / 10) / 10) / 10) / 10) - (((((p1 / 10) / 10) / 10) / 10) / 10) / 10 * 10).toInt64))))), (h5, .inr (8, [.ref h10, .int wp4000583])), (h10, .inl (y 1, 3, .inr (.inl (vp_updL (fun _ => 0) ((2 : Int32).toNatClampNeg) 6))))] H := hP
  replace hD : va_D A [(h0, .inr (5, [.ref h2, .ref h3, .ref h4, .ref h5, .int wp4000580])), (h2, .inr (8, [.ref h12, .int 0])), (h4, .inr (8, [.ref h7, .int wp4000581])), (h7, .inl (y 1, 18, .inr (.inl (vp_updL (vp_updL (vp_updL (vp_updL (vp_updL (vp_updL wf4000582 ((17 : Int32).toNatClampNeg) ((p1 - p1 / 10 * 10).toInt64)) ((16 : Int32).toNatClampNeg) (((p1 / 10) - (p1 / 10) / 10 * 10).toInt64)) ((15 : Int32).toNatClampNeg) ((((p1 / 10) / 10) - ((p1 / 10) / 10) / 10 * 10).toInt64)) ((14 : Int32).toNatClampNeg) (((((p1 / 10) / 10) / 10) - (((p1 / 10) / 10) / 10) / 10 * 10).toInt64)) ((13 : Int32).toNatClampNeg) ((((((p1 / 10) / 10) / 10) / 10) - ((((p1 / 10) / 10) / 10) / 10) / 10 * 10).toInt64)) ((12 : Int32).toNatClampNeg) (((((((p1 / 10) / 10) / 10) / 10) / 10) - (((((p1 / 10) / 10) / 10) / 10) / 10) / 10 * 10).toInt64))))), (h5, .inr (8, [.ref h10, .int wp4000583])), (h10, .inl (y 1, 3, .inr (.inl (vp_updL (fun _ => 0) ((2 : Int32).toNatClampNeg) 6))))] := hD
  refine lv_aload_n hx hb dX5_tellSecret_56 rfl (lv_at hl 2 rfl) ?_
  refine g_av (wr := [(h4, .inr (8, [.ref h7, .int wp4000581])), (h7, .inl (y 1, 18, .inr (.inl (vp_updL (vp_updL (vp_updL (vp_updL (vp_updL (vp_updL wf4000582 ((17 : Int32).toNatClampNeg) ((p1 - p1 / 10 * 10).toInt64)) ((16 : Int32).toNatClampNeg) (((p1 / 10) - (p1 / 10) / 10 * 10).toInt64)) ((15 : Int32).toNatClampNeg) ((((p1 / 10) / 10) - ((p1 / 10) / 10) / 10 * 10).toInt64)) ((14 : Int32).toNatClampNeg) (((((p1 / 10) / 10) / 10) - (((p1 / 10) / 10) / 10) / 10 * 10).toInt64)) ((13 : Int32).toNatClampNeg) ((((((p1 / 10) / 10) / 10) / 10) - ((((p1 / 10) / 10) / 10) / 10) / 10 * 10).toInt64)) ((12 : Int32).toNatClampNeg) (((((((p1 / 10) / 10) / 10) / 10) / 10) - (((((p1 / 10) / 10) / 10) / 10) / 10) / 10 * 10).toInt64))))), (h5, .inr (8, [.ref h10, .int wp4000583])), (h10, .inl (y 1, 3, .inr (.inl (vp_updL (fun _ => 0) ((2 : Int32).toNatClampNeg) 6))))]) (va_runV (As := []) (rest := []) ⟨hx, hb, hml, hown, hg⟩ (k_X5_findOut_0 l D y aS H.size h0 h2 h3 h4 h5 wp4000580 h12) (cwV 0 hg ggV_RX5_33_X5_findOut rfl rfl rfl (by decide +kernel) ⟨Nat.le_of_ble_eq_true rfl, Nat.le_of_ble_eq_true rfl⟩) (g_preV (q := (RX5, TX5, 5)) hK hP hD [0, 1] rfl (by decide) (ci := 5) (q0 := 0) rfl rfl) rfl rfl hl.1 rfl (lv_room (Nat.le_of_ble_eq_true rfl)) dX5_tellSecret_57 ⟨Nat.le_of_ble_eq_true rfl, Nat.le_of_ble_eq_true rfl⟩) hP hD hS hA [0, 1] [2, 3, 4, 5] rfl rfl (by decide) (by decide) ?_
  clear hP hD hS H locs
  refine fun u H locs hq hP hD hS => ?_
  replace hP : va_P D vwCl [(h4, .inr (8, [.ref h7, .int wp4000581])), (h7, .inl (y 1, 18, .inr (.inl (vp_updL (vp_updL (vp_updL (vp_updL (vp_updL (vp_updL wf4000582 ((17 : Int32).toNatClampNeg) ((p1 - p1 / 10 * 10).toInt64)) ((16 : Int32).toNatClampNeg) (((p1 / 10) - (p1 / 10) / 10 * 10).toInt64)) ((15 : Int32).toNatClampNeg) ((((p1 / 10) / 10) - ((p1 / 10) / 10) / 10 * 10).toInt64)) ((14 : Int32).toNatClampNeg) (((((p1 / 10) / 10) / 10) - (((p1 / 10) / 10) / 10) / 10 * 10).toInt64)) ((13 : Int32).toNatClampNeg) ((((((p1 / 10) / 10) / 10) / 10) - ((((p1 / 10) / 10) / 10) / 10) / 10 * 10).toInt64)) ((12 : Int32).toNatClampNeg) (((((((p1 / 10) / 10) / 10) / 10) / 10) - (((((p1 / 10) / 10) / 10) / 10) / 10) / 10 * 10).toInt64))))), (h5, .inr (8, [.ref h10, .int wp4000583])), (h10, .inl (y 1, 3, .inr (.inl (vp_updL (fun _ => 0) ((2 : Int32).toNatClampNeg) 6)))), (h0, .inr (5, [.ref h2, .ref h3, .ref h4, .ref h5, .int 0])), (h2, .inr (8, [.ref h12, .int 0]))] H := hP
  replace hD : va_D A [(h4, .inr (8, [.ref h7, .int wp4000581])), (h7, .inl (y 1, 18, .inr (.inl (vp_updL (vp_updL (vp_updL (vp_updL (vp_updL (vp_updL wf4000582 ((17 : Int32).toNatClampNeg) ((p1 - p1 / 10 * 10).toInt64)) ((16 : Int32).toNatClampNeg) (((p1 / 10) - (p1 / 10) / 10 * 10).toInt64)) ((15 : Int32).toNatClampNeg) ((((p1 / 10) / 10) - ((p1 / 10) / 10) / 10 * 10).toInt64)) ((14 : Int32).toNatClampNeg) (((((p1 / 10) / 10) / 10) - (((p1 / 10) / 10) / 10) / 10 * 10).toInt64)) ((13 : Int32).toNatClampNeg) ((((((p1 / 10) / 10) / 10) / 10) - ((((p1 / 10) / 10) / 10) / 10) / 10 * 10).toInt64)) ((12 : Int32).toNatClampNeg) (((((((p1 / 10) / 10) / 10) / 10) / 10) - (((((p1 / 10) / 10) / 10) / 10) / 10) / 10 * 10).toInt64))))), (h5, .inr (8, [.ref h10, .int wp4000583])), (h10, .inl (y 1, 3, .inr (.inl (vp_updL (fun _ => 0) ((2 : Int32).toNatClampNeg) 6)))), (h0, .inr (5, [.ref h2, .ref h3, .ref h4, .ref h5, .int 0])), (h2, .inr (8, [.ref h12, .int 0]))] := hD
  refine lv_iconst (v := 0) hx hb dX5_tellSecret_60 (by decide) ?_
  refine lv_istore (lv' := [(5, .int 0), (4, .int ((((((p1 / 10) / 10) / 10) / 10) / 10) / 10)), (0, .ref h0), (1, .int 2), (2, .int p1), (3, .int 6)]) hx hb dX5_tellSecret_61 hl (by decide) rfl ?_
  clear hl
  clear ls
  intro ls hl
  refine lv_iconst (v := 0) hx hb dX5_tellSecret_63 (by decide) ?_
  refine lv_istore (lv' := [(6, .int 0), (5, .int 0), (4, .int ((((((p1 / 10) / 10) / 10) / 10) / 10) / 10)), (0, .ref h0), (1, .int 2), (2, .int p1), (3, .int 6)]) hx hb dX5_tellSecret_64 hl (by decide) rfl ?_
  clear hl
  clear ls
  intro ls hl
  refine lv_iload hx hb dX5_tellSecret_66 (lv_at hl 0 rfl) ?_
  refine lv_iconst (v := 3) hx hb dX5_tellSecret_68 (by decide) ?_
  refine lv_icmp_ge (tgt := 95) hx hb dX5_tellSecret_69 (by decide) (fun c9 => absurd c9 (by decide +kernel)) (fun _ => ?_)
  refine lv_aload_n hx hb dX5_tellSecret_72 rfl (lv_at hl 3 rfl) ?_
  refine gm_get (D := D) (ci := 5) (v := .ref h5) (C := RX5) (T := TX5) (N := 5) hx hb hg inlX5 hown hK.1 hP 4 rfl rfl 3 (by decide) tX5_3 (hg _ gw_141) rfl dX5_tellSecret_73 ?_
  refine lv_iload hx hb dX5_tellSecret_76 (lv_at hl 0 rfl) ?_
  refine g_al (wr := [(h4, .inr (8, [.ref h7, .int wp4000581])), (h7, .inl (y 1, 18, .inr (.inl (vp_updL (vp_updL (vp_updL (vp_updL (vp_updL (vp_updL wf4000582 ((17 : Int32).toNatClampNeg) ((p1 - p1 / 10 * 10).toInt64)) ((16 : Int32).toNatClampNeg) (((p1 / 10) - (p1 / 10) / 10 * 10).toInt64)) ((15 : Int32).toNatClampNeg) ((((p1 / 10) / 10) - ((p1 / 10) / 10) / 10 * 10).toInt64)) ((14 : Int32).toNatClampNeg) (((((p1 / 10) / 10) / 10) - (((p1 / 10) / 10) / 10) / 10 * 10).toInt64)) ((13 : Int32).toNatClampNeg) ((((((p1 / 10) / 10) / 10) / 10) - ((((p1 / 10) / 10) / 10) / 10) / 10 * 10).toInt64)) ((12 : Int32).toNatClampNeg) (((((((p1 / 10) / 10) / 10) / 10) / 10) - (((((p1 / 10) / 10) / 10) / 10) / 10) / 10 * 10).toInt64))))), (h0, .inr (5, [.ref h2, .ref h3, .ref h4, .ref h5, .int 0])), (h2, .inr (8, [.ref h12, .int 0]))]) (va_runV (As := [.int 0]) (rest := []) ⟨hx, hb, hml, hown, hg⟩ (k_X8_get_44 l D y aS H.size h5 h10 wp4000583) (cwV 1 hg ggV_RX5_36_X8_get rfl rfl rfl (by decide +kernel) ⟨Nat.le_of_ble_eq_true rfl, Nat.le_of_ble_eq_true rfl⟩) (g_preV (q := (RX8, TX8, 2)) hK hP hD [2, 3] rfl (by decide) (ci := 8) (q0 := 2) rfl rfl) rfl rfl hl.1 rfl (lv_room (Nat.le_of_ble_eq_true rfl)) dX5_tellSecret_78 ⟨Nat.le_of_ble_eq_true rfl, Nat.le_of_ble_eq_true rfl⟩) hP hD hS hA [2, 3] [0, 1, 4, 5] rfl rfl (by decide) (by decide) ?_
  clear hP hD hS H locs
  refine fun r4000592 u H locs hq hP hD hS => ?_
  subst hq
  replace hP : va_P D vwCl [(h4, .inr (8, [.ref h7, .int wp4000581])), (h7, .inl (y 1, 18, .inr (.inl (vp_updL (vp_updL (vp_updL (vp_updL (vp_updL (vp_updL wf4000582 ((17 : Int32).toNatClampNeg) ((p1 - p1 / 10 * 10).toInt64)) ((16 : Int32).toNatClampNeg) (((p1 / 10) - (p1 / 10) / 10 * 10).toInt64)) ((15 : Int32).toNatClampNeg) ((((p1 / 10) / 10) - ((p1 / 10) / 10) / 10 * 10).toInt64)) ((14 : Int32).toNatClampNeg) (((((p1 / 10) / 10) / 10) - (((p1 / 10) / 10) / 10) / 10 * 10).toInt64)) ((13 : Int32).toNatClampNeg) ((((((p1 / 10) / 10) / 10) / 10) - ((((p1 / 10) / 10) / 10) / 10) / 10 * 10).toInt64)) ((12 : Int32).toNatClampNeg) (((((((p1 / 10) / 10) / 10) / 10) / 10) - (((((p1 / 10) / 10) / 10) / 10) / 10) / 10 * 10).toInt64))))), (h0, .inr (5, [.ref h2, .ref h3, .ref h4, .ref h5, .int 0])), (h2, .inr (8, [.ref h12, .int 0])), (h5, .inr (8, [.ref h10, .int wp4000583])), (h10, .inl (y 1, 3, .inr (.inl (vp_updL (fun _ => 0) ((2 : Int32).toNatClampNeg) 6))))] H := hP
  replace hD : va_D A [(h4, .inr (8, [.ref h7, .int wp4000581])), (h7, .inl (y 1, 18, .inr (.inl (vp_updL (vp_updL (vp_updL (vp_updL (vp_updL (vp_updL wf4000582 ((17 : Int32).toNatClampNeg) ((p1 - p1 / 10 * 10).toInt64)) ((16 : Int32).toNatClampNeg) (((p1 / 10) - (p1 / 10) / 10 * 10).toInt64)) ((15 : Int32).toNatClampNeg) ((((p1 / 10) / 10) - ((p1 / 10) / 10) / 10 * 10).toInt64)) ((14 : Int32).toNatClampNeg) (((((p1 / 10) / 10) / 10) - (((p1 / 10) / 10) / 10) / 10 * 10).toInt64)) ((13 : Int32).toNatClampNeg) ((((((p1 / 10) / 10) / 10) / 10) - ((((p1 / 10) / 10) / 10) / 10) / 10 * 10).toInt64)) ((12 : Int32).toNatClampNeg) (((((((p1 / 10) / 10) / 10) / 10) / 10) - (((((p1 / 10) / 10) / 10) / 10) / 10) / 10 * 10).toInt64))))), (h0, .inr (5, [.ref h2, .ref h3, .ref h4, .ref h5, .int 0])), (h2, .inr (8, [.ref h12, .int 0])), (h5, .inr (8, [.ref h10, .int wp4000583])), (h10, .inl (y 1, 3, .inr (.inl (vp_updL (fun _ => 0) ((2 : Int32).toNatClampNeg) 6))))] := hD
  refine lv_lconst (v := 0) hx hb dX5_tellSecret_81 (by decide) ?_
  refine W.lcmp hx hb dX5_tellSecret_82 ?_
  refine g_fi (v := 0) (by decide +kernel) ?_
  refine lv_if_le (tgt := 89) hx hb dX5_tellSecret_83 (by decide) (fun _ => ?_) (fun c9 => absurd c9 (by decide +kernel))
  refine lv_iinc (v := 1) (lv' := [(6, .int 1), (5, .int 0), (4, .int ((((((p1 / 10) / 10) / 10) / 10) / 10) / 10)), (0, .ref h0), (1, .int 2), (2, .int p1), (3, .int 6)]) hx hb dX5_tellSecret_89 hl (k := 0) rfl (by decide +kernel) (by decide) rfl ?_
  clear hl
  clear ls
  intro ls hl
  refine lv_goto (tgt := 66) hx hb dX5_tellSecret_92 (by decide) ?_
  refine lv_iload hx hb dX5_tellSecret_66 (lv_at hl 0 rfl) ?_
  refine lv_iconst (v := 3) hx hb dX5_tellSecret_68 (by decide) ?_
  refine lv_icmp_ge (tgt := 95) hx hb dX5_tellSecret_69 (by decide) (fun c9 => absurd c9 (by decide +kernel)) (fun _ => ?_)
  refine lv_aload_n hx hb dX5_tellSecret_72 rfl (lv_at hl 3 rfl) ?_
  refine gm_get (D := D) (ci := 5) (v := .ref h5) (C := RX5) (T := TX5) (N := 5) hx hb hg inlX5 hown hK.1 hP 2 rfl rfl 3 (by decide) tX5_3 (hg _ gw_141) rfl dX5_tellSecret_73 ?_
  refine lv_iload hx hb dX5_tellSecret_76 (lv_at hl 0 rfl) ?_
  refine g_al (wr := [(h4, .inr (8, [.ref h7, .int wp4000581])), (h7, .inl (y 1, 18, .inr (.inl (vp_updL (vp_updL (vp_updL (vp_updL (vp_updL (vp_updL wf4000582 ((17 : Int32).toNatClampNeg) ((p1 - p1 / 10 * 10).toInt64)) ((16 : Int32).toNatClampNeg) (((p1 / 10) - (p1 / 10) / 10 * 10).toInt64)) ((15 : Int32).toNatClampNeg) ((((p1 / 10) / 10) - ((p1 / 10) / 10) / 10 * 10).toInt64)) ((14 : Int32).toNatClampNeg) (((((p1 / 10) / 10) / 10) - (((p1 / 10) / 10) / 10) / 10 * 10).toInt64)) ((13 : Int32).toNatClampNeg) ((((((p1 / 10) / 10) / 10) / 10) - ((((p1 / 10) / 10) / 10) / 10) / 10 * 10).toInt64)) ((12 : Int32).toNatClampNeg) (((((((p1 / 10) / 10) / 10) / 10) / 10) - (((((p1 / 10) / 10) / 10) / 10) / 10) / 10 * 10).toInt64))))), (h0, .inr (5, [.ref h2, .ref h3, .ref h4, .ref h5, .int 0])), (h2, .inr (8, [.ref h12, .int 0]))]) (va_runV (As := [.int 1]) (rest := []) ⟨hx, hb, hml, hown, hg⟩ (k_X8_get_45 l D y aS H.size h5 h10 wp4000583) (cwV 1 hg ggV_RX5_36_X8_get rfl rfl rfl (by decide +kernel) ⟨Nat.le_of_ble_eq_true rfl, Nat.le_of_ble_eq_true rfl⟩) (g_preV (q := (RX8, TX8, 2)) hK hP hD [4, 5] rfl (by decide) (ci := 8) (q0 := 4) rfl rfl) rfl rfl hl.1 rfl (lv_room (Nat.le_of_ble_eq_true rfl)) dX5_tellSecret_78 ⟨Nat.le_of_ble_eq_true rfl, Nat.le_of_ble_eq_true rfl⟩) hP hD hS hA [4, 5] [0, 1, 2, 3] rfl rfl (by decide) (by decide) ?_
  clear hP hD hS H locs
  refine fun r4000593 u H locs hq hP hD hS => ?_
  subst hq
  replace hP : va_P D vwCl [(h4, .inr (8, [.ref h7, .int wp4000581])), (h7, .inl (y 1, 18, .inr (.inl (vp_updL (vp_updL (vp_updL (vp_updL (vp_updL (vp_updL wf4000582 ((17 : Int32).toNatClampNeg) ((p1 - p1 / 10 * 10).toInt64)) ((16 : Int32).toNatClampNeg) (((p1 / 10) - (p1 / 10) / 10 * 10).toInt64)) ((15 : Int32).toNatClampNeg) ((((p1 / 10) / 10) - ((p1 / 10) / 10) / 10 * 10).toInt64)) ((14 : Int32).toNatClampNeg) (((((p1 / 10) / 10) / 10) - (((p1 / 10) / 10) / 10) / 10 * 10).toInt64)) ((13 : Int32).toNatClampNeg) ((((((p1 / 10) / 10) / 10) / 10) - ((((p1 / 10) / 10) / 10) / 10) / 10 * 10).toInt64)) ((12 : Int32).toNatClampNeg) (((((((p1 / 10) / 10) / 10) / 10) / 10) - (((((p1 / 10) / 10) / 10) / 10) / 10) / 10 * 10).toInt64))))), (h0, .inr (5, [.ref h2, .ref h3, .ref h4, .ref h5, .int 0])), (h2, .inr (8, [.ref h12, .int 0])), (h5, .inr (8, [.ref h10, .int wp4000583])), (h10, .inl (y 1, 3, .inr (.inl (vp_updL (fun _ => 0) ((2 : Int32).toNatClampNeg) 6))))] H := hP
  replace hD : va_D A [(h4, .inr (8, [.ref h7, .int wp4000581])), (h7, .inl (y 1, 18, .inr (.inl (vp_updL (vp_updL (vp_updL (vp_updL (vp_updL (vp_updL wf4000582 ((17 : Int32).toNatClampNeg) ((p1 - p1 / 10 * 10).toInt64)) ((16 : Int32).toNatClampNeg) (((p1 / 10) - (p1 / 10) / 10 * 10).toInt64)) ((15 : Int32).toNatClampNeg) ((((p1 / 10) / 10) - ((p1 / 10) / 10) / 10 * 10).toInt64)) ((14 : Int32).toNatClampNeg) (((((p1 / 10) / 10) / 10) - (((p1 / 10) / 10) / 10) / 10 * 10).toInt64)) ((13 : Int32).toNatClampNeg) ((((((p1 / 10) / 10) / 10) / 10) - ((((p1 / 10) / 10) / 10) / 10) / 10 * 10).toInt64)) ((12 : Int32).toNatClampNeg) (((((((p1 / 10) / 10) / 10) / 10) / 10) - (((((p1 / 10) / 10) / 10) / 10) / 10) / 10 * 10).toInt64))))), (h0, .inr (5, [.ref h2, .ref h3, .ref h4, .ref h5, .int 0])), (h2, .inr (8, [.ref h12, .int 0])), (h5, .inr (8, [.ref h10, .int wp4000583])), (h10, .inl (y 1, 3, .inr (.inl (vp_updL (fun _ => 0) ((2 : Int32).toNatClampNeg) 6))))] := hD
  refine lv_lconst (v := 0) hx hb dX5_tellSecret_81 (by decide) ?_
  refine W.lcmp hx hb dX5_tellSecret_82 ?_
  refine g_fi (v := 0) (by decide +kernel) ?_
  refine lv_if_le (tgt := 89) hx hb dX5_tellSecret_83 (by decide) (fun _ => ?_) (fun c9 => absurd c9 (by decide +kernel))
  refine lv_iinc (v := 2) (lv' := [(6, .int 2), (5, .int 0), (4, .int ((((((p1 / 10) / 10) / 10) / 10) / 10) / 10)), (0, .ref h0), (1, .int 2), (2, .int p1), (3, .int 6)]) hx hb dX5_tellSecret_89 hl (k := 0) rfl (by decide +kernel) (by decide) rfl ?_
  clear hl
  clear ls
  intro ls hl
  refine lv_goto (tgt := 66) hx hb dX5_tellSecret_92 (by decide) ?_
  refine lv_iload hx hb dX5_tellSecret_66 (lv_at hl 0 rfl) ?_
  refine lv_iconst (v := 3) hx hb dX5_tellSecret_68 (by decide) ?_
  refine lv_icmp_ge (tgt := 95) hx hb dX5_tellSecret_69 (by decide) (fun c9 => absurd c9 (by decide +kernel)) (fun _ => ?_)
  refine lv_aload_n hx hb dX5_tellSecret_72 rfl (lv_at hl 3 rfl) ?_
  refine gm_get (D := D) (ci := 5) (v := .ref h5) (C := RX5) (T := TX5) (N := 5) hx hb hg inlX5 hown hK.1 hP 2 rfl rfl 3 (by decide) tX5_3 (hg _ gw_141) rfl dX5_tellSecret_73 ?_
  refine lv_iload hx hb dX5_tellSecret_76 (lv_at hl 0 rfl) ?_
  refine g_al (wr := [(h4, .inr (8, [.ref h7, .int wp4000581])), (h7, .inl (y 1, 18, .inr (.inl (vp_updL (vp_updL (vp_updL (vp_updL (vp_updL (vp_updL wf4000582 ((17 : Int32).toNatClampNeg) ((p1 - p1 / 10 * 10).toInt64)) ((16 : Int32).toNatClampNeg) (((p1 / 10) - (p1 / 10) / 10 * 10).toInt64)) ((15 : Int32).toNatClampNeg) ((((p1 / 10) / 10) - ((p1 / 10) / 10) / 10 * 10).toInt64)) ((14 : Int32).toNatClampNeg) (((((p1 / 10) / 10) / 10) - (((p1 / 10) / 10) / 10) / 10 * 10).toInt64)) ((13 : Int32).toNatClampNeg) ((((((p1 / 10) / 10) / 10) / 10) - ((((p1 / 10) / 10) / 10) / 10) / 10 * 10).toInt64)) ((12 : Int32).toNatClampNeg) (((((((p1 / 10) / 10) / 10) / 10) / 10) - (((((p1 / 10) / 10) / 10) / 10) / 10) / 10 * 10).toInt64))))), (h0, .inr (5, [.ref h2, .ref h3, .ref h4, .ref h5, .int 0])), (h2, .inr (8, [.ref h12, .int 0]))]) (va_runV (As := [.int 2]) (rest := []) ⟨hx, hb, hml, hown, hg⟩ (k_X8_get_46 l D y aS H.size h5 h10 wp4000583) (cwV 1 hg ggV_RX5_36_X8_get rfl rfl rfl (by decide +kernel) ⟨Nat.le_of_ble_eq_true rfl, Nat.le_of_ble_eq_true rfl⟩) (g_preV (q := (RX8, TX8, 2)) hK hP hD [4, 5] rfl (by decide) (ci := 8) (q0 := 4) rfl rfl) rfl rfl hl.1 rfl (lv_room (Nat.le_of_ble_eq_true rfl)) dX5_tellSecret_78 ⟨Nat.le_of_ble_eq_true rfl, Nat.le_of_ble_eq_true rfl⟩) hP hD hS hA [4, 5] [0, 1, 2, 3] rfl rfl (by decide) (by decide) ?_
  clear hP hD hS H locs
  refine fun r4000594 u H locs hq hP hD hS => ?_
  subst hq
  replace hP : va_P D vwCl [(h4, .inr (8, [.ref h7, .int wp4000581])), (h7, .inl (y 1, 18, .inr (.inl (vp_updL (vp_updL (vp_updL (vp_updL (vp_updL (vp_updL wf4000582 ((17 : Int32).toNatClampNeg) ((p1 - p1 / 10 * 10).toInt64)) ((16 : Int32).toNatClampNeg) (((p1 / 10) - (p1 / 10) / 10 * 10).toInt64)) ((15 : Int32).toNatClampNeg) ((((p1 / 10) / 10) - ((p1 / 10) / 10) / 10 * 10).toInt64)) ((14 : Int32).toNatClampNeg) (((((p1 / 10) / 10) / 10) - (((p1 / 10) / 10) / 10) / 10 * 10).toInt64)) ((13 : Int32).toNatClampNeg) ((((((p1 / 10) / 10) / 10) / 10) - ((((p1 / 10) / 10) / 10) / 10) / 10 * 10).toInt64)) ((12 : Int32).toNatClampNeg) (((((((p1 / 10) / 10) / 10) / 10) / 10) - (((((p1 / 10) / 10) / 10) / 10) / 10) / 10 * 10).toInt64))))), (h0, .inr (5, [.ref h2, .ref h3, .ref h4, .ref h5, .int 0])), (h2, .inr (8, [.ref h12, .int 0])), (h5, .inr (8, [.ref h10, .int wp4000583])), (h10, .inl (y 1, 3, .inr (.inl (vp_updL (fun _ => 0) ((2 : Int32).toNatClampNeg) 6))))] H := hP
  replace hD : va_D A [(h4, .inr (8, [.ref h7, .int wp4000581])), (h7, .inl (y 1, 18, .inr (.inl (vp_updL (vp_updL (vp_updL (vp_updL (vp_updL (vp_updL wf4000582 ((17 : Int32).toNatClampNeg) ((p1 - p1 / 10 * 10).toInt64)) ((16 : Int32).toNatClampNeg) (((p1 / 10) - (p1 / 10) / 10 * 10).toInt64)) ((15 : Int32).toNatClampNeg) ((((p1 / 10) / 10) - ((p1 / 10) / 10) / 10 * 10).toInt64)) ((14 : Int32).toNatClampNeg) (((((p1 / 10) / 10) / 10) - (((p1 / 10) / 10) / 10) / 10 * 10).toInt64)) ((13 : Int32).toNatClampNeg) ((((((p1 / 10) / 10) / 10) / 10) - ((((p1 / 10) / 10) / 10) / 10) / 10 * 10).toInt64)) ((12 : Int32).toNatClampNeg) (((((((p1 / 10) / 10) / 10) / 10) / 10) - (((((p1 / 10) / 10) / 10) / 10) / 10) / 10 * 10).toInt64))))), (h0, .inr (5, [.ref h2, .ref h3, .ref h4, .ref h5, .int 0])), (h2, .inr (8, [.ref h12, .int 0])), (h5, .inr (8, [.ref h10, .int wp4000583])), (h10, .inl (y 1, 3, .inr (.inl (vp_updL (fun _ => 0) ((2 : Int32).toNatClampNeg) 6))))] := hD
  refine lv_lconst (v := 0) hx hb dX5_tellSecret_81 (by decide) ?_
  refine W.lcmp hx hb dX5_tellSecret_82 ?_
  refine g_fi (v := 1) (by decide +kernel) ?_
  refine lv_if_le (tgt := 89) hx hb dX5_tellSecret_83 (by decide) (fun c9 => absurd c9 (by decide +kernel)) (fun _ => ?_)
  refine lv_iinc (v := 1) (lv' := [(5, .int 1), (6, .int 2), (4, .int ((((((p1 / 10) / 10) / 10) / 10) / 10) / 10)), (0, .ref h0), (1, .int 2), (2, .int p1), (3, .int 6)]) hx hb dX5_tellSecret_86 hl (k := 1) rfl (by decide +kernel) (by decide) rfl ?_
  clear hl
  clear ls
  intro ls hl
  refine lv_iinc (v := 3) (lv' := [(6, .int 3), (5, .int 1), (4, .int ((((((p1 / 10) / 10) / 10) / 10) / 10) / 10)), (0, .ref h0), (1, .int 2), (2, .int p1), (3, .int 6)]) hx hb dX5_tellSecret_89 hl (k := 1) rfl (by decide +kernel) (by decide) rfl ?_
  clear hl
  clear ls
  intro ls hl
  refine lv_goto (tgt := 66) hx hb dX5_tellSecret_92 (by decide) ?_
  refine lv_iload hx hb dX5_tellSecret_66 (lv_at hl 0 rfl) ?_
  refine lv_iconst (v := 3) hx hb dX5_tellSecret_68 (by decide) ?_
  refine lv_icmp_ge (tgt := 95) hx hb dX5_tellSecret_69 (by decide) (fun _ => ?_) (fun c9 => absurd c9 (by decide +kernel))
  refine lv_iload hx hb dX5_tellSecret_95 (lv_at hl 1 rfl) ?_
  exact g_iret hx hb hr hlocks () (hP.sub [2, 0, 1, 4, 5, 3] rfl) (hD.sub [2, 0, 1, 4, 5, 3] (by decide +kernel) rfl) hS rfl rfl (Nat.le_of_ble_eq_true rfl) (Nat.le_of_ble_eq_true rfl) dX5_tellSecret_97
